/-! an hour of the class's world -/
theorem msF_ne (o : Nat) (kd : Nat → Nat) (met : Int32) {t : Nat} (o2 j : Nat) (h1 : ¬ t = 27) (h2 : ¬ t = 28) : ∀ (l : List Nat) (I : kI), msF o kd met I l t o2 j = I t o2 j := by
  intro l
  induction l with
  | nil => intro I; rfl
  | cons s l ih => intro I; rw [msF, ih, ms1_ne _ _ _ _ _ _ _ h1 h2]
theorem enF_ne (o : Nat) {t : Nat} (o2 j : Nat) (h0 : ¬ t = 3) (h1 : ¬ t = 30) (h2 : ¬ t = 31) (h3 : ¬ t = 32) (h4 : ¬ t = 33) : ∀ (l : List Nat) (I : kI), enF o I l t o2 j = I t o2 j := by
  intro l
  induction l with
  | nil => intro I; rfl
  | cons s l ih => intro I; rw [enF, ih, en_ne _ _ _ _ _ _ h0 h1 h2 h3 h4]
theorem wlX_ne (o : Nat) {t : Nat} (o2 j : Nat) (h0 : ¬ t = 3) (h1 : ¬ t = 30) (h2 : ¬ t = 31) (h3 : ¬ t = 32) (h4 : ¬ t = 33) (l : List Nat) (I : kI) : wlX o I l t o2 j = I t o2 j := by
  have e : ∀ a b (K : kI), en o a b K t o2 j = K t o2 j := fun a b K => en_ne _ _ _ _ _ _ h0 h1 h2 h3 h4
  unfold wlX wl2 wl1
  have kk : ∀ (P : Prop) (A B : kI), A t o2 j = I t o2 j → B t o2 j = I t o2 j → (kif P A B) t o2 j = I t o2 j := by
    intro P A B hA hB
    by_cases q : P
    · rw [kif_pos q]; exact hA
    · rw [kif_neg q]; exact hB
  refine kk _ _ _ (kk _ _ _ (e _ _ _) rfl) ?_
  rw [enF_ne o o2 j h0 h1 h2 h3 h4]
  refine kk _ _ _ (kk _ _ _ rfl (e _ _ _)) ?_
  rw [e]
  exact kk _ _ _ rfl (e _ _ _)
theorem kpX_ne (I : kI) (o h : Nat) (w : Int32) {t : Nat} (o2 j : Nat) (h6 : ¬ t = 6) : kpX I o h w t o2 j = I t o2 j := by
  unfold kpX
  rw [kp3_app, if_neg (fun q => h6 q.1), if_neg (fun q => h6 q.1), tlX_app, if_neg (fun q => h6 q.1), if_neg (fun q => h6 q.1), if_neg (fun q => h6 q.1), kp1_app, if_neg (fun q => h6 q.1), if_neg (fun q => h6 q.1), if_neg (fun q => h6 q.1), if_neg (fun q => h6 q.1)]
theorem kpX_4 (I : kI) (o h : Nat) (w : Int32) : kpX I o h w 6 o 4 = I 6 o 4 := by
  unfold kpX
  simp [kp3_app, tlX_app, kp1_app]
noncomputable def mtI (o : Nat) (I : kI) : Int32 := kif (I 6 o 10 = 0) 0 1 + kif (I 6 o 16 = 0) 0 2
noncomputable def unX (o : Nat) (I : kI) : kI := kif (¬ I 6 o 13 = 0 ∧ I 6 o 10 = 0) (kw (kw I 9 o 3 (I 9 o 3 + 1)) 9 o 4 (I 9 o 4 ||| ((1 : Int32) <<< (nI ((I 6 o 4).toNatClampNeg % 24) &&& 31)))) I
noncomputable def phX (o h k : Nat) (kd : Nat → Nat) (w : Int32) (l : List Nat) (I : kI) : kI := ehX (unX o (wlX o (msF o kd (mtI o (kpX I o h w)) (kpX I o h w) l) l)) o k
theorem E_passHour {o c : Nat} {kd hr p : Nat → Nat} (h : Nat) (hh : h < 2147483646) (I : kI) (J : kJ) (hF : FL I o c kd hr p) {n k : Nat} (hn : n ≤ 400) (hb : I 3 o 4 = nI n) (hI : I 6 o 4 = nI h) (hk : k ≤ 6) (hcr : I 1 o 5 = nI k) (hs : ∃ c, c ≤ 20 ∧ I 5 o 2 = nI c) : ∃ f f2, f ≤ f2 ∧ f2 ≤ c ∧ (∀ a, a < f → hr (p a) < h) ∧ (∀ a, f ≤ a → a < c → h ≤ hr (p a)) ∧ (∀ a, a < f2 → hr (p a) < h + 1) ∧ (∀ a, f2 ≤ a → a < c → h + 1 ≤ hr (p a)) ∧ E_X9_passHour o I J = some (phX o h k kd (F_X5_weatherAt o (nI h) I J) ((List.range' f (f2 - f)).map p) I, J) := by
  have hK : FL (kpX I o h (F_X5_weatherAt o (nI h) I J)) o c kd hr p := FL_congr hF (kpX_ne _ _ _ _ _ _ (by omega)) (fun _ => kpX_ne _ _ _ _ _ _ (by omega)) (fun _ => kpX_ne _ _ _ _ _ _ (by omega)) (fun _ => kpX_ne _ _ _ _ _ _ (by omega))
  obtain ⟨f, hf, ef, h1, h2⟩ := E_firstPlaceOf hK h (by omega) J
  obtain ⟨f2, hf2, ef2, h3, h4⟩ := E_firstPlaceOf hK (h + 1) (by omega) J
  have hff : f ≤ f2 := by
    by_cases q : f ≤ f2
    · exact q
    · have a1 := h1 f2 (by omega)
      have a2 := h4 f2 (Nat.le_refl _) (by omega)
      omega
  refine ⟨f, f2, hff, hf2, h1, h2, h3, h4, ?_⟩
  have e1 := E_keepWatch o h I J (by omega) hI hs hk hcr
  unfold phX
  generalize hK1 : kpX I o h (F_X5_weatherAt o (nI h) I J) = K1 at *
  have k4 : K1 6 o 4 = nI h := by rw [← hK1, kpX_4, hI]
  have e3 : E_X9_meetShips o (nI f) K1 J = some (msF o kd (mtI o K1) K1 ((List.range' f (f2 - f)).map p), J) := by
    have g := fun met => g_meet (o := o) (kd := kd) (nI f) met h (by omega) J hf2 h2 h3 h4 (f2 - f) f K1 kfu hK k4 (Nat.le_refl _) (by omega) (by have := hF.1; unfold kfu; omega)
    unfold E_X9_meetShips mtI
    simp only [g]
    by_cases a1 : K1 6 o 10 = 0 <;> by_cases a2 : K1 6 o 16 = 0 <;> simp only [kif_eq, a1, a2, if_true, if_false]
  have hms : ∀ {t : Nat} (o2 j : Nat), ¬ t = 27 → ¬ t = 28 → msF o kd (mtI o K1) K1 ((List.range' f (f2 - f)).map p) t o2 j = K1 t o2 j := fun o2 j q1 q2 => msF_ne o kd _ o2 j q1 q2 _ K1
  have k1ne : ∀ {t : Nat} (o2 j : Nat), ¬ t = 6 → K1 t o2 j = I t o2 j := fun o2 j q => by rw [← hK1]; exact kpX_ne _ _ _ _ _ _ q
  generalize hK2 : msF o kd (mtI o K1) K1 ((List.range' f (f2 - f)).map p) = K2 at *
  have e4 := E_writeLog (o := o) (kd := kd) (hr := hr) (p := p) h (by omega) K2 J hff hf2 h2 h3 h4 (FL_congr hK (hms _ _ (by omega) (by omega)) (fun _ => hms _ _ (by omega) (by omega)) (fun _ => hms _ _ (by omega) (by omega)) (fun _ => hms _ _ (by omega) (by omega))) hn (by rw [hms _ _ (by omega) (by omega), k1ne _ _ (by omega), hb]) (by rw [hms _ _ (by omega) (by omega), k4]) hk (by rw [hms _ _ (by omega) (by omega), k1ne _ _ (by omega), hcr])
  have hwl : ∀ {t : Nat} (o2 j : Nat), ¬ t = 3 → ¬ t = 30 → ¬ t = 31 → ¬ t = 32 → ¬ t = 33 → wlX o K2 ((List.range' f (f2 - f)).map p) t o2 j = K2 t o2 j := fun o2 j q0 q1 q2 q3 q4 => wlX_ne o o2 j q0 q1 q2 q3 q4 _ K2
  generalize hK3 : wlX o K2 ((List.range' f (f2 - f)).map p) = K3 at *
  have c3 : K3 1 o 5 = nI k := by rw [hwl _ _ (by omega) (by omega) (by omega) (by omega) (by omega), hms _ _ (by omega) (by omega), k1ne _ _ (by omega), hcr]
  have t3 : K3 6 o 4 = nI h := by rw [hwl _ _ (by omega) (by omega) (by omega) (by omega) (by omega), hms _ _ (by omega) (by omega), k4]
  unfold E_X9_passHour
  rw [kbd_eq e1]
  dsimp only
  rw [k4, kbd_eq ef, kbd_eq e3]
  dsimp only
  rw [kbd_eq e4]
  dsimp only
  unfold F_X6_isUnlit unX
  have z1 : ¬ (1 : Int32) = 0 := by decide
  by_cases a1 : K3 6 o 13 = 0
  · rw [kif_pos a1, kif_pos rfl, kif_neg (fun q => q.1 a1), kbd_eq (E_endHour o K3 J hk c3)]
  · rw [kif_neg a1]
    by_cases a2 : K3 6 o 10 = 0
    · rw [kif_pos a2, kif_neg z1, kif_pos (p_fm _ _ _), kif_pos (show ¬ K3 6 o 13 = 0 ∧ K3 6 o 10 = 0 from ⟨a1, a2⟩)]
      have t4 : (kw K3 9 o 3 (K3 9 o 3 + 1)) 6 o 4 = nI h := by rw [kw_at _ _ (by omega), t3]
      have t5 : (kw K3 9 o 3 (K3 9 o 3 + 1)) 9 o 4 = K3 9 o 4 := by rw [kw_at _ _ (by omega)]
      rw [t4, F_hod h (by omega), t5, t3, nI_clamp (by omega)]
      rw [kbd_eq (E_endHour o _ J hk (by rw [kw_at _ _ (by omega), kw_at _ _ (by omega), c3]))]
    · rw [kif_neg a2, kif_pos rfl, kif_neg (fun q => a2 q.2), kbd_eq (E_endHour o K3 J hk c3)]

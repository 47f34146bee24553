/-! the reference's hour from the lamp on -/
def sgM (w t : Int32) (I : kI) : Int32 := if w = 1 ∧ ¬ t = 0 ∧ ¬ I 41 0 5 < 1 then 1 else 0
def coX (s : Int32) (I : kI) : kI := kw I 41 0 5 (I 41 0 5 - (if s = 0 then 0 else 1))
theorem plG_ne (I : kI) (d t : Int32) {j : Nat} (h4 : ¬ j = 4) (h6 : ¬ j = 6) (h7 : ¬ j = 7) (h16 : ¬ j = 16) (h17 : ¬ j = 17) : plG I d t j = I 41 0 j := by
  unfold plG
  rw [if_neg h6, if_neg h4, if_neg h7, if_neg h16, if_neg h17]
noncomputable def whM (t w4 : Int32) : Int32 := kif (t = 0) (-1) w4
noncomputable def midX (I : kI) (kd : Nat → Nat) (c k : Nat) (v1 d t w a w4 : Int32) : kI := hend v1 d t (sbX (lgC a d w4 (lgB (sgM w t (plX I d t)) w4 (lgA t d w4 (coX (sgM w t (plX I d t)) (plX I d t))))) kd c k v1 d (sgM w t (plX I d t)) w (whM t w4))
theorem g_mid (v1 d t w a w4 : Int32) (h3 : d = 0 ∨ d = 1) (h6 : t = 0 ∨ t = 1) (J : kJ) {c k : Nat} (hc : c ≤ 200) (hk : k ≤ 6) (kd : Nat → Nat) (haw : ¬ a = 0 → ∃ i, i < k ∧ w4 = nI i) (I : kI) (hok : psI (I 41 0) c kd ∧ I 41 0 13 = nI k) (m : Nat) (hm : k + 16 ≤ m) (v7 v8 v9 s0 s1 s2 s3 : Int32) : G_X11_hourPasses m 130 v1 w d w4 a t v7 v8 v9 s0 s1 s2 s3 I J = some (midX I kd c k v1 d t w a w4, J) := by
  have l5 : ((5 : Int32)).toNatClampNeg = 5 := rfl
  have v5 : vp_in (5 : Int32) 2509 := vl 5 2509 (by omega) (by omega)
  obtain ⟨m, rfl⟩ : ∃ m', m = m' + 4 := ⟨m - 4, by omega⟩
  unfold midX
  rw [G_X11_hourPasses_130, kbd_eq (E_passesLamp d t I J)]
  dsimp only
  generalize hZ : plX I d t = Z
  have zne : ∀ {j : Nat}, ¬ j = 4 → ¬ j = 6 → ¬ j = 7 → ¬ j = 16 → ¬ j = 17 → Z 41 0 j = I 41 0 j := fun h4 h6 h7 h16 h17 => by
    rw [← hZ, plX_app, if_pos ⟨rfl, rfl⟩, plG_ne _ _ _ h4 h6 h7 h16 h17]
  have cok : ∀ s, psI ((coX s Z) 41 0) c kd ∧ (coX s Z) 41 0 13 = nI k := fun s => by
    obtain ⟨⟨h14, ⟨n, hn, h15⟩, hk'⟩, h13⟩ := hok
    have cne : ∀ {j : Nat}, ¬ j = 5 → (coX s Z) 41 0 j = Z 41 0 j := fun q => by
      unfold coX
      rw [kw_at _ _ (fun z => q z.2.2)]
    refine ⟨⟨?_, ⟨n, hn, ?_⟩, fun i hi => ?_⟩, ?_⟩
    · rw [cne (by omega), zne (by omega) (by omega) (by omega) (by omega) (by omega), h14]
    · rw [cne (by omega), zne (by omega) (by omega) (by omega) (by omega) (by omega), h15]
    · rw [cne (by omega), zne (by omega) (by omega) (by omega) (by omega) (by omega)]
      exact hk' i hi
    · rw [cne (by omega), zne (by omega) (by omega) (by omega) (by omega) (by omega), h13]
  have t162 : ∀ s, ∀ m', k + 12 ≤ m' → G_X11_hourPasses m' 162 v1 w d w4 a t 0 0 0 s 0 0 0 Z J = some (hend v1 d t (sbX (lgC a d w4 (lgB s w4 (lgA t d w4 (coX s Z)))) kd c k v1 d s w (whM t w4)), J) := by
    intro s m' hm'
    obtain ⟨m', rfl⟩ : ∃ q, m' = q + 2 := ⟨m' - 2, by omega⟩
    have t181 : ∀ x, x = (if s = 0 then (0 : Int32) else 1) → G_X11_hourPasses (m' + 1) 181 v1 w d w4 a t s 0 0 0 (5 : Int32) (Z 41 0 5) x Z J = some (hend v1 d t (sbX (lgC a d w4 (lgB s w4 (lgA t d w4 (coX s Z)))) kd c k v1 d s w (whM t w4)), J) := by
      intro x hx
      rw [G_X11_hourPasses_181, kif_pos v5, l5, hx]
      unfold whM
      by_cases q : t = 0
      · rw [kif_pos q, kif_pos q]
        exact g_logs v1 d t s w (-1) a w4 h3 h6 J hc hk kd haw (coX s Z) (cok s) m' (by omega) 0 0 0 0 0
      · rw [kif_neg q, kif_neg q]
        exact g_logs v1 d t s w w4 a w4 h3 h6 J hc hk kd haw (coX s Z) (cok s) m' (by omega) 0 0 0 0 0
    rw [G_X11_hourPasses_162, kif_pos v5, l5]
    by_cases q : s = 0
    · rw [kif_pos q]
      exact t181 0 (by rw [if_pos q])
    · rw [kif_neg q]
      exact t181 1 (by rw [if_neg q])
  have t161 : G_X11_hourPasses (m + 3) 161 v1 w d w4 a t 0 0 0 0 0 0 0 Z J = some (hend v1 d t (sbX (lgC a d w4 (lgB 0 w4 (lgA t d w4 (coX 0 Z)))) kd c k v1 d 0 w (whM t w4)), J) := by
    rw [G_X11_hourPasses_161]
    exact t162 0 (m + 2) (by omega)
  by_cases q1 : w = 1
  · rw [kif_pos q1]
    by_cases q2 : t = 0
    · have e : sgM w t Z = 0 := by unfold sgM; rw [if_neg (fun z => z.2.1 q2)]
      rw [kif_pos q2, e]
      exact t161
    · rw [kif_neg q2, kif_pos v5, l5]
      by_cases q3 : Z 41 0 5 < 1
      · have e : sgM w t Z = 0 := by unfold sgM; rw [if_neg (fun z => z.2.2 q3)]
        rw [kif_pos q3, e]
        exact t161
      · have e : sgM w t Z = 1 := by unfold sgM; rw [if_pos ⟨q1, q2, q3⟩]
        rw [kif_neg q3, e]
        exact t162 1 (m + 3) (by omega)
  · have e : sgM w t Z = 0 := by unfold sgM; rw [if_neg (fun z => q1 z.1)]
    rw [kif_neg q1, e]
    exact t161

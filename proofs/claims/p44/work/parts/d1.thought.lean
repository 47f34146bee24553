/-! thought's hours -/
def thF (I I' : kI) : Prop := ∀ t o j, ¬ t = 8 → ¬ (o = 2 ∧ stT t) → I' t o j = I t o j
theorem thF_rf (I : kI) : thF I I := fun _ _ _ _ _ => rfl
theorem thF_tr {I I' I'' : kI} (h1 : thF I I') (h2 : thF I' I'') : thF I I'' := fun t o j a b => (h2 t o j a b).trans (h1 t o j a b)
theorem thF_same {I I' : kI} (h : thF I I') : same I I' := by
  unfold thF stT at h
  refine ⟨fun t o j a b => ?_, fun s j => h _ _ _ (by omega) (by omega), fun t j a => h _ _ _ (by omega) (by omega), h _ _ _ (by omega) (by omega), h _ _ _ (by omega) (by omega), h _ _ _ (by omega) (by omega), funext fun j => h _ _ _ (by omega) (by omega), funext fun j => h _ _ _ (by omega) (by omega)⟩
  unfold cwt at b
  exact h _ _ _ (by omega) (by omega)
def TF (I : kI) (g : Nat → Int32) : Prop := ∃ p, FL I 0 (nn (g 14)) (gk g) (gh g) p ∧ ∃ f, f ≤ nn (g 14) ∧ I 8 0 5 = nI f ∧ (∀ a, a < f → gh g (p a) < nn (g 0)) ∧ (∀ a, f ≤ a → a < nn (g 14) → nn (g 0) ≤ gh g (p a))
def TR (I : kI) (g g0 : Nat → Int32) : Prop := CS I 2 g ∧ TF I g ∧ I 8 0 1 = g 16 - g0 16 ∧ I 8 0 2 = B 1 g - B 1 g0 ∧ I 8 0 3 = B 2 g - B 2 g0 ∧ I 8 0 4 = g 20 - g0 20
theorem FL_ext {I : kI} {o c : Nat} {kd hr kd' hr' p : Nat → Nat} (h : FL I o c kd hr p) (e : ∀ s, s < c → kd' s = kd s ∧ hr' s = hr s) : FL I o c kd' hr' p := by
  obtain ⟨f1, f3, f4, f5, f6, f7⟩ := h
  refine ⟨f1, f3, fun s hs => by rw [(e s hs).1, (e s hs).2]; exact f4 s hs, f5, f6, fun a b hab hb => ?_⟩
  have z := f7 a b hab hb
  have y1 := (f5 a (by omega)).2
  have y2 := (f5 b hb).2
  unfold bf
  rw [(e _ y1).1, (e _ y1).2, (e _ y2).1, (e _ y2).2]
  exact z
theorem T_hour {N : Nat} (hN : N < 1000000) {g g0 : Nat → Int32} (I : kI) (J : kJ) (hg : WG g N) (h : TR I g g0) : ∃ I', E_X8_passHour 0 0 I J = some (I', J) ∧ TR I' (H g) g0 ∧ thF I I' := by
  obtain ⟨hS, ⟨p, hF, f, hfc, h8, q1, q2⟩, u1, u2, u3, u4⟩ := h
  have hGF := WG_GF hg
  have hWW := WG_W2 hg
  have h0 := hg.1
  have h02 := h0.2
  have h122 := hg.2.1.2
  have h13 := hg.2.2.1
  have h132 := h13.2
  have h142 := hg.2.2.2.1.2
  have i4 : I 6 2 4 = g 0 := hS.1 0 (by omega)
  have hcr : I 1 2 5 = g 13 := hS.2.2.2.2.2.2.1
  have hrn : I 5 2 2 = g 12 := hS.2.2.2.1
  obtain ⟨f2, hff, hf2, q3, q4⟩ := first2 hF (nn (g 0)) (by omega) J q1 q2 hfc
  have e := E_thinkHour (o := 0) (o0 := 0) (nn (g 0)) (by omega) I J hF (by rw [i4]; exact h0.1) h132 (by rw [hcr]; exact h13.1) ⟨_, h122, by rw [hrn]; exact hg.2.1.1⟩ hff hf2 q2 q3 q4 h8
  have hlist := rk_places hF hGF (nn (g 0)) (by omega) hf2 q1 q2 q3 q4
  have el : hl g = rkK g (nI (nn (g 0))) (nn (g 14)) 5 := by unfold hl; rw [← h0.1]
  rw [c_weather hg hS _ (by omega) J, ← hlist, ← el] at e
  have llen : (hl g).length = f2 - f := by rw [el, hlist, List.length_map, List.length_range']
  have hK := c_keep hg hS
  have ewt : wth g (nn (g 0)) = hw g := rfl
  rw [ewt] at e
  unfold thX at e
  have kne : ∀ {t : Nat} (o2 j : Nat), ¬ t = 6 → kpX I 2 (nn (g 0)) (hw g) t o2 j = I t o2 j := fun o2 j q => kpX_ne _ _ _ _ _ _ q
  have kno : ∀ {o2 : Nat} (t j : Nat), ¬ o2 = 2 → kpX I 2 (nn (g 0)) (hw g) t o2 j = I t o2 j := fun t j q => kpX_no _ _ _ _ _ _ q
  generalize kpX I 2 (nn (g 0)) (hw g) = K at *
  have tn : ∀ {t : Nat} (o2 j : Nat), ¬ t = 8 → thA 0 K t o2 j = K t o2 j := fun o2 j h => thA_ne _ _ _ _ h
  have t1 : thA 0 K 8 0 1 = K 8 0 1 + unF K := by unfold thA; rw [kw_at _ _ (by omega), kw_app, if_pos ⟨rfl, rfl, rfl⟩]
  have t4 : thA 0 K 8 0 4 = K 8 0 4 + asF K := by unfold thA; rw [kw_app, if_pos ⟨rfl, rfl, rfl⟩]
  have t2 : ∀ j, ¬ j = 1 → ¬ j = 4 → thA 0 K 8 0 j = K 8 0 j := fun j a b => by unfold thA; rw [kw_at _ _ (by omega), kw_at _ _ (by omega)]
  generalize thA 0 K = K2 at *
  have c8 := tcF_8 (gk g) (hl g) K2
  have m3 : ∀ {t : Nat} (o2 j : Nat), ¬ t = 8 → tcF 0 (gk g) K2 (hl g) t o2 j = K2 t o2 j := fun o2 j h => tcF_ne _ _ _ _ h _ _
  generalize tcF 0 (gk g) K2 (hl g) = K3 at *
  have hK3 : KP K3 2 g := by
    unfold KP
    simp only [m3 _ _ (show ¬ 6 = 8 by omega), tn _ _ (show ¬ 6 = 8 by omega)]
    exact hK
  obtain ⟨k1, k12, k13, k14, k15, k10, k11, k8, k9, k16⟩ := hK
  have all : ∀ t o2 j, ¬ t = 8 → ¬ (t = 6 ∧ o2 = 2) → K3 t o2 j = I t o2 j := fun t o2 j a b => by
    rw [m3 _ _ a, tn _ _ a]
    by_cases t6 : t = 6
    · exact kno _ _ (fun z => b ⟨t6, z⟩)
    · exact kne _ _ t6
  have hSt := CS_end hg hS hK3 (fun t j a b => by
    unfold stT at a
    exact all _ _ _ (by omega) (by omega))
  have c14 : H g 14 = g 14 := H_14 g
  have hkd : ∀ s, s < nn (g 14) → gk (H g) s = gk g s ∧ gh (H g) s = gh g s := fun s hs => by
    have z := H_s hg hs
    unfold gk gh
    rw [z.1, z.2.1]
    exact ⟨rfl, rfl⟩
  have hH0 : H g 0 = nI (nn (g 0) + 1) := by
    have e0 : H g 0 = _ := hG_0 g (gk g) (nn (g 14)) (nn (g 13)) (nn (g 0)) (hw g)
    rw [e0, nI_1]
  refine ⟨_, e, ⟨hSt, ⟨p, ?_, f2, by rw [c14]; exact hf2, ?_, fun a ha => ?_, fun a ha hb => ?_⟩, ?_, ?_, ?_, ?_⟩, fun t o2 j a b => ?_⟩
  · rw [c14]
    have F1 := FL_congr hF (I' := ehX K3 2 (nn (g 13))) (by rw [ehX_ne _ _ _ _ (by omega), all _ _ _ (by omega) (by omega)]) (fun _ => by rw [ehX_ne _ _ _ _ (by omega), all _ _ _ (by omega) (by omega)]) (fun _ => by rw [ehX_ne _ _ _ _ (by omega), all _ _ _ (by omega) (by omega)]) (fun _ => by rw [ehX_ne _ _ _ _ (by omega), all _ _ _ (by omega) (by omega)])
    exact FL_ext F1 hkd
  · rw [ehX_ne _ _ _ _ (by omega), c8.2.2.1, t2 _ (by omega) (by omega), kne _ _ (by omega), h8, llen, nI_add, show f + (f2 - f) = f2 by omega]
  · have z := q3 a ha
    rw [hH0, nn_nI (by omega), (hkd _ (hF.2.2.2.1 a (by omega)).2).2]
    exact z
  · rw [c14] at hb
    have z := q4 a ha hb
    rw [hH0, nn_nI (by omega), (hkd _ (hF.2.2.2.1 a hb).2).2]
    exact z
  · have e16 : H g 16 = _ := hG_16 g (gk g) (nn (g 14)) (nn (g 13)) (nn (g 0)) (hw g)
    have ed : hd g = aD g (nn (g 0)) := rfl
    have et : ht g = aT g (aW g (nn (g 0))) := rfl
    rw [ehX_ne _ _ _ _ (by omega), c8.2.2.2.1, t1, kne _ _ (by omega), u1, e16]
    unfold unF
    rw [k13, k10, ed, et]
    by_cases q : ¬ aD g (nn (g 0)) = 0 ∧ aL g (aD g (nn (g 0))) (aT g (aW g (nn (g 0)))) = 0
    · rw [if_pos q, if_pos q]
      grind
    · rw [if_neg q, if_neg q]
      grind
  · rw [ehX_ne _ _ _ _ (by omega), c8.1, t2 _ (by omega) (by omega), kne _ _ (by omega), u2, B_H (by omega) hg (by decide)]
    rw [ctL_congr (f' := hf g) 1 (hl g) (fun s _ => by
      show ft _ _ _ _ _ = hf g s
      rw [tn _ _ (by omega), tn _ _ (by omega), tn _ _ (by omega), tn _ _ (by omega), k13, k10, k12, k16]
      rfl)]
    grind
  · rw [ehX_ne _ _ _ _ (by omega), c8.2.1, t2 _ (by omega) (by omega), kne _ _ (by omega), u3, B_H (by omega) hg (by decide)]
    rw [ctL_congr (f' := hf g) 2 (hl g) (fun s _ => by
      show ft _ _ _ _ _ = hf g s
      rw [tn _ _ (by omega), tn _ _ (by omega), tn _ _ (by omega), tn _ _ (by omega), k13, k10, k12, k16]
      rfl)]
    grind
  · have e20 : H g 20 = _ := hG_20 g (gk g) (nn (g 14)) (nn (g 13)) (nn (g 0)) (hw g)
    have i15 : K 1 2 5 = g 13 := by rw [kne _ _ (by omega)]; exact hcr
    have ea : asF K = aA g (aW g (nn (g 0))) := by
      have eW : hW g = aW g (nn (g 0)) := rfl
      have et : ht g = aT g (aW g (nn (g 0))) := rfl
      unfold asF
      rw [k14, k15, i15, eW, et]
      rcases WG_W hg (nn (g 0) % 24) (Nat.mod_lt _ (by omega)) with z | ⟨i, hi6, hi, z⟩
      · have eW1 : aW g (nn (g 0)) = -1 := z
        have n1 : (-1 : Int32) < 0 := by decide
        rw [eW1, if_neg (fun q => q.1 n1)]
        unfold aA
        rw [kif_pos n1]
      · have eW1 : aW g (nn (g 0)) = nI i := z
        have n0 : ¬ nI i < 0 := i_nlt0 i (by omega)
        have n2 : ¬ g 13 ≤ nI i := by rw [h13.1, i_le (by omega) (by omega)]; omega
        rw [eW1]
        unfold aA aT
        rw [kif_neg n0, kif_neg n0]
        by_cases q : aR g (nI i)
        · rw [kif_pos q, kif_pos q, if_neg (fun y => absurd y.2.2 (by decide))]
        · rw [kif_neg q, kif_neg q, if_pos ⟨n0, n2, rfl⟩]
    rw [ehX_ne _ _ _ _ (by omega), c8.2.2.2.2, t4, kne _ _ (by omega), u4, e20, ea]
    grind
  · unfold stT at b
    rw [ehX_ne _ _ _ _ (by omega), all _ _ _ a (by omega)]
theorem T_hours {g0 : Nat → Int32} (J : kJ) (t : Nat) (ht : t ≤ 1000) : ∀ n i m (I : kI) (g : Nat → Int32) (N : Nat), i + n = t → n + 1 ≤ m → WG g N → N + n ≤ 999999 → TR I g g0 → ∃ I', G_X8_passHours 0 0 (nI t) m 2 (nI i) I J = some (Hn n g 16 - g0 16, I', J) ∧ TR I' (Hn n g) g0 ∧ thF I I' := by
  intro n
  induction n with
  | zero =>
    intro i m I g N hi hm hg hN hc
    obtain ⟨m, rfl⟩ : ∃ m', m = m' + 1 := ⟨m - 1, by omega⟩
    refine ⟨I, ?_, hc, thF_rf I⟩
    rw [G_X8_passHours_2, kif_pos (by rw [i_le (by omega) (by omega)]; omega), hc.2.2.1]
    rfl
  | succ n ih =>
    intro i m I g N hi hm hg hN hc
    obtain ⟨m, rfl⟩ : ∃ m', m = m' + 1 := ⟨m - 1, by omega⟩
    obtain ⟨I1, e1, c1, f1⟩ := T_hour (show N < 1000000 by omega) I J hg hc
    obtain ⟨I', e2, c2, f2⟩ := ih (i + 1) m I1 (H g) (N + 1) (by omega) (by omega) (hG_ok (by omega) hg) (by omega) c1
    refine ⟨I', ?_, c2, thF_tr f1 f2⟩
    rw [← nI_1] at e2
    rw [G_X8_passHours_2, kif_neg (by rw [i_le (by omega) (by omega)]; omega), kbd_eq e1]
    exact e2
theorem T_passHours {g0 : Nat → Int32} (J : kJ) (t : Nat) (ht : t ≤ 1000) (I : kI) (g : Nat → Int32) (N : Nat) (hg : WG g N) (hN : N + t ≤ 999999) (h : TR I g g0) : ∃ I', E_X8_passHours 0 0 (nI t) I J = some (Hn t g 16 - g0 16, I', J) ∧ TR I' (Hn t g) g0 ∧ thF I I' := T_hours J t ht t 0 kfu I g N (by omega) (by unfold kfu; omega) hg hN h
theorem bS_stT {t j : Nat} (h : bS t j) : stT t := by
  unfold bS at h
  unfold stT
  omega
theorem T_begin {N : Nat} (hN : N < 1000000) {g : Nat → Int32} (I : kI) (J : kJ) (hg : WG g N) (hS : CS I 0 g) (hF : CF I 0 g) : ∃ I', E_X8_begin 0 0 I J = some (I', J) ∧ TR I' g g ∧ thF I I' ∧ CS I' 0 g ∧ CF I' 0 g := by
  have h0 := hg.1
  have h02 := h0.2
  have h6 : I 6 0 10 = g 6 := hS.1 6 (by omega)
  obtain ⟨I1, e1, f1, s1⟩ := E_become6 2 0 (by omega) I J (by rw [h6]; exact rg_01 hg.2.2.2.2.2.2.1.2.2.2.2.1)
  obtain ⟨K, hK⟩ : ∃ K, K = kw (kw (kw (kw I1 8 0 1 (0 : Int32)) 8 0 2 (0 : Int32)) 8 0 3 (0 : Int32)) 8 0 4 (0 : Int32) := ⟨_, rfl⟩
  have kn : ∀ t o j, ¬ t = 8 → K t o j = I1 t o j := fun t o j a => by rw [hK, kw_at _ _ (fun z => a z.1), kw_at _ _ (fun z => a z.1), kw_at _ _ (fun z => a z.1), kw_at _ _ (fun z => a z.1)]
  have f1' : thF I I1 := fun t o j a b => f1 t o j (fun z => b ⟨z.1, bS_stT z.2⟩)
  have kI1 : thF I K := fun t o j a b => (kn _ _ _ a).trans (f1' t o j a b)
  obtain ⟨p, hF, hfm⟩ := hF
  have w : ∀ (I' : kI), thF I I' → FL I' 0 (nn (g 14)) (gk g) (gh g) p := fun I' h => by
    unfold thF stT at h
    exact FL_congr hF (h _ _ _ (by omega) (by omega)) (fun _ => h _ _ _ (by omega) (by omega)) (fun _ => h _ _ _ (by omega) (by omega)) (fun _ => h _ _ _ (by omega) (by omega))
  have k4 : K 6 2 4 = g 0 := by rw [kn _ _ _ (by omega), s1 _ _ (by unfold bS; omega)]; exact hS.1 0 (by omega)
  obtain ⟨f, hfc, ef, q1, q2⟩ := E_firstPlaceOf (w K kI1) (nn (g 0)) (by omega) J
  rw [← h0.1] at ef
  obtain ⟨I', hI'⟩ : ∃ I', I' = kw K 8 0 5 (nI f) := ⟨_, rfl⟩
  have fr : thF I I' := fun t o j a b => by rw [hI', kw_at _ _ (fun z => a z.1)]; exact kI1 t o j a b
  refine ⟨I', ?_, ⟨?_, ⟨p, w _ fr, f, hfc, ?_, q1, q2⟩, ?_, ?_, ?_, ?_⟩, fr, CS_congr hS (fun t j a => fr _ _ _ (by unfold stT at a; omega) (by omega)), ⟨p, w _ fr, fun s hs => ?_⟩⟩
  · unfold E_X8_begin
    rw [kbd_eq e1]
    dsimp only
    rw [← hK, k4, kbd_eq ef, hI']
  · exact CS_become hg hS (fun t j a => by
      rw [hI', kw_at _ _ (fun z => by unfold bS at a; omega), kn _ _ _ (by unfold bS at a; omega)]
      exact s1 _ _ a)
  · rw [hI', kw_app, if_pos ⟨rfl, rfl, rfl⟩]
  · rw [hI', kw_at _ _ (by omega), hK, kw_at _ _ (by omega), kw_at _ _ (by omega), kw_at _ _ (by omega), kw_app, if_pos ⟨rfl, rfl, rfl⟩, Int32.sub_self]
  · rw [hI', kw_at _ _ (by omega), hK, kw_at _ _ (by omega), kw_at _ _ (by omega), kw_app, if_pos ⟨rfl, rfl, rfl⟩, Int32.sub_self]
  · rw [hI', kw_at _ _ (by omega), hK, kw_at _ _ (by omega), kw_app, if_pos ⟨rfl, rfl, rfl⟩, Int32.sub_self]
  · rw [hI', kw_at _ _ (by omega), hK, kw_app, if_pos ⟨rfl, rfl, rfl⟩, Int32.sub_self]
  · have z : ∀ t, t = 27 ∨ t = 28 → I' t 0 s = I t 0 s := fun t a => fr _ _ _ (by omega) (by omega)
    rw [z _ (Or.inl rfl), z _ (Or.inr rfl)]
    exact hfm s hs

/-! other -/
theorem mm_other {N : Nat} (hN : N < 900000) {I : kI} {J : kJ} (h : Inv N I J) (a b : Int32) : MM sp_X10_other sp_X11_other [kx_i a, kx_i b] N I J := by
  have hs := fun I J => isShelf_p a I J
  have hg := h.1
  have h13 := hg.2.2.1
  have ic : I 1 0 5 = I 41 0 13 := h.2.1.1.2.2.2.2.2.2.1
  have n102 : ¬ (-102 : Int32) = 0 := by decide
  have g102 : ¬ (0 : Int32) ≤ -102 := by decide
  have ph : pre_X10_areHours b I J := by unfold pre_X10_areHours; rw [F_within]; exact in_01 _ _ _
  have eh : F_X10_areHours b I J = (if b < 0 then (0 : Int32) else if 200 < b then 0 else 1) := by unfold F_X10_areHours; rw [F_within]
  by_cases w2 : (if b < 0 then (0 : Int32) else if 200 < b then 0 else 1) = 0
  · have c1 := cs_X10_other a b I J (-102, rfC 0 I, J) (by unfold E_X10_other; rw [kif_pos ph, eh, kif_pos w2, kif_pos (rC0 I J).2, (rC0 I J).1])
    have c2 := cs_X11_other a b (rfC 0 I) J (-102, rfM 0 (rfC 0 I), J) (by unfold E_X11_other; rw [in_0_200, kif_pos w2, kif_neg g102, kif_pos (rM0 _ J).2, (rM0 _ J).1])
    exact ref_both h c1 rfl c2 rfl
  · by_cases w : (if a < 0 then (0 : Int32) else if 7 < a then 0 else 1) = 0
    · have c1 := cs_X10_other a b I J (-102, rfC 0 I, J) (by
        unfold E_X10_other E_X10_againstPlanIn
        rw [kif_pos ph, eh, kif_neg w2, kbd_eq (show kbd (E_X10_againstRowIn a I J) _ = some (-102 : Int32) by rw [kbd_eq (against_no w), F_within, kif_pos w, kif_neg n102]), kif_neg n102, kif_pos (rC0 I J).2, (rC0 I J).1])
      have c2 := cs_X11_other a b (rfC 0 I) J (-102, rfM 0 (rfC 0 I), J) (by unfold E_X11_other; rw [in_0_200, kif_neg w2, kif_pos (hs _ _).2, (hs _ _).1, kif_pos w, kif_neg g102, kif_pos (rM0 _ J).2, (rM0 _ J).1])
      exact ref_both h c1 rfl c2 rfl
    · obtain ⟨s, _, hs7, rfl⟩ := in_yes (lo := 0) (hi := 7) (by omega) (by omega) w
      obtain ⟨t, _, ht, rfl⟩ := in_yes (lo := 0) (hi := 200) (by omega) (by omega) w2
      have ci : (nI s).toNatClampNeg = s := nI_clamp (by omega)
      have hS := h.2.2.2.1 s (by omega)
      have hc := hg.2.2.2.1.2
      have rf : ∀ k v, (∀ I J, F_X10_refuse v I J = (v, rfC k I, J) ∧ pre_X10_refuse v I J) → (∀ I J, F_X11_refused v I J = (v, rfM k I, J) ∧ pre_X11_refused v I J) → k < 5 → ¬ v = 0 → ¬ 0 ≤ v → E_X10_againstPlanIn (nI s) I J = some v → E_X11_isPlan (nI s) (rfC k I) J = some v → MM sp_X10_other sp_X11_other [kx_i (nI s), kx_i (nI t)] N I J := fun k v y1 y2 hk v0 v1 e1 e2 => by
        have c1 := cs_X10_other (nI s) (nI t) I J (v, rfC k I, J) (by unfold E_X10_other; rw [kif_pos ph, eh, kif_neg w2, kbd_eq e1, kif_neg v0, kif_pos (y1 I J).2, (y1 I J).1])
        have c2 := cs_X11_other (nI s) (nI t) (rfC k I) J (v, rfM k (rfC k I), J) (by unfold E_X11_other; rw [in_0_200, kif_neg w2, kif_pos (hs _ _).2, (hs _ _).1, kif_neg w, kbd_eq e2, kif_neg v1, kif_pos (y2 _ J).2, (y2 _ J).1])
        exact MM_f c1 rfl c2 rfl (Inv_ref' h k hk)
      have ap := fun k => against_plan (I' := rfC k I) (J' := J) hs7 hc hS ic h13 (rfC_at _ _ _ _ (by omega)) (rfC_at _ _ _ _ (by omega)) (rfC_at _ _ _ _ (by omega)) (fun _ _ => rfl)
      obtain ⟨v, e1, e2, hv⟩ := ap 0
      obtain ⟨v1, f1, f2, _⟩ := ap 1
      obtain ⟨v2, g1, g2, _⟩ := ap 2
      have u1 : v1 = v := Option.some.inj (f1.symm.trans e1)
      have u2 : v2 = v := Option.some.inj (g1.symm.trans e1)
      rw [u1] at f2
      rw [u2] at g2
      rcases hv with ⟨rfl, ⟨z, hz, hz2, e3⟩, ok⟩ | rfl | rfl | rfl
      · obtain ⟨V, hV⟩ : ∃ V : Nat → Int32, V = fun x => Int64.toInt32 (J 34 s x) := ⟨_, rfl⟩
        have hVok : ∀ i, i < 24 → V i = -1 ∨ ∃ j, j < nn (I 41 0 13) ∧ V i = nI j := fun i hi => by rw [hV]; exact okv_k h13 (ok i hi)
        have hq : CQ I (I 41 0) := ⟨h.2.1.1, h.2.1.2.1⟩
        obtain ⟨K1, p1, q1⟩ := T_as J t (by omega) I hg (by omega) hq
        obtain ⟨L1, K2, p2, q2, k37, p3, q3⟩ := T_plan V J t (by omega) K1 hg hVok (by omega) (CQ_th hq q1)
        have fK := thF_tr q1 q3
        have fL := thF_tr q1 q2
        have k41 : K2 41 0 = I 41 0 := funext fun j => fK _ _ _ (by omega) (by unfold stT; omega)
        have hSL : shl L1 J (nn (I 41 0 14)) s := by
          have z : ∀ t j, t = 4 ∨ t = 49 ∨ t = 50 → ∀ o, L1 t o j = I t o j := fun t j a o => fL _ _ _ (by omega) (by unfold stT; omega)
          exact shl_congr hS (Nat.le_refl _) (fun j => z _ _ (by omega) _) (z _ _ (by omega) _) (z _ _ (by omega) _) (fun _ _ => rfl) (fun _ _ => rfl)
        have ea := E_assignAll 2 hSL (by rw [fL _ _ _ (by omega) (by unfold stT; omega)]; exact e3) hz hz2
        rw [← hV] at ea
        have c1 := cs_X10_other (nI s) (nI t) I J (uP t (tpG (I 41 0) V 24) - uP t (I 41 0), K2, J) (by
          unfold E_X10_other
          rw [kif_pos ph, eh, kif_neg w2, kbd_eq e1, kif_pos rfl, kbd_eq p1]
          dsimp only
          rw [kbd_eq p2]
          dsimp only
          rw [F_within, kif_neg w, ci, kbd_eq ea]
          dsimp only
          rw [kbd_eq p3])
        obtain ⟨v3, h1, h2, _⟩ := against_plan (I' := K2) (J' := J) hs7 hc hS ic h13 (by rw [k41]) (fK _ _ _ (by omega) (by unfold stT; omega)) (fK _ _ _ (by omega) (by unfold stT; omega)) (fun _ _ => rfl)
        have u3 : v3 = 0 := Option.some.inj (h1.symm.trans e1)
        rw [u3] at h2
        obtain ⟨M1, r1, m1, n1⟩ := R_unlitP J t (by omega) K2 N k41 hg (by omega)
        obtain ⟨M2, hM2⟩ : ∃ M2, M2 = kp0 M1 := ⟨_, rfl⟩
        have r2 := E_keeps0 M1 J
        rw [← hM2] at r2
        have m2 : M2 41 0 = I 41 0 := funext fun j => by rw [hM2]; unfold kp0; rw [kx_uA_app, if_neg (by omega), m1]
        have s2 : ∀ x, x < 24 → M2 48 0 x = I 41 0 (85 + x) := fun x hx => by rw [hM2]; unfold kp0; rw [kx_uA_app, if_pos ⟨rfl, rfl⟩, if_pos hx, m1]
        have n2 : mx M1 M2 := fun t o j a b c => by rw [hM2]; unfold kp0; rw [kx_uA_app, if_neg (by omega)]
        obtain ⟨M3, hM3⟩ : ∃ M3, M3 = kx_uA M2 41 0 (tpG (M2 41 0) (fun x => Int64.toInt32 (J 51 0 (40 * s + x))) 24) := ⟨_, rfl⟩
        have r3 := E_takesPlan s hs7 M2 J
        rw [← hM3] at r3
        have m3 : M3 41 0 = tpG (I 41 0) V 24 := by
          rw [hM3, kx_uA_eq, m2]
          funext j
          unfold tpG
          by_cases q : 85 ≤ j ∧ j < 85 + 24
          · rw [if_pos q, if_pos q, hV]
            show Int64.toInt32 (J 51 0 (40 * s + (j - 85))) = Int64.toInt32 (J 34 s (j - 85))
            rw [hS.2.1 (j - 85) (by omega)]
          · rw [if_neg q, if_neg q]
        have n3 : mx M2 M3 := fun t o j a b c => by rw [hM3, kx_uA_app, if_neg (by omega)]
        obtain ⟨M4, r4, m4, n4⟩ := R_unlitP J t (by omega) M3 N m3 (WG_plan hg hVok) (by omega)
        obtain ⟨M5, r5, m5, n5⟩ := R_keeps1 J m4 (fun x hx => by rw [n4.2, hM3, kx_uA_app, if_neg (by omega)]; exact s2 x hx)
        have c2 := cs_X11_other (nI s) (nI t) K2 J (uP t (tpG (I 41 0) V 24) - uP t (I 41 0), M5, J) (by
          unfold E_X11_other
          rw [in_0_200, kif_neg w2, kif_pos (hs _ _).2, (hs _ _).1, kif_neg w, kbd_eq h2, kif_pos (by decide), kbd_eq r1]
          dsimp only
          rw [kbd_eq r2]
          dsimp only
          rw [kbd_eq r3]
          dsimp only
          rw [kbd_eq r4]
          dsimp only
          rw [kbd_eq r5])
        have fm := mx_mc (mx_tr (mc_mx n1.1) (mx_tr n2 (mx_tr n3 (mx_tr (mc_mx n4.1) n5)))) (m5.trans k41.symm)
        exact MM_f c1 rfl c2 rfl (Inv_mono (Inv_same (Inv_same h (thF_same fK)) (mc_same fm)) (by omega))
      · exact rf 0 (-102) rC0 rM0 (by omega) (by decide) (by decide) e1 e2
      · exact rf 1 (-103) rC1 rM1 (by omega) (by decide) (by decide) e1 f2
      · exact rf 2 (-104) rC2 rM2 (by omega) (by decide) (by decide) e1 g2

/-! sky -/
theorem skG_ne (g : Nat → Int32) {R : Nat} (hR : R ≤ 20) (b : Nat → Int32) {j : Nat} (h12 : ¬ j = 12) (h : ¬ (21 ≤ j ∧ j < 61)) : skG g R b (2 * R) j = g j := by
  unfold skG
  rw [if_neg (show ¬ (21 ≤ j ∧ j < 21 + 2 * R) by omega), if_neg h12]
theorem skG_12 (g : Nat → Int32) (R : Nat) (b : Nat → Int32) : skG g R b (2 * R) 12 = nI R := by
  unfold skG
  rw [if_neg (show ¬ (21 ≤ 12 ∧ 12 < 21 + 2 * R) by omega), if_pos rfl]
theorem skG_r (g : Nat → Int32) {R : Nat} (w ln : Nat → Nat) {i : Nat} (hi : i < R) : skG g R (bufF w ln) (2 * R) (21 + 2 * i) = nI (w i) ∧ skG g R (bufF w ln) (2 * R) (21 + 2 * i + 1) = nI (ln i) := by
  unfold skG bufF
  refine ⟨?_, ?_⟩
  · rw [if_pos (show 21 ≤ 21 + 2 * i ∧ 21 + 2 * i < 21 + 2 * R by omega), if_pos (show (21 + 2 * i - 21) % 2 = 0 by omega), show (21 + 2 * i - 21) / 2 = i by omega]
  · rw [if_pos (show 21 ≤ 21 + 2 * i + 1 ∧ 21 + 2 * i + 1 < 21 + 2 * R by omega), if_neg (show ¬ (21 + 2 * i + 1 - 21) % 2 = 0 by omega), show (21 + 2 * i + 1 - 21) / 2 = i by omega]
theorem WG_sky {g : Nat → Int32} {N R : Nat} (hg : WG g N) (hR : R ≤ 20) {w ln : Nat → Nat} (ho : okW R w ln) : WG (skG g R (bufF w ln) (2 * R)) N := by
  have h13 := hg.2.2.1.2
  have e : ∀ {j : Nat}, ¬ j = 12 → ¬ (21 ≤ j ∧ j < 61) → skG g R (bufF w ln) (2 * R) j = g j := fun a b => skG_ne _ hR _ a b
  refine WG_S hg (e (by omega) (by omega)) (fun j hj => e (by omega) (by omega)) (by rw [skG_12]; exact rg_nI hR (by omega)) (by rw [e (j := 13) (by omega) (by omega)]; exact hg.2.2.1) ?_ ?_ ?_
  · unfold WS
    rw [skG_12, nn_nI (by omega)]
    intro i hi
    obtain ⟨o1, o2, o3⟩ := ho i hi
    rw [(skG_r g w ln hi).1, (skG_r g w ln hi).2, nn_nI (by omega)]
    exact ⟨rg_nI o3 (by omega), o2, rg_nI o1 (by omega)⟩
  · unfold WP
    rw [e (j := 13) (by omega) (by omega)]
    intro i hi
    rw [e (by omega) (by omega)]
    exact hg.2.2.2.2.2.1 i hi
  · unfold WO
    rw [e (j := 3) (by omega) (by omega), e (j := 4) (by omega) (by omega), e (j := 5) (by omega) (by omega), e (j := 6) (by omega) (by omega), e (j := 7) (by omega) (by omega), e (j := 10) (by omega) (by omega), e (j := 11) (by omega) (by omega)]
    exact hg.2.2.2.2.2.2.1
theorem CS_sky {I I' : kI} {g : Nat → Int32} {N R : Nat} (hg : WG g N) (h : CS I 0 g) (hR : R ≤ 20) {w ln : Nat → Nat} (ho : okW R w ln) (f : ∀ t j, stT t → ¬ t = 5 → ¬ t = 35 → ¬ t = 36 → I' t 0 j = I t 0 j) (a2 : I' 5 0 2 = nI R) (a3 : I' 5 0 3 = nI (lsum ln 0 R)) (a4 : ∀ i, i < R → I' 35 0 i = nI (w i) ∧ I' 36 0 i = nI (ln i)) : CS I' 0 (skG g R (bufF w ln) (2 * R)) := by
  have h13 := hg.2.2.1.2
  have e : ∀ {j : Nat}, ¬ j = 12 → ¬ (21 ≤ j ∧ j < 61) → skG g R (bufF w ln) (2 * R) j = g j := fun a b => skG_ne _ hR _ a b
  have e13 : skG g R (bufF w ln) (2 * R) 13 = g 13 := e (by omega) (by omega)
  unfold stT at f
  obtain ⟨s1, s2, s3, s4, s5, s6, s7, s8, s9⟩ := h
  refine ⟨fun j hj => ?_, fun j hj => ?_, ?_, ?_, ?_, ?_, ?_, ?_, fun i hi => ?_⟩
  · rw [f _ _ (by omega) (by omega) (by omega) (by omega), e (by omega) (by omega)]; exact s1 j hj
  · rw [f _ _ (by omega) (by omega) (by omega) (by omega), e (by omega) (by omega)]; exact s2 j hj
  · rw [f _ _ (by omega) (by omega) (by omega) (by omega), e (by omega) (by omega)]; exact s3
  · rw [a2, skG_12]
  · rw [a3, skG_12, nn_nI (by omega)]
    refine congrArg nI (lsum_congr _ _ (fun x _ hx => ?_))
    have := ho x (by omega)
    show ln x = nn _
    rw [(skG_r g w ln (show x < R by omega)).2, nn_nI (by omega)]
  · rw [skG_12, nn_nI (by omega)]
    intro i hi
    rw [(skG_r g w ln hi).1, (skG_r g w ln hi).2]
    exact a4 i hi
  · rw [f _ _ (by omega) (by omega) (by omega) (by omega), e13]; exact s7
  · rw [e13]
    intro i hi
    rw [f _ _ (by omega) (by omega) (by omega) (by omega), f _ _ (by omega) (by omega) (by omega) (by omega), f _ _ (by omega) (by omega) (by omega) (by omega), f _ _ (by omega) (by omega) (by omega) (by omega), f _ _ (by omega) (by omega) (by omega) (by omega), e (by omega) (by omega), e (by omega) (by omega), e (by omega) (by omega), e (by omega) (by omega)]
    exact s8 i hi
  · rw [f _ _ (by omega) (by omega) (by omega) (by omega), e (by omega) (by omega)]; exact s9 i hi
theorem mm_sky {N : Nat} {I : kI} {J : kJ} (h : Inv N I J) : MM sp_X10_sky sp_X11_sky [] N I J := by
  obtain ⟨t1, t2, t3⟩ := h.2.2.2.2.1
  have t22 := t2.2
  have z1 : ¬ (1 : Int32) = 0 := by decide
  obtain ⟨z, hz⟩ : ∃ z, z = nn (I 11 0 9) := ⟨_, rfl⟩
  obtain ⟨T, hT⟩ : ∃ T : Nat → Nat, T = fun k => nn (I 43 0 k) := ⟨_, rfl⟩
  have e9 : I 11 0 9 = nI z := by rw [hz]; exact t2.1
  obtain ⟨I0, hI0⟩ : ∃ I0, I0 = kw (kw I 5 3 2 0) 5 3 3 0 := ⟨_, rfl⟩
  have f0 : frC I I0 := fun t o j q => by rw [hI0, kw_at _ _ (by omega), kw_at _ _ (by omega)]
  have hTP : TP I0 z T := ⟨by rw [f0 _ _ _ (by omega), t1, e9], by omega, fun k hk => by
    rw [f0 _ _ _ (by omega), hT]
    have := t3 k (by omega)
    exact ⟨by rw [this.1]; exact this.2.1, this.2.2⟩⟩
  have hSI : SI I0 0 (fun _ => 0) (fun _ => 0) := ⟨by rw [hI0, kw_at _ _ (by omega), kw_app, if_pos ⟨rfl, rfl, rfl⟩]; rfl, by rw [hI0, kw_app, if_pos ⟨rfl, rfl, rfl⟩]; rfl, fun i hi => by omega⟩
  have lp := sky_loop J 20 0 0 I0 (fun _ => 0) (fun _ => 0) kfu (by omega) (by omega) (by unfold kfu; omega) hTP hSI (fun i hi => by omega)
  have skq : ∀ K : kI, K 11 0 9 = I 11 0 9 → (∀ k, K 43 0 k = I 43 0 k) → SK (kw (kw K 11 0 10 0) 11 0 12 0) z T 0 0 (fun _ => 0) (fun _ => 0) := fun K k1 k2 => by
    refine ⟨⟨by rw [kw_at _ _ (by omega), kw_at _ _ (by omega), k1, e9], by omega, fun k hk => ?_⟩, by rw [kw_at _ _ (by omega), kw_app, if_pos ⟨rfl, rfl, rfl⟩]; rfl, by rw [kw_app, if_pos ⟨rfl, rfl, rfl⟩]; rfl, fun i hi => by omega⟩
    rw [kw_at _ _ (by omega), kw_at _ _ (by omega), k2, hT]
    have := t3 k (by omega)
    exact ⟨this.2.1, this.2.2⟩
  have hA : E_X7_readInto 0 3 I J = G_X7_readInto 0 3 kfu 8 (nI 0) (nI 0) I0 J := by rw [hI0]; rfl
  obtain ⟨h1, h2, h3, h4, h5, h6, h7⟩ := Inv_mono h (Nat.le_add_right N 200)
  rcases lp with ⟨x, I', hx, e1, f1, md⟩ | ⟨R, w, ln, I', hR1, hR2, e1, f1, s1, o1, md⟩
  · have f01 := frC_tr f0 f1
    have c1 := cs_X10_sky I J (-300 - nI x, rfC 0 (kw I' 7 0 1 0), J) (by
      unfold E_X10_sky
      rw [kbd_eq (hA.trans e1)]
      dsimp only
      rw [kif_neg (nI_m1' x (by omega)), kif_pos (rC0 _ _).2, (rC0 _ _).1])
    obtain ⟨K0, hK0⟩ : ∃ K0, K0 = rfC 0 (kw I' 7 0 1 0) := ⟨_, rfl⟩
    rw [← hK0] at c1
    have k0 : ∀ t o j, ¬ t = 40 → ¬ (t = 7 ∧ j = 1) → ¬ (o = 3 ∧ (t = 5 ∨ t = 35 ∨ t = 36)) → K0 t o j = I t o j := fun t o j q1 q2 q3 => by
      rw [hK0, rfC_at _ _ _ _ q1, kw_at _ _ (by omega), f01 _ _ _ q3]
    obtain ⟨K', e2, g1, g2, g3, g4⟩ := md (kw (kw K0 11 0 10 0) 11 0 12 0) kfu (by unfold kfu; omega) (skq K0 (k0 _ _ _ (by omega) (by omega) (by omega)) (fun k => k0 _ _ _ (by omega) (by omega) (by omega)))
    have c2 := cs_X11_sky K0 J _ (show E_X11_sky K0 J = _ from e2)
    have kk : ∀ t o j, ¬ (t = 11 ∧ o = 0 ∧ (j = 9 ∨ j = 10 ∨ j = 12)) → ¬ (t = 44 ∧ o = 0) → ¬ (t = 42 ∧ o = 0 ∧ j = 0) → ¬ (t = 41 ∧ o = 0) → ¬ t = 40 → ¬ (t = 7 ∧ j = 1) → ¬ (o = 3 ∧ (t = 5 ∨ t = 35 ∨ t = 36)) → K' t o j = I t o j := fun t o j q1 q2 q3 q4 q5 q6 q7 => by
      rw [g1 _ _ _ q1 q2 q3 q4, kw_at _ _ (by omega), kw_at _ _ (by omega), k0 _ _ _ q5 q6 q7]
    have k410 : K' 41 0 = I 41 0 := by
      rw [g4]
      exact funext fun j => by rw [kw_at _ _ (by omega), kw_at _ _ (by omega), k0 _ _ _ (by omega) (by omega) (by omega)]
    have k412 : K' 41 2 = I 41 2 := funext fun j => kk _ _ _ (by omega) (by omega) (by omega) (by omega) (by omega) (by omega) (by omega)
    have k71 : K' 7 0 1 = 0 := by
      rw [g1 _ _ _ (by omega) (by omega) (by omega) (by omega), kw_at _ _ (by omega), kw_at _ _ (by omega), hK0, rfC_at _ _ _ _ (by omega), kw_app, if_pos ⟨rfl, rfl, rfl⟩]
    have cwk : ∀ {o : Nat} {g : Nat → Int32}, o < 2 → CW I o g → CW K' o g := fun ho q => CW_congr q (fun t j a => by
      unfold cwt at a
      exact kk _ _ _ (by omega) (by omega) (by omega) (by omega) (by omega) (by omega) (by omega))
    refine MM_f c1 rfl c2 rfl ?_
    show Inv (N + 200) K' J
    refine ⟨by rw [k410]; exact h1, by rw [k410]; exact cwk (by omega) h2, ?_, fun s hs => ?_, ⟨by rw [k71, g2], by rw [g2]; exact rg_0 250 (by omega), fun j hj => ?_⟩, fun j hj => ?_, fun j hj => ?_⟩
    · unfold IK
      rw [kk _ _ _ (by omega) (by omega) (by omega) (by omega) (by omega) (by omega) (by omega), kk _ _ _ (by omega) (by omega) (by omega) (by omega) (by omega) (by omega) (by omega), k412]
      exact ⟨h3.1, h3.2.imp id (fun q => ⟨q.1, q.2.1, cwk (by omega) q.2.2⟩)⟩
    · have q := h4 s hs
      unfold shl at q ⊢
      rw [kk _ _ _ (by omega) (by omega) (by omega) (by omega) (by omega) (by omega) (by omega), kk _ _ _ (by omega) (by omega) (by omega) (by omega) (by omega) (by omega) (by omega), kk _ _ _ (by omega) (by omega) (by omega) (by omega) (by omega) (by omega) (by omega), kk _ _ _ (by omega) (by omega) (by omega) (by omega) (by omega) (by omega) (by omega), k410]
      exact q
    · rw [g2] at hj
      have z0 : nn (0 : Int32) = 0 := nn_nI (n := 0) (by omega)
      omega
    · have k42 : K' 40 0 j = (rfC 0 (kw I' 7 0 1 0)) 40 0 j := by rw [g1 _ _ _ (by omega) (by omega) (by omega) (by omega), kw_at _ _ (by omega), kw_at _ _ (by omega), hK0]
      have i40 : (kw I' 7 0 1 0) 40 0 j = I 40 0 j := by rw [kw_at _ _ (by omega), f01 _ _ _ (by omega)]
      have i400 : (kw I' 7 0 1 0) 40 0 0 = I 40 0 0 := by rw [kw_at _ _ (by omega), f01 _ _ _ (by omega)]
      rw [k42]
      unfold rfC
      rw [kw_app, i40, i400]
      by_cases y : j = 0
      · rw [if_pos ⟨rfl, rfl, y⟩, y, g3, kw_at _ _ (by omega), kw_at _ _ (by omega), k0 _ _ _ (by omega) (by omega) (by omega), h6 0 (by omega)]
      · rw [if_neg (fun q => y q.2.2), kk _ _ _ (by omega) (by omega) (by omega) (by omega) (by omega) (by omega) (by omega)]
        exact h6 j hj
    · rw [kk _ _ _ (by omega) (by omega) (by omega) (by omega) (by omega) (by omega) (by omega)]
      exact h7 j hj
  · have f01 := frC_tr f0 f1
    have g0 : ¬ (0 : Int32) < 0 := by decide
    have p20 : ¬ (20 : Int32) < 0 := by decide
    have c20 : (¬ (0 : Int32) < 0 ∧ ¬ (0 : Int32) < 0 ∧ ¬ (20 : Int32) < 0 ∧ ((0 : Int32)).toNatClampNeg + ((20 : Int32)).toNatClampNeg ≤ 20 ∧ ((0 : Int32)).toNatClampNeg + ((20 : Int32)).toNatClampNeg ≤ 20) := ⟨g0, g0, p20, Nat.le_refl 20, Nat.le_refl 20⟩
    have ab := X5_become 0 3 (by omega) (kw I' 7 0 1 0) J
    have b2 : (F_X5_become 0 3 (kw I' 7 0 1 0) J).2 = J := rfl
    obtain ⟨K0, hK0⟩ : ∃ K0, K0 = (F_X5_become 0 3 (kw I' 7 0 1 0) J).1 := ⟨_, rfl⟩
    rw [← hK0] at ab
    have k532 : K0 5 3 2 = nI R := by rw [ab, if_neg (by omega), kw_at _ _ (by omega), s1.1]
    have c1 := cs_X10_sky I J (nI R, K0, J) (by
      unfold E_X10_sky
      rw [kbd_eq (hA.trans e1)]
      dsimp only
      rw [kif_pos rfl, kif_pos (show pre_X5_become 0 3 (kw I' 7 0 1 0) J from ⟨c20, c20, trivial⟩), b2, ← hK0, k532])
    have k0 : ∀ t o j, ¬ (t = 7 ∧ j = 1) → ¬ ((o = 3 ∨ o = 0) ∧ (t = 5 ∨ t = 35 ∨ t = 36)) → K0 t o j = I t o j := fun t o j q2 q3 => by
      rw [ab, if_neg (by omega), kw_at _ _ (by omega), f01 _ _ _ (by omega)]
    obtain ⟨K', e2, g1, g2, g3, g4⟩ := md (kw (kw K0 11 0 10 0) 11 0 12 0) kfu (by unfold kfu; omega) (skq K0 (k0 _ _ _ (by omega) (by omega)) (fun k => k0 _ _ _ (by omega) (by omega)))
    have c2 := cs_X11_sky K0 J _ (show E_X11_sky K0 J = _ from e2)
    have kk : ∀ t o j, ¬ (t = 11 ∧ o = 0 ∧ (j = 9 ∨ j = 10 ∨ j = 12)) → ¬ (t = 44 ∧ o = 0) → ¬ (t = 41 ∧ o = 0) → ¬ (t = 7 ∧ j = 1) → ¬ ((o = 3 ∨ o = 0) ∧ (t = 5 ∨ t = 35 ∨ t = 36)) → K' t o j = I t o j := fun t o j q1 q2 q4 q6 q7 => by
      by_cases q3 : t = 42 ∧ o = 0 ∧ j = 0
      · obtain ⟨rfl, rfl, rfl⟩ := q3
        rw [g3, kw_at _ _ (by omega), kw_at _ _ (by omega), k0 _ _ _ (by omega) (by omega)]
      · rw [g1 _ _ _ q1 q2 q3 q4, kw_at _ _ (by omega), kw_at _ _ (by omega), k0 _ _ _ q6 q7]
    have k410 : K' 41 0 = skG (I 41 0) R (bufF w ln) (2 * R) := by
      rw [g4]
      have e : (kw (kw K0 11 0 10 0) 11 0 12 0) 41 0 = I 41 0 := funext fun j => by rw [kw_at _ _ (by omega), kw_at _ _ (by omega), k0 _ _ _ (by omega) (by omega)]
      rw [e]
    have k412 : K' 41 2 = I 41 2 := funext fun j => kk _ _ _ (by omega) (by omega) (by omega) (by omega) (by omega)
    have k71 : K' 7 0 1 = 0 := by
      rw [g1 _ _ _ (by omega) (by omega) (by omega) (by omega), kw_at _ _ (by omega), kw_at _ _ (by omega), ab, if_neg (by omega), kw_app, if_pos ⟨rfl, rfl, rfl⟩]
    have ks : ∀ t j, t = 5 ∨ t = 35 ∨ t = 36 → K' t 0 j = K0 t 0 j := fun t j q => by
      rw [g1 _ _ _ (by omega) (by omega) (by omega) (by omega), kw_at _ _ (by omega), kw_at _ _ (by omega)]
    have hcs : CS K' 0 (skG (I 41 0) R (bufF w ln) (2 * R)) := by
      refine CS_sky h1 h2.1 hR2 o1 (fun t j a b c d => ?_) ?_ ?_ (fun i hi => ?_)
      · unfold stT at a
        exact kk _ _ _ (by omega) (by omega) (by omega) (by omega) (by omega)
      · rw [ks _ _ (by omega), ab, if_pos (by omega), kw_at _ _ (by omega), s1.1]
      · rw [ks _ _ (by omega), ab, if_pos (by omega), kw_at _ _ (by omega), s1.2.1]
      · rw [ks _ _ (by omega), ks _ _ (by omega), ab, ab, if_pos (by omega), if_pos (by omega), kw_at _ _ (by omega), kw_at _ _ (by omega)]
        exact s1.2.2 i hi
    have hcw : CW K' 0 (skG (I 41 0) R (bufF w ln) (2 * R)) := CW_S h2 hcs (fun t j a => kk _ _ _ (by omega) (by omega) (by omega) (by omega) (by omega)) (fun j a => skG_ne _ hR2 _ (by omega) (by omega))
    have k14 : K' 41 0 14 = I 41 0 14 := by rw [k410, skG_ne _ hR2 _ (by omega) (by omega)]
    refine MM_f c1 rfl c2 rfl ?_
    show Inv (N + 200) K' J
    refine ⟨by rw [k410]; exact WG_sky h1 hR2 o1, by rw [k410]; exact hcw, ?_, fun s hs => ?_, ⟨by rw [k71, g2], by rw [g2]; exact rg_0 250 (by omega), fun j hj => ?_⟩, fun j hj => ?_, fun j hj => ?_⟩
    · unfold IK
      rw [kk _ _ _ (by omega) (by omega) (by omega) (by omega) (by omega), kk _ _ _ (by omega) (by omega) (by omega) (by omega) (by omega), k412]
      refine ⟨h3.1, h3.2.imp id (fun q => ⟨q.1, q.2.1, CW_congr q.2.2 (fun t j a => ?_)⟩)⟩
      unfold cwt at a
      exact kk _ _ _ (by omega) (by omega) (by omega) (by omega) (by omega)
    · have q := h4 s hs
      unfold shl at q ⊢
      rw [kk _ _ _ (by omega) (by omega) (by omega) (by omega) (by omega), kk _ _ _ (by omega) (by omega) (by omega) (by omega) (by omega), kk _ _ _ (by omega) (by omega) (by omega) (by omega) (by omega), kk _ _ _ (by omega) (by omega) (by omega) (by omega) (by omega), k14]
      exact q
    · rw [g2] at hj
      have z0 : nn (0 : Int32) = 0 := nn_nI (n := 0) (by omega)
      omega
    · rw [kk _ _ _ (by omega) (by omega) (by omega) (by omega) (by omega), kk _ _ _ (by omega) (by omega) (by omega) (by omega) (by omega)]
      exact h6 j hj
    · rw [kk _ _ _ (by omega) (by omega) (by omega) (by omega) (by omega)]
      exact h7 j hj

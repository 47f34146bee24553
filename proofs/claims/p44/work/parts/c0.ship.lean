/-! one ship more -/
def shG (g : Nat → Int32) (k h : Nat) : Nat → Int32 := upd (upd (upd (upd (upd g (109 + 4 * nn (g 14)) (nI k)) (109 + 4 * nn (g 14) + 1) (nI h)) (109 + 4 * nn (g 14) + 2) (-1)) (109 + 4 * nn (g 14) + 3) (-1)) 14 (nI (nn (g 14) + 1))
theorem shG_ne (g : Nat → Int32) (k h : Nat) {j : Nat} (h14 : ¬ j = 14) (hj : ¬ (109 + 4 * nn (g 14) ≤ j ∧ j < 113 + 4 * nn (g 14))) : shG g k h j = g j := by
  unfold shG
  rw [upd_app, if_neg h14, upd_app, if_neg (by omega), upd_app, if_neg (by omega), upd_app, if_neg (by omega), upd_app, if_neg (by omega)]
theorem shG_14 (g : Nat → Int32) (k h : Nat) : shG g k h 14 = nI (nn (g 14) + 1) := by unfold shG; rw [upd_app, if_pos rfl]
theorem shG_c (g : Nat → Int32) (k h : Nat) : shG g k h (109 + 4 * nn (g 14)) = nI k ∧ shG g k h (109 + 4 * nn (g 14) + 1) = nI h ∧ shG g k h (109 + 4 * nn (g 14) + 2) = -1 ∧ shG g k h (109 + 4 * nn (g 14) + 3) = -1 := by
  unfold shG
  refine ⟨?_, ?_, ?_, ?_⟩
  · rw [upd_app, if_neg (by omega), upd_app, if_neg (by omega), upd_app, if_neg (by omega), upd_app, if_neg (by omega), upd_app, if_pos rfl]
  · rw [upd_app, if_neg (by omega), upd_app, if_neg (by omega), upd_app, if_neg (by omega), upd_app, if_pos rfl]
  · rw [upd_app, if_neg (by omega), upd_app, if_neg (by omega), upd_app, if_pos rfl]
  · rw [upd_app, if_neg (by omega), upd_app, if_pos rfl]
theorem WG_ship {g : Nat → Int32} {N : Nat} (hg : WG g N) {k h : Nat} (hk3 : 3 ≤ k) (hk7 : k ≤ 7) (hh : nn (g 0) ≤ h) (hh2 : h ≤ 1000000) (hc : nn (g 14) < 200) : WG (shG g k h) N := by
  obtain ⟨h0, h12, h13, h14, hS, hP, hO, hK, hF, hL⟩ := hg
  have a12 := h12.2
  have a15 := hL.1.2
  have e : ∀ {j : Nat}, j < 109 → ¬ j = 14 → shG g k h j = g j := fun a b => shG_ne _ _ _ b (by omega)
  have el : ∀ {j : Nat}, 909 ≤ j → shG g k h j = g j := fun a => shG_ne _ _ _ (by omega) (by omega)
  have es : ∀ {s b : Nat}, s < nn (g 14) → b < 4 → shG g k h (109 + 4 * s + b) = g (109 + 4 * s + b) := fun a b => shG_ne _ _ _ (by omega) (by omega)
  have es0 : ∀ {s : Nat}, s < nn (g 14) → shG g k h (109 + 4 * s) = g (109 + 4 * s) := fun a => shG_ne _ _ _ (by omega) (by omega)
  obtain ⟨b0, b1, b2, b3⟩ := shG_c g k h
  refine ⟨by rw [e (by omega) (by omega)]; exact h0, by rw [e (by omega) (by omega)]; exact h12, by rw [e (by omega) (by omega)]; exact h13, by rw [shG_14]; exact rg_nI (by omega) (by omega), ?_, ?_, ?_, ?_, ?_, ?_⟩
  · unfold WS
    rw [e (j := 12) (by omega) (by omega)]
    intro i hi
    rw [e (by omega) (by omega), e (by omega) (by omega)]
    exact hS i hi
  · unfold WP
    rw [e (j := 13) (by omega) (by omega)]
    intro i hi
    rw [e (by omega) (by omega)]
    exact hP i hi
  · unfold WO
    rw [e (j := 3) (by omega) (by omega), e (j := 4) (by omega) (by omega), e (j := 5) (by omega) (by omega), e (j := 6) (by omega) (by omega), e (j := 7) (by omega) (by omega), e (j := 10) (by omega) (by omega), e (j := 11) (by omega) (by omega)]
    exact hO
  · unfold WK
    rw [shG_14, nn_nI (by omega)]
    intro s hs
    by_cases q : s = nn (g 14)
    · subst q
      rw [b0, b1, nn_nI (by omega)]
      exact ⟨rg_nI hk7 (by omega), hk3, rg_nI hh2 (by omega)⟩
    · rw [es0 (by omega), es (by omega) (by omega)]
      exact hK s (by omega)
  · unfold WF
    rw [shG_14, nn_nI (by omega), e (j := 0) (by omega) (by omega)]
    intro s hs
    by_cases q : s = nn (g 14)
    · subst q
      rw [b1, b2, b3, nn_nI (by omega)]
      exact ⟨fun z => by omega, fun _ => ⟨rfl, rfl⟩⟩
    · rw [es (by omega) (by omega), es (by omega) (by omega), es (by omega) (by omega)]
      exact hF s (by omega)
  · unfold WLb
    rw [e (j := 15) (by omega) (by omega), e (j := 0) (by omega) (by omega)]
    refine ⟨hL.1, fun x hx => ?_⟩
    rw [el (by omega), el (by omega)]
    exact hL.2 x hx
theorem E_comesShip {I : kI} (J : kJ) (k h : Nat) (h14 : rg (I 41 0 14) 200) (hc : nn (I 41 0 14) < 200) : F_X11_comesShip (nI k) (nI h) I J = (nI (nn (I 41 0 14)), kx_uA I 41 0 (shG (I 41 0) k h), J) ∧ pre_X11_comesShip (nI k) (nI h) I J := by
  have l14 : ((14 : Int32)).toNatClampNeg = 14 := rfl
  have v14 : vp_in (14 : Int32) 2509 := vl 14 2509 (by omega) (by omega)
  have hcl : ∀ b, b ≤ 3 → ((109 : Int32) + 4 * nI (nn (I 41 0 14)) + nI b).toNatClampNeg = 109 + 4 * nn (I 41 0 14) + b := fun b hb => ix3c (a := 109) (b := 4) (c := b) (by omega)
  have hv : ∀ b, b ≤ 3 → vp_in ((109 : Int32) + 4 * nI (nn (I 41 0 14)) + nI b) 2509 := fun b hb => ix3v (a := 109) (b := 4) (c := b) (by omega) (by omega)
  have d0 : ((109 : Int32) + 4 * nI (nn (I 41 0 14))).toNatClampNeg = 109 + 4 * nn (I 41 0 14) := ix2c (a := 109) (b := 4) (by omega)
  have w0 : vp_in ((109 : Int32) + 4 * nI (nn (I 41 0 14))) 2509 := ix2v (a := 109) (b := 4) (by omega) (by omega)
  have d1 : ((109 : Int32) + 4 * nI (nn (I 41 0 14)) + 1).toNatClampNeg = 109 + 4 * nn (I 41 0 14) + 1 := hcl 1 (by omega)
  have d2 : ((109 : Int32) + 4 * nI (nn (I 41 0 14)) + 2).toNatClampNeg = 109 + 4 * nn (I 41 0 14) + 2 := hcl 2 (by omega)
  have d3 : ((109 : Int32) + 4 * nI (nn (I 41 0 14)) + 3).toNatClampNeg = 109 + 4 * nn (I 41 0 14) + 3 := hcl 3 (by omega)
  obtain ⟨c, hcc⟩ : ∃ c, c = nn (I 41 0 14) := ⟨_, rfl⟩
  have e14 : I 41 0 14 = nI c := by rw [hcc]; exact h14.1
  have sg : shG (I 41 0) k h = upd (upd (upd (upd (upd (I 41 0) (109 + 4 * c) (nI k)) (109 + 4 * c + 1) (nI h)) (109 + 4 * c + 2) (-1)) (109 + 4 * c + 3) (-1)) 14 (nI (c + 1)) := by
    unfold shG
    rw [← hcc]
  rw [← hcc] at d0 d1 d2 d3 w0 hv
  rw [sg, ← hcc]
  unfold F_X11_comesShip pre_X11_comesShip
  rw [l14, e14, d0, d1, d2, d3, nI_1]
  refine ⟨?_, v14, w0, hv 1 (by omega), hv 2 (by omega), hv 3 (by omega), v14, trivial⟩
  refine congrArg (fun K => (nI c, K, J)) (kI_ext fun t o j => ?_)
  simp only [kw_app, kx_uA_app, upd_app]
  by_cases q : t = 41 ∧ o = 0
  · obtain ⟨rfl, rfl⟩ := q
    simp only [true_and]
    simp only [and_self, if_true]
  · rw [if_neg q, if_neg (fun z => q ⟨z.1, z.2.1⟩), if_neg (fun z => q ⟨z.1, z.2.1⟩), if_neg (fun z => q ⟨z.1, z.2.1⟩), if_neg (fun z => q ⟨z.1, z.2.1⟩), if_neg (fun z => q ⟨z.1, z.2.1⟩)]
/-! the class's insertion -/
def shF (f : Nat → Int32) (v c : Nat) : Nat → Int32 := fun a => if v < a ∧ a ≤ c then f (a - 1) else f a
theorem shF_c (f : Nat → Int32) (c : Nat) : shF f c c = f := by
  funext a
  unfold shF
  rw [if_neg (by omega)]
def bh (kd hr : Nat → Nat) (k h s : Nat) : Prop := h < hr s ∨ (hr s = h ∧ kd s < k)
def exI (I : kI) (o c v k h : Nat) : kI := kw (kw (kw (kw (kw (kw (kx_uA I 29 o (shF (I 29 o) v c)) 29 o v (nI c)) 25 o c (nI k)) 26 o c (nI h)) 27 o c (-1)) 28 o c (-1)) 2 o 5 (nI (c + 1))
theorem g_expect {I : kI} {o c : Nat} {kd hr p : Nat → Nat} (hF : FL I o c kd hr p) (hc : c < 200) (k h : Nat) (hk : k ≤ 7) (hh : h < 2147483648) (J : kJ) : ∀ v m, v ≤ c → v + 2 ≤ m → (∀ a, v ≤ a → a < c → bh kd hr k h (p a)) → ∃ v', v' ≤ c ∧ (∀ a, v' ≤ a → a < c → bh kd hr k h (p a)) ∧ (v' = 0 ∨ ¬ bh kd hr k h (p (v' - 1))) ∧ G_X2_expect o (nI k) (nI h) m 14 (nI v) (kx_uA I 29 o (shF (I 29 o) v c)) J = some (nI c, exI I o c v' k h, J) := by
  obtain ⟨f1, f2, f3, f4, f5, f6⟩ := hF
  have z1 : ¬ (1 : Int32) = 0 := by decide
  have cc : (nI c).toNatClampNeg = c := nI_clamp (by omega)
  have vc : vp_in (nI c) 200 := vl c 200 hc (by omega)
  have putp : ∀ v m, v ≤ c → (∀ a, v ≤ a → a < c → bh kd hr k h (p a)) → (v = 0 ∨ ¬ bh kd hr k h (p (v - 1))) → ∀ K : kI, K = kx_uA I 29 o (shF (I 29 o) v c) → (kif (vp_in (nI v) 200) (kif (vp_in ((kw K 29 o ((nI v)).toNatClampNeg (K 2 o 5)) 2 o 5) 200) (kif (vp_in ((kw (kw K 29 o ((nI v)).toNatClampNeg (K 2 o 5)) 25 o (((kw K 29 o ((nI v)).toNatClampNeg (K 2 o 5)) 2 o 5)).toNatClampNeg (nI k)) 2 o 5) 200) (kif (vp_in ((kw (kw (kw K 29 o ((nI v)).toNatClampNeg (K 2 o 5)) 25 o (((kw K 29 o ((nI v)).toNatClampNeg (K 2 o 5)) 2 o 5)).toNatClampNeg (nI k)) 26 o (((kw (kw K 29 o ((nI v)).toNatClampNeg (K 2 o 5)) 25 o (((kw K 29 o ((nI v)).toNatClampNeg (K 2 o 5)) 2 o 5)).toNatClampNeg (nI k)) 2 o 5)).toNatClampNeg (nI h)) 2 o 5) 200) ((G_X2_expect o (nI k) (nI h) (m + 1)) 94 0 (kw (kw (kw (kw K 29 o ((nI v)).toNatClampNeg (K 2 o 5)) 25 o (((kw K 29 o ((nI v)).toNatClampNeg (K 2 o 5)) 2 o 5)).toNatClampNeg (nI k)) 26 o (((kw (kw K 29 o ((nI v)).toNatClampNeg (K 2 o 5)) 25 o (((kw K 29 o ((nI v)).toNatClampNeg (K 2 o 5)) 2 o 5)).toNatClampNeg (nI k)) 2 o 5)).toNatClampNeg (nI h)) 27 o (((kw (kw (kw K 29 o ((nI v)).toNatClampNeg (K 2 o 5)) 25 o (((kw K 29 o ((nI v)).toNatClampNeg (K 2 o 5)) 2 o 5)).toNatClampNeg (nI k)) 26 o (((kw (kw K 29 o ((nI v)).toNatClampNeg (K 2 o 5)) 25 o (((kw K 29 o ((nI v)).toNatClampNeg (K 2 o 5)) 2 o 5)).toNatClampNeg (nI k)) 2 o 5)).toNatClampNeg (nI h)) 2 o 5)).toNatClampNeg (-1 : Int32)) J) none) none) none) none) = some (nI c, exI I o c v k h, J) := by
    intro v m hv _ _ K hK
    have cv : (nI v).toNatClampNeg = v := nI_clamp (by omega)
    have k5 : K 2 o 5 = nI c := by rw [hK, kx_uA_app, if_neg (by omega), f2]
    have n1 : ∀ (L : kI) (t j : Nat) (x : Int32), ¬ t = 2 → L 2 o 5 = nI c → (kw L t o j x) 2 o 5 = nI c := fun L t j x ht hL => by rw [kw_at _ _ (fun q => ht q.1.symm), hL]
    have a1 := n1 K 29 v (nI c) (by omega) k5
    have a2 := n1 _ 25 c (nI k) (by omega) a1
    have a3 := n1 _ 26 c (nI h) (by omega) a2
    have a4 := n1 _ 27 c (-1) (by omega) a3
    have a5 := n1 _ 28 c (-1) (by omega) a4
    have e8 : nI (c + 1) - 1 = nI c := by
      have q : nI (c + 1) - nI 1 = nI (c + 1 - 1) := pk_sub (by omega)
      exact q
    rw [cv, k5, a1, cc, a2, cc, a3, cc, kif_pos (vl v 200 (by omega) (by omega)), kif_pos vc, kif_pos vc, kif_pos vc, G_X2_expect_94, a4, kif_pos vc, cc, a5, kw_app, if_pos ⟨rfl, rfl, rfl⟩, nI_1, e8]
    unfold exI
    rw [hK]
  intro v
  induction v with
  | zero =>
    intro m hv hm hb
    obtain ⟨m, rfl⟩ : ∃ m', m = m' + 2 := ⟨m - 2, by omega⟩
    refine ⟨0, hv, hb, Or.inl rfl, ?_⟩
    rw [G_X2_expect_14, kif_pos (by decide)]
    exact putp 0 m hv hb (Or.inl rfl) _ rfl
  | succ v ih =>
    intro m hv hm hb
    obtain ⟨m, rfl⟩ : ∃ m', m = m' + 2 := ⟨m - 2, by omega⟩
    obtain ⟨K, hK⟩ : ∃ K, K = kx_uA I 29 o (shF (I 29 o) (v + 1) c) := ⟨_, rfl⟩
    have kn : ∀ t o2 j, ¬ t = 29 → K t o2 j = I t o2 j := fun t o2 j q => by rw [hK, kx_uA_app, if_neg (fun z => q z.1)]
    have k5 : K 2 o 5 = nI c := by rw [kn _ _ _ (by omega), f2]
    have k29 : K 29 o v = I 29 o v := by
      rw [hK, kx_uA_app, if_pos ⟨rfl, rfl⟩]
      unfold shF
      rw [if_neg (by omega)]
    have m1 : nI (v + 1) - (1 : Int32) = nI v := by
      have q : nI (v + 1) - nI 1 = nI (v + 1 - 1) := pk_sub (by omega)
      exact q
    have cv : (nI v).toNatClampNeg = v := nI_clamp (by omega)
    have cv1 : (nI (v + 1)).toNatClampNeg = v + 1 := nI_clamp (by omega)
    have e1 := F_placed (I := K) (o := o) (c := c) (by omega) k5 (s := v) (by omega) J
    rw [k29, (f4 v (by omega)).1] at e1
    have hp := (f4 v (by omega)).2
    have e2 := F_hourOf2 (I := K) (o := o) (c := c) (by omega) k5 hp J
    have e3 := F_kindOf2 (I := K) (o := o) (c := c) (by omega) k5 hp J
    rw [kn _ _ _ (by omega), (f3 _ hp).2.2.2.1] at e2
    rw [kn _ _ _ (by omega), (f3 _ hp).1] at e3
    have hr9 := (f3 _ hp).2.2.2.2
    have k7 := (f3 _ hp).2.2.1
    have pb : pre_X2_isBehind o (nI (p v)) (nI k) (nI h) K J := by
      unfold pre_X2_isBehind
      rw [e2.1]
      refine ⟨e2.2, ?_⟩
      by_cases q1 : nI h < nI (hr (p v))
      · rw [kif_pos q1]; trivial
      · rw [kif_neg q1]
        refine ⟨e2.2, ?_⟩
        by_cases q2 : nI (hr (p v)) = nI h
        · rw [kif_pos q2]; exact ⟨e3.2, trivial⟩
        · rw [kif_neg q2]; trivial
    have eb : (bh kd hr k h (p v) → F_X2_isBehind o (nI (p v)) (nI k) (nI h) K J = 1) ∧ (¬ bh kd hr k h (p v) → F_X2_isBehind o (nI (p v)) (nI k) (nI h) K J = 0) := by
      unfold F_X2_isBehind bh
      rw [e2.1, e3.1]
      by_cases q1 : h < hr (p v)
      · rw [kif_pos (by rw [i_lt (by omega) (by omega)]; exact q1)]
        exact ⟨fun _ => rfl, fun z => absurd (Or.inl q1) z⟩
      · rw [kif_neg (by rw [i_lt (by omega) (by omega)]; exact q1)]
        by_cases q2 : hr (p v) = h
        · rw [kif_pos (by rw [q2])]
          by_cases q3 : kd (p v) < k
          · rw [kif_neg (by rw [i_le (by omega) (by omega)]; omega)]
            exact ⟨fun _ => rfl, fun z => absurd (Or.inr ⟨q2, q3⟩) z⟩
          · rw [kif_pos (by rw [i_le (by omega) (by omega)]; omega)]
            exact ⟨fun z => by omega, fun _ => rfl⟩
        · rw [kif_neg (fun z => q2 (nI_inj (by omega) hh z))]
          exact ⟨fun z => by omega, fun _ => rfl⟩
    rw [← hK]
    by_cases q : bh kd hr k h (p v)
    · obtain ⟨v', h1, h2, h3, h4⟩ := ih (m + 1) (by omega) (by omega) (fun a h5 h6 => by
        by_cases av : a = v
        · rw [av]; exact q
        · exact hb a (by omega) h6)
      refine ⟨v', h1, h2, h3, ?_⟩
      have st : kw K 29 o (v + 1) (I 29 o v) = kx_uA I 29 o (shF (I 29 o) v c) := by
        rw [hK, kw_uA]
        refine congrArg (kx_uA I 29 o) (funext fun a => ?_)
        simp only [upd, shF]
        by_cases y : a = v + 1
        · rw [if_pos y, if_pos (by omega), y]
          rfl
        · rw [if_neg y]
          by_cases y2 : v + 1 < a ∧ a ≤ c
          · rw [if_pos y2, if_pos (by omega)]
          · rw [if_neg y2, if_neg (by omega)]
      rw [G_X2_expect_14, kif_neg (by show ¬ nI (v + 1) ≤ nI 0; rw [i_le (by omega) (by omega)]; omega), m1, kif_pos e1.2, e1.1, kif_pos pb, eb.1 q, kif_neg z1, kif_pos (vl v 200 (by omega) (by omega)), kif_pos (vl (v + 1) 200 (by omega) (by omega)), cv, cv1, k29, st, nI_m1]
      exact h4
    · refine ⟨v + 1, hv, hb, Or.inr (by rw [show v + 1 - 1 = v by omega]; exact q), ?_⟩
      rw [G_X2_expect_14, kif_neg (by show ¬ nI (v + 1) ≤ nI 0; rw [i_le (by omega) (by omega)]; omega), m1, kif_pos e1.2, e1.1, kif_pos pb, eb.2 q, kif_pos rfl]
      exact putp (v + 1) m hv hb (Or.inr (by rw [show v + 1 - 1 = v by omega]; exact q)) K hK
theorem exI_at (I : kI) (o c v k h : Nat) {t o2 j : Nat} (hq : ¬ (o2 = o ∧ (t = 29 ∨ (25 ≤ t ∧ t < 29 ∧ j = c) ∨ (t = 2 ∧ j = 5)))) : exI I o c v k h t o2 j = I t o2 j := by
  unfold exI
  rw [kw_at _ _ (by omega), kw_at _ _ (by omega), kw_at _ _ (by omega), kw_at _ _ (by omega), kw_at _ _ (by omega), kw_at _ _ (by omega), kx_uA_app, if_neg (by omega)]
theorem exI_c (I : kI) (o c v k h : Nat) : exI I o c v k h 25 o c = nI k ∧ exI I o c v k h 26 o c = nI h ∧ exI I o c v k h 27 o c = -1 ∧ exI I o c v k h 28 o c = -1 ∧ exI I o c v k h 2 o 5 = nI (c + 1) ∧ ∀ a, exI I o c v k h 29 o a = if a = v then nI c else if v < a ∧ a ≤ c then I 29 o (a - 1) else I 29 o a := by
  unfold exI
  refine ⟨?_, ?_, ?_, ?_, ?_, fun a => ?_⟩
  · rw [kw_at _ _ (by omega), kw_at _ _ (by omega), kw_at _ _ (by omega), kw_at _ _ (by omega), kw_app, if_pos ⟨rfl, rfl, rfl⟩]
  · rw [kw_at _ _ (by omega), kw_at _ _ (by omega), kw_at _ _ (by omega), kw_app, if_pos ⟨rfl, rfl, rfl⟩]
  · rw [kw_at _ _ (by omega), kw_at _ _ (by omega), kw_app, if_pos ⟨rfl, rfl, rfl⟩]
  · rw [kw_at _ _ (by omega), kw_app, if_pos ⟨rfl, rfl, rfl⟩]
  · rw [kw_app, if_pos ⟨rfl, rfl, rfl⟩]
  · rw [kw_at _ _ (by omega), kw_at _ _ (by omega), kw_at _ _ (by omega), kw_at _ _ (by omega), kw_at _ _ (by omega), kw_app]
    by_cases q : a = v
    · rw [if_pos ⟨rfl, rfl, q⟩, if_pos q]
    · rw [if_neg (fun z => q z.2.2), if_neg q, kx_uA_app, if_pos ⟨rfl, rfl⟩]
      rfl
theorem FL_ins {I : kI} {o c : Nat} {kd hr p kd' hr' : Nat → Nat} (hF : FL I o c kd hr p) (hc : c < 200) {k h v : Nat} (hk3 : 3 ≤ k) (hk7 : k ≤ 7) (hh : h < 1000000000) (hv : v ≤ c) (hb : ∀ a, v ≤ a → a < c → bh kd hr k h (p a)) (hn : v = 0 ∨ ¬ bh kd hr k h (p (v - 1))) (hkd : ∀ s, s < c → kd' s = kd s ∧ hr' s = hr s) (hkc : kd' c = k ∧ hr' c = h) : FL (exI I o c v k h) o (c + 1) kd' hr' (fun a => if a = v then c else if v < a then p (a - 1) else p a) := by
  obtain ⟨f1, f2, f3, f4, f5, f6⟩ := hF
  obtain ⟨c1, c2, _, _, c5, c6⟩ := exI_c I o c v k h
  have lo : ∀ a, a < v → bf kd' hr' (p a) c := fun a ha => by
    have hv0 : ¬ v = 0 := by omega
    have hq := hn.resolve_left hv0
    have p1 := (f4 (v - 1) (by omega)).2
    have d1 := hkd _ p1
    have p2 := (f4 a (by omega)).2
    have d2 := hkd _ p2
    unfold bh at hq
    unfold bf
    rw [d2.1, d2.2, hkc.1, hkc.2]
    by_cases av : a = v - 1
    · rw [av]
      rw [av] at p2
      omega
    · have s := f6 a (v - 1) (by omega) (by omega)
      unfold bf at s
      omega
  have hi : ∀ a, v ≤ a → a < c → bf kd' hr' c (p a) := fun a h1 h2 => by
    have q := hb a h1 h2
    have p2 := (f4 a h2).2
    have d2 := hkd _ p2
    unfold bh at q
    unfold bf
    rw [d2.1, d2.2, hkc.1, hkc.2]
    omega
  have mid : ∀ a b, a < b → b < c → bf kd' hr' (p a) (p b) := fun a b h1 h2 => by
    have s := f6 a b h1 h2
    have pa := (f4 a (by omega)).2
    have pb := (f4 b h2).2
    unfold bf
    rw [(hkd _ pa).1, (hkd _ pa).2, (hkd _ pb).1, (hkd _ pb).2]
    exact s
  refine ⟨by omega, c5, fun s hs => ?_, fun a ha => ?_, fun s hs => ?_, fun a b hab hb' => ?_⟩
  · by_cases q : s = c
    · subst q
      rw [c1, c2, hkc.1, hkc.2]
      exact ⟨rfl, hk3, hk7, rfl, hh⟩
    · rw [exI_at _ _ _ _ _ _ (by omega), exI_at _ _ _ _ _ _ (by omega), (hkd s (by omega)).1, (hkd s (by omega)).2]
      exact f3 s (by omega)
  · rw [c6]
    dsimp only
    by_cases q : a = v
    · rw [if_pos q, if_pos q]
      exact ⟨rfl, by omega⟩
    · rw [if_neg q, if_neg q]
      by_cases q2 : v < a
      · rw [if_pos ⟨q2, by omega⟩, if_pos q2]
        have := f4 (a - 1) (by omega)
        exact ⟨this.1, by omega⟩
      · rw [if_neg (fun z => q2 z.1), if_neg q2]
        have := f4 a (by omega)
        exact ⟨this.1, by omega⟩
  · by_cases q : s = c
    · exact ⟨v, by omega, by dsimp only; rw [if_pos rfl, q]⟩
    · obtain ⟨a, ha, hpa⟩ := f5 s (by omega)
      by_cases q2 : a < v
      · exact ⟨a, by omega, by dsimp only; rw [if_neg (by omega), if_neg (by omega), hpa]⟩
      · exact ⟨a + 1, by omega, by dsimp only; rw [if_neg (by omega), if_pos (by omega), show a + 1 - 1 = a by omega, hpa]⟩
  · dsimp only
    by_cases q : a = v
    · rw [if_pos q, if_neg (by omega), if_pos (by omega)]
      exact hi (b - 1) (by omega) (by omega)
    · rw [if_neg q]
      by_cases q2 : v < a
      · rw [if_pos q2, if_neg (by omega), if_pos (by omega)]
        exact mid (a - 1) (b - 1) (by omega) (by omega)
      · rw [if_neg q2]
        by_cases q3 : b = v
        · rw [if_pos q3]
          exact lo a (by omega)
        · rw [if_neg q3]
          by_cases q4 : v < b
          · rw [if_pos q4]
            by_cases q5 : a < b - 1
            · exact mid a (b - 1) q5 (by omega)
            · omega
          · rw [if_neg q4]
            exact mid a b hab (by omega)
theorem X_expect {I : kI} {g : Nat → Int32} {N : Nat} (J : kJ) (hg : WG g N) (hc : CW I 0 g) {k h : Nat} (hk3 : 3 ≤ k) (hk7 : k ≤ 7) (hh2 : h ≤ 1000000) (hlt : nn (g 14) < 200) : ∃ I', E_X2_expect 0 (nI k) (nI h) I J = some (nI (nn (g 14)), I', J) ∧ CW I' 0 (shG g k h) ∧ (∀ t o j, ¬ (o = 0 ∧ cwt t) → I' t o j = I t o j) := by
  have hc0 := hc
  obtain ⟨hS, ⟨p, hF, hfm⟩, hL, u1, u2, u3⟩ := hc
  have i5 := hF.2.1
  have a15 := hg.2.2.2.2.2.2.2.2.2.1.2
  have a12 := hg.2.1.2
  have a13 := hg.2.2.1.2
  obtain ⟨v, v1, v2, v3, v4⟩ := g_expect hF hlt k h hk7 (by omega) J (nn (g 14)) kfu (Nat.le_refl _) (by unfold kfu; omega) (fun a h1 h2 => by omega)
  rw [shF_c, kx_uA_id] at v4
  have eF : F_X2_isFull 0 I J = 0 := by
    unfold F_X2_isFull
    rw [i5, kif_pos]
    show nI _ < nI 200
    rw [i_lt (by omega) (by omega)]
    exact hlt
  obtain ⟨b0, b1, b2, b3⟩ := shG_c g k h
  obtain ⟨c1, c2, c3, c4, c5, c6⟩ := exI_c I 0 (nn (g 14)) v k h
  refine ⟨exI I 0 (nn (g 14)) v k h, ?_, ?_, fun t o j q => exI_at _ _ _ _ _ _ (by unfold cwt at q; omega)⟩
  · unfold E_X2_expect
    rw [eF, kif_pos rfl, i5]
    exact v4
  · have e : ∀ {j : Nat}, j < 109 → ¬ j = 14 → shG g k h j = g j := fun a b => shG_ne _ _ _ b (by omega)
    have el : ∀ {j : Nat}, 909 ≤ j → shG g k h j = g j := fun a => shG_ne _ _ _ (by omega) (by omega)
    have e12 : shG g k h 12 = g 12 := e (by omega) (by omega)
    have e13 : shG g k h 13 = g 13 := e (by omega) (by omega)
    have e15 : shG g k h 15 = g 15 := e (by omega) (by omega)
    refine ⟨?_, ⟨fun a => if a = v then nn (g 14) else if v < a then p (a - 1) else p a, ?_, ?_⟩, ⟨?_, ?_⟩, ?_, ?_, ?_⟩
    · have hS' : CS (exI I 0 (nn (g 14)) v k h) 0 g := CS_congr hS (fun t j a => exI_at _ _ _ _ _ _ (by unfold stT at a; omega))
      obtain ⟨s1, s2, s3, s4, s5, s6, s7, s8, s9⟩ := hS'
      refine ⟨fun j hj => by rw [e (by omega) (by omega)]; exact s1 j hj, fun j hj => by rw [e (by omega) (by omega)]; exact s2 j hj, by rw [e (by omega) (by omega)]; exact s3, by rw [e12]; exact s4, ?_, ?_, by rw [e13]; exact s7, ?_, fun i hi => by rw [e (by omega) (by omega)]; exact s9 i hi⟩
      · rw [s5, e12]
        refine congrArg nI (lsum_congr _ _ (fun x _ hx => ?_))
        show nn _ = nn _
        rw [e (by omega) (by omega)]
      · rw [e12]
        intro r hr
        rw [e (by omega) (by omega), e (by omega) (by omega)]
        exact s6 r hr
      · rw [e13]
        intro i hi
        rw [e (by omega) (by omega), e (by omega) (by omega), e (by omega) (by omega), e (by omega) (by omega)]
        exact s8 i hi
    · rw [shG_14, nn_nI (by omega)]
      refine FL_ins hF hlt hk3 hk7 (by omega) v1 v2 v3 (fun s hs => ?_) ?_
      · unfold gk gh
        rw [shG_ne _ _ _ (by omega) (by omega), shG_ne _ _ _ (by omega) (by omega)]
        exact ⟨rfl, rfl⟩
      · unfold gk gh
        rw [b0, b1, nn_nI (by omega), nn_nI (by omega)]
        exact ⟨rfl, rfl⟩
    · rw [shG_14, nn_nI (by omega)]
      intro s hs
      by_cases q : s = nn (g 14)
      · subst q
        rw [c3, c4, b2, b3]
        exact ⟨rfl, rfl⟩
      · rw [exI_at _ _ _ _ _ _ (by omega), exI_at _ _ _ _ _ _ (by omega), shG_ne _ _ _ (by omega) (by omega), shG_ne _ _ _ (by omega) (by omega)]
        exact hfm s (by omega)
    · rw [exI_at _ _ _ _ _ _ (by omega), e15]; exact hL.1
    · rw [e15]
      intro x hx
      rw [exI_at _ _ _ _ _ _ (by omega), exI_at _ _ _ _ _ _ (by omega), exI_at _ _ _ _ _ _ (by omega), exI_at _ _ _ _ _ _ (by omega), el (by omega), el (by omega), el (by omega), el (by omega)]
      exact hL.2 x hx
    · rw [exI_at _ _ _ _ _ _ (by omega), e (by omega) (by omega)]; exact u1
    · rw [exI_at _ _ _ _ _ _ (by omega), e (by omega) (by omega)]; exact u2
    · rw [exI_at _ _ _ _ _ _ (by omega), e (by omega) (by omega)]; exact u3

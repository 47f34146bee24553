/-! the law: ships, dark hours, what would be -/
abbrev ll (n dk wo oi wr bu un al t a b c d : Option kx_V) : kx_L := [some (kx_r 999 0), some (kx_r 10 0), n, dk, wo, oi, wr, bu, un, al, t, a, b, c, d]
abbrev lr (xs : Nat → Int32) (L : Nat) (J : kJ) (pc : Nat) (l : kx_L) (I : kI) : Prop := kx_Run (tb_law xs L) (kx_NC, fun _ _ => True) pc l [] (I, J, none)
abbrev li (v : Int32) : Option kx_V := some (kx_i v)
def GS (xs : Nat → Int32) (L c : Nat) (g : Nat → Int32) : Prop := (g 8 = -1 ∧ g 15 = 0 ∧ g 16 = 0 ∧ g 6 = 0 ∧ g 7 = 0) ∧ (∃ k, 1 ≤ k ∧ k ≤ 4 ∧ lKeep xs L = nI k ∧ g 13 = nI k ∧ (∀ i, i < k → g (61 + 4 * i) = lRank xs L (nI i)) ∧ ∀ i, i < 24 → g (85 + i) = lWatch xs L i) ∧ g 3 = lWick xs L ∧ g 4 = lOil xs L ∧ g 14 = nI c ∧ ∀ s, s < c → gh g s < 48
theorem GS_0 {xs : Nat → Int32} {L : Nat} {g : Nat → Int32} (h : BG xs L g) : GS xs L 0 g := by
  obtain ⟨k, k1, k4, hk, ⟨⟨⟨b1, b2, b3, b4, b5, b6⟩, b7, b8⟩, b9⟩, b10, b11⟩ := h
  exact ⟨⟨b1, b3, b4, b5, b6⟩, ⟨k, k1, k4, hk, b7, b8, b9⟩, b10, b11, b2, fun s hs => absurd hs (Nat.not_lt_zero _)⟩
theorem GS_s {xs : Nat → Int32} {L c k hh : Nat} {g : Nat → Int32} (h : GS xs L c g) (hc : c < 15) (hh48 : hh < 48) : GS xs L (c + 1) (shG g k hh) := by
  obtain ⟨⟨b1, b3, b4, b5, b6⟩, ⟨kk, k1, k4, hk, b7, b8, b9⟩, b10, b11, b2, b12⟩ := h
  have e14 : nn (g 14) = c := by rw [b2, nn_nI (by omega)]
  have ne : ∀ j, j < 109 → ¬ j = 14 → shG g k hh j = g j := fun j h1 h2 => shG_ne _ _ _ h2 (by omega)
  refine ⟨⟨by rw [ne 8 (by omega) (by omega)]; exact b1, by rw [ne 15 (by omega) (by omega)]; exact b3, by rw [ne 16 (by omega) (by omega)]; exact b4, by rw [ne 6 (by omega) (by omega)]; exact b5, by rw [ne 7 (by omega) (by omega)]; exact b6⟩, ⟨kk, k1, k4, hk, by rw [ne 13 (by omega) (by omega)]; exact b7, fun i hi => by rw [ne _ (by omega) (by omega)]; exact b8 i hi, fun i hi => by rw [ne _ (by omega) (by omega)]; exact b9 i hi⟩, by rw [ne 3 (by omega) (by omega)]; exact b10, by rw [ne 4 (by omega) (by omega)]; exact b11, by rw [shG_14, e14], fun s hs => ?_⟩
  unfold gh
  by_cases q : s = c
  · have z := (shG_c g k hh).2.1
    rw [e14] at z
    rw [q, z, nn_nI (by omega)]
    exact hh48
  · rw [shG_ne _ _ _ (by omega) (by omega)]
    exact b12 s (by omega)
theorem l_kind (v s : Int32) : ∃ kk, 3 ≤ kk ∧ kk ≤ 7 ∧ 3 + (((v >>> (s &&& 31)) &&& 7) - ((v >>> (s &&& 31)) &&& 7) / 5 * 5) = nI kk := by
  obtain ⟨j, hj, e⟩ := pk_andE (v >>> (s &&& 31)) (m := 7) 3 (by decide)
  refine ⟨3 + j % 5, by omega, by omega, ?_⟩
  have e1 : (v >>> (s &&& 31)) &&& 7 = nI j := e
  rw [e1]
  have e2 : nI j - nI j / 5 * 5 = nI (j % 5) := pk_rem (a := j) (d := 5) (by omega) (by decide) (by decide)
  rw [e2]
  exact nI_add 3 (j % 5)
theorem l_hour (v s : Int32) : ∃ hh, hh < 48 ∧ (v >>> (s &&& 31)) &&& 31 = nI hh := by
  obtain ⟨j, hj, e⟩ := pk_andE (v >>> (s &&& 31)) (m := 31) 5 (by decide)
  exact ⟨j, by omega, e⟩
theorem l_7 {k : Nat} (hk : k < 100) : 7 + nI k / 4 = nI (7 + k / 4) := by
  have e : nI k / 4 = nI (k / 4) := pk_div (a := k) (d := 4) (by omega) (by decide) (by decide)
  rw [e]
  exact nI_add 7 (k / 4)
theorem n40 : ¬ (4 : Int32) = 0 := by decide
theorem n50 : ¬ (5 : Int32) = 0 := by decide
set_option maxRecDepth 100000 in
set_option maxHeartbeats 4000000 in
theorem ls_ships {xs : Nat → Int32} {L n : Nat} {J : kJ} (hn : n ≤ 15) (nx : ∀ (I : kI) (g : Nat → Int32), CI 0 I g → GS xs L n g → lr xs L J 79 (ll (li (nI n)) (li (nI n)) none none none none none none none none none none none) I) : ∀ m k (I : kI) (g : Nat → Int32), k + m = n → CI 0 I g → GS xs L k g → lr xs L J 17 (ll (li (nI n)) (li (nI k)) none none none none none none none none none none none) I := by
  intro m
  induction m with
  | zero =>
    intro k I g hk h hg
    obtain rfl : k = n := by omega
    refine kx_start [17, 79] 20 ?_
    exact ⟨fun _ => nx I g h hg, fun z => absurd (Int32.le_refl _) z⟩
  | succ m ih =>
    intro k I g hk h hg
    have le : ¬ nI n ≤ nI k := fun z => by
      rw [i_le (by omega) (by omega)] at z
      omega
    have e7 := l_7 (k := k) (by omega)
    refine kx_start [17, 79] 60 ?_
    refine ⟨fun z => absurd z le, fun _ => ?_⟩
    refine ⟨n40, ?_⟩
    refine ⟨_, ⟨7 + k / 4, 0, congrArg (fun z => [Sum.inl z, kx_r 999 0]) e7, by omega, rfl⟩, Nat.le_of_ble_eq_true rfl, fun v _ => ?_⟩
    refine ⟨n40, ?_⟩
    refine ⟨n50, ?_⟩
    refine ⟨n40, ?_⟩
    refine ⟨_, ⟨7 + k / 4, 0, congrArg (fun z => [Sum.inl z, kx_r 999 0]) e7, by omega, rfl⟩, Nat.le_of_ble_eq_true rfl, fun w _ => ?_⟩
    refine ⟨n40, ?_⟩
    obtain ⟨kk, q1, q2, q3⟩ := l_kind v (8 * (nI k - nI k / 4 * 4))
    obtain ⟨hh, r1, r2⟩ := l_hour w (8 * (nI k - nI k / 4 * 4) + 3)
    have h02 := h.1.1.2
    have e14 : nn (g 14) = k := by rw [hg.2.2.2.2.1, nn_nI (by omega)]
    obtain ⟨x, I', c1, h'⟩ := ki_ship J h q1 q2 (hh := hh) (by omega) (by omega) (by omega) (by omega)
    have c2 : ∀ a b, a = nI kk → b = nI hh → sp_X10_ship [kx_r 10 0, kx_i a, kx_i b] (I, J, none) (some (kx_i x)) (I', J, none) := fun a b ha hb => by
      rw [ha, hb]
      exact c1
    refine ⟨some (kx_i x), (I', J, none), c2 _ _ q3 r2, rfl, ?_⟩
    refine ⟨(I', J, none), ⟨rfl, rfl, fun _ _ _ => ⟨rfl, rfl⟩⟩, ?_⟩
    have r := ih (k + 1) I' _ (by omega) h' (GS_s hg (by omega) r1)
    rw [← nI_1] at r
    exact r
theorem GS_SG {xs : Nat → Int32} {L n : Nat} {g : Nat → Int32} (hn : n ≤ 15) (hg : WG g 0) (h : GS xs L n g) : SG g := ⟨hg, h.1.1, h.1.2.1, h.1.2.2.1, h.1.2.2.2.1, h.1.2.2.2.2, fun s hs => h.2.2.2.2.2 s (by rw [h.2.2.2.2.1, nn_nI (by omega)] at hs; exact hs)⟩
set_option maxRecDepth 100000 in
set_option maxHeartbeats 4000000 in
theorem ls_dark {xs : Nat → Int32} {L n : Nat} {J : kJ} {I : kI} {g : Nat → Int32} (h : CI 0 I g) (nx : lr xs L J 106 (ll (li (nI n)) (li (nI (dN g 48))) (li (nI 48)) none none none none none none none none none none) I) : ∀ m t, t + m = 48 → lr xs L J 84 (ll (li (nI n)) (li (nI (dN g t))) (li (nI t)) none none none none none none none none none none) I := by
  intro m
  induction m with
  | zero =>
    intro t ht
    obtain rfl : t = 48 := by omega
    have le : (48 : Int32) ≤ nI 48 := by decide
    refine kx_start [84, 106] 20 ?_
    exact ⟨fun _ => nx, fun z => absurd le z⟩
  | succ m ih =>
    intro t ht
    have le : ¬ (48 : Int32) ≤ nI t := fun z => by
      have z' : nI 48 ≤ nI t := z
      rw [i_le (by omega) (by omega)] at z'
      omega
    have c1 := ki_dark J h t (by omega)
    have r := ih (t + 1) (by omega)
    have e : nI (dN g t) + aD g t = nI (dN g (t + 1)) := by
      rw [← (nn_D g t).1]
      exact nI_add _ _
    rw [← nI_1, ← e] at r
    refine kx_start [84, 106] 20 ?_
    refine ⟨fun z => absurd z le, fun _ => ?_⟩
    refine ⟨some (kx_i (aD g t)), (I, J, none), c1, rfl, ?_⟩
    exact r
theorem lw_would3 {g : Nat → Int32} (hg : SG g) {I : kI} (J : kJ) (h : CI 0 I g) : ∃ I1 I2 I3, sp_X10_would [kx_r 10 0, kx_i 48, kx_i 0] (I, J, none) (some (kx_i (Hn 48 g 16))) (I1, J, none) ∧ sp_X10_would [kx_r 10 0, kx_i 48, kx_i 1] (I1, J, none) (some (kx_i (Hn 48 g 4))) (I2, J, none) ∧ sp_X10_would [kx_r 10 0, kx_i 48, kx_i 4] (I2, J, none) (some (kx_i (nI (cM (Hn 48 g) 2)))) (I3, J, none) ∧ CI 0 I3 g := by
  obtain ⟨I1, c1, h1⟩ := ki_would (by omega) J h 0 (by omega)
  obtain ⟨I2, c2, h2⟩ := ki_would (by omega) J h1 1 (by omega)
  obtain ⟨I3, c3, h3⟩ := ki_would (by omega) J h2 4 (by omega)
  refine ⟨I1, I2, I3, ?_, ?_, ?_, h3⟩
  · rw [kif_pos (show nI 0 = 0 from rfl), hg.2.2.2.1, Int32.sub_zero] at c1
    exact c1
  · rw [kif_neg (show ¬ nI 1 = 0 by decide), kif_pos (show nI 1 = 1 from rfl)] at c2
    exact c2
  · rw [kif_neg (show ¬ nI 4 = 0 by decide), kif_neg (show ¬ nI 4 = 1 by decide), kif_neg (show ¬ nI 4 = 2 by decide), kif_neg (show ¬ nI 4 = 3 by decide), kif_pos (show nI 4 = 4 from rfl)] at c3
    have e1 : B 2 (Hn 48 g) = nI (cM (Hn 48 g) 2) := B_N _ 2
    have e2 : B 2 g = nI 0 := by
      have z := B_N g 2
      rw [cM_0 hg 2 (by omega)] at z
      exact z
    rw [e1, e2] at c3
    have e3 : nI (cM (Hn 48 g) 2) - nI 0 = nI (cM (Hn 48 g) 2) := Int32.sub_zero _
    rw [e3] at c3
    exact c3
set_option maxRecDepth 100000 in
set_option maxHeartbeats 4000000 in
theorem ls_106 {xs : Nat → Int32} {L n : Nat} {J : kJ} {g : Nat → Int32} (hg : SG g) (nx : ∀ (I : kI), CI 0 I g → lr xs L J 145 (ll (li (nI n)) (li (nI (dN g 48))) (li (Hn 48 g 16)) (li (Hn 48 g 4)) (li (nI (cM (Hn 48 g) 2))) (li 0) (li 0) (li 0) (li 0) none none none none) I) {I : kI} (h : CI 0 I g) : lr xs L J 106 (ll (li (nI n)) (li (nI (dN g 48))) (li (nI 48)) none none none none none none none none none none) I := by
  obtain ⟨I1, I2, I3, c1, c2, c3, h3⟩ := lw_would3 hg J h
  refine kx_start [145] 60 ?_
  refine ⟨_, (I1, J, none), c1, rfl, ?_⟩
  refine ⟨_, (I2, J, none), c2, rfl, ?_⟩
  refine ⟨_, (I3, J, none), c3, rfl, ?_⟩
  exact nx I3 h3
set_option maxRecDepth 100000 in
set_option maxHeartbeats 4000000 in
theorem ls_4 {xs : Nat → Int32} {L : Nat} {J : kJ} (nx : ∀ (n : Nat) (I : kI) (g : Nat → Int32), n ≤ 15 → CI 0 I g → GS xs L n g → lr xs L J 145 (ll (li (nI n)) (li (nI (dN g 48))) (li (Hn 48 g 16)) (li (Hn 48 g 4)) (li (nI (cM (Hn 48 g) 2))) (li 0) (li 0) (li 0) (li 0) none none none none) I) (S1 : kx_S) (h : lG xs L J S1) : kx_Run (tb_law xs L) (kx_NC, fun _ _ => True) 4 lw_L0 [kx_r 10 0] S1 := by
  obtain ⟨I, g, rfl, hC, hG⟩ := h
  obtain ⟨n, hn, e⟩ := pk_andE (la xs L 6) (m := 15) 4 (by decide)
  refine kx_start [17] 20 ?_
  refine ⟨_, ⟨6, 0, rfl, by omega, rfl⟩, Nat.le_of_ble_eq_true rfl, fun v hv => ?_⟩
  have hv' : v = la xs L 6 := hv
  subst hv'
  have e' : la xs L 6 &&& 15 = nI n := e
  have r := ls_ships (xs := xs) (L := L) (n := n) (J := J) (by omega) (fun I2 g2 hC2 hG2 => by
    refine kx_start [84] 20 ?_
    exact ls_dark hC2 (ls_106 (GS_SG (by omega) hC2.1 hG2) (fun I3 h3 => nx n I3 g2 (by omega) h3 hG2) hC2) 48 0 rfl) n 0 I g (by omega) hC (GS_0 hG)
  unfold lr ll li at r
  rw [← e'] at r
  exact r

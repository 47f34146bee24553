/-! build, behind its text -/
def B0 (g : Nat → Int32) : Prop := g 8 = -1 ∧ g 14 = 0 ∧ g 15 = 0 ∧ g 16 = 0 ∧ g 6 = 0 ∧ g 7 = 0
theorem B0_cg {g g' : Nat → Int32} (h : B0 g) (q : ∀ j, j = 6 ∨ j = 7 ∨ j = 8 ∨ j = 14 ∨ j = 15 ∨ j = 16 → g' j = g j) : B0 g' := by
  unfold B0
  rw [q 8 (by omega), q 14 (by omega), q 15 (by omega), q 16 (by omega), q 6 (by omega), q 7 (by omega)]
  exact h
def BK (xs : Nat → Int32) (L k : Nat) (g : Nat → Int32) : Prop := B0 g ∧ g 13 = nI k ∧ ∀ i, i < k → g (61 + 4 * i) = lRank xs L (nI i)
def BP (xs : Nat → Int32) (L k h : Nat) (g : Nat → Int32) : Prop := BK xs L k g ∧ ∀ i, i < h → g (85 + i) = lWatch xs L i
def BG (xs : Nat → Int32) (L : Nat) (g : Nat → Int32) : Prop := ∃ k, 1 ≤ k ∧ k ≤ 4 ∧ lKeep xs L = nI k ∧ BP xs L k 24 g ∧ g 3 = lWick xs L ∧ g 4 = lOil xs L
def lG (xs : Nat → Int32) (L : Nat) (J : kJ) (S : kx_S) : Prop := ∃ I g, S = (I, J, none) ∧ CI 0 I g ∧ BG xs L g
abbrev lb_P (xs : Nat → Int32) (L : Nat) (J : kJ) : kx_P := (kx_NC, fun r' S'' => (r' = some (kx_r 10 0) ∧ lG xs L J S'') ∧ S''.2.2 = none)
abbrev lb_R (xs : Nat → Int32) (L : Nat) (J : kJ) (pc : Nat) (v : Int32) (I : kI) : Prop := kx_Run (tb_bu2 xs L) (lb_P xs L J) pc [some (kx_r 999 0), some (kx_r 10 0), some (kx_i v)] [] (I, J, none)
set_option maxRecDepth 100000 in
set_option maxHeartbeats 4000000 in
theorem lb_tell {xs : Nat → Int32} {L : Nat} {J : kJ} {k : Nat} (k1 : 1 ≤ k) (k4 : k ≤ 4) (hk : lKeep xs L = nI k) {I : kI} {g : Nat → Int32} (h : CI 0 I g) (hb : BP xs L k 24 g) (v : Int32) : lb_R xs L J 73 v I := by
  obtain ⟨da, d1, d2⟩ := lDawn_v xs L
  obtain ⟨du, u1, u2, u3⟩ := lDusk_v xs L
  obtain ⟨wi, w1, w2, w3⟩ := lWick_v xs L
  obtain ⟨oi, o1, o2⟩ := lOil_v xs L
  obtain ⟨co, p1, p2⟩ := lCoal_v xs L
  obtain ⟨x1, I1, c1, h1⟩ := ki_tell J h (x := 0) (by omega) (y := da) (by omega)
  obtain ⟨x2, I2, c2, h2⟩ := ki_tell J h1 (x := 1) (by omega) (y := du) (by omega)
  obtain ⟨x3, I3, c3, h3⟩ := ki_tell J h2 (x := 2) (by omega) (y := wi) (by omega)
  obtain ⟨x4, I4, c4, h4⟩ := ki_tell J h3 (x := 3) (by omega) (y := oi) (by omega)
  obtain ⟨x5, I5, c5, h5⟩ := ki_tell J h4 (x := 4) (by omega) (y := co) (by omega)
  have ne : ∀ j, ¬ (1 ≤ j ∧ j < 6) → upd (upd (upd (upd (upd g (1 + 0) (nI da)) (1 + 1) (nI du)) (1 + 2) (nI wi)) (1 + 3) (nI oi)) (1 + 4) (nI co) j = g j := fun j hj => by
    rw [upd_app, if_neg (by omega), upd_app, if_neg (by omega), upd_app, if_neg (by omega), upd_app, if_neg (by omega), upd_app, if_neg (by omega)]
  have hG : BG xs L (upd (upd (upd (upd (upd g (1 + 0) (nI da)) (1 + 1) (nI du)) (1 + 2) (nI wi)) (1 + 3) (nI oi)) (1 + 4) (nI co)) := by
    refine ⟨k, k1, k4, hk, ⟨⟨B0_cg hb.1.1 (fun j hj => ne j (by omega)), by rw [ne 13 (by omega)]; exact hb.1.2.1, fun i hi => by rw [ne _ (by omega)]; exact hb.1.2.2 i hi⟩, fun i hi => by rw [ne _ (by omega)]; exact hb.2 i hi⟩, ?_, ?_⟩
    · rw [w3, upd_app, if_neg (by omega), upd_app, if_neg (by omega), upd_app, if_pos (by omega)]
    · rw [o2, upd_app, if_neg (by omega), upd_app, if_pos (by omega)]
  refine kx_start [] 80 ?_
  refine ⟨_, ⟨_, rfl, rfl⟩, Nat.le_of_ble_eq_true rfl, fun v hv => ?_⟩
  have hv' : v = nI da := Eq.trans hv d2
  subst hv'
  refine ⟨some (kx_i x1), (I1, J, none), c1, rfl, ?_⟩
  refine ⟨(I1, J, none), ⟨rfl, rfl, fun _ _ _ => ⟨rfl, rfl⟩⟩, ?_⟩
  refine ⟨_, ⟨_, rfl, rfl⟩, Nat.le_of_ble_eq_true rfl, fun v hv => ?_⟩
  have hv' : v = nI du := Eq.trans hv u3
  subst hv'
  refine ⟨some (kx_i x2), (I2, J, none), c2, rfl, ?_⟩
  refine ⟨(I2, J, none), ⟨rfl, rfl, fun _ _ _ => ⟨rfl, rfl⟩⟩, ?_⟩
  refine ⟨_, ⟨_, rfl, rfl⟩, Nat.le_of_ble_eq_true rfl, fun v hv => ?_⟩
  have hv' : v = nI wi := Eq.trans hv w3
  subst hv'
  refine ⟨some (kx_i x3), (I3, J, none), c3, rfl, ?_⟩
  refine ⟨(I3, J, none), ⟨rfl, rfl, fun _ _ _ => ⟨rfl, rfl⟩⟩, ?_⟩
  refine ⟨_, ⟨_, rfl, rfl⟩, Nat.le_of_ble_eq_true rfl, fun v hv => ?_⟩
  have hv' : v = nI oi := Eq.trans hv o2
  subst hv'
  refine ⟨some (kx_i x4), (I4, J, none), c4, rfl, ?_⟩
  refine ⟨(I4, J, none), ⟨rfl, rfl, fun _ _ _ => ⟨rfl, rfl⟩⟩, ?_⟩
  refine ⟨_, ⟨_, rfl, rfl⟩, Nat.le_of_ble_eq_true rfl, fun v hv => ?_⟩
  have hv' : v = nI co := Eq.trans hv p2
  subst hv'
  refine ⟨some (kx_i x5), (I5, J, none), c5, rfl, ?_⟩
  refine ⟨(I5, J, none), ⟨rfl, rfl, fun _ _ _ => ⟨rfl, rfl⟩⟩, ?_⟩
  exact ⟨⟨rfl, I5, _, rfl, h5, hG⟩, rfl⟩
set_option maxRecDepth 100000 in
set_option maxHeartbeats 4000000 in
theorem lb_plan {xs : Nat → Int32} {L : Nat} {J : kJ} {k : Nat} (k1 : 1 ≤ k) (k4 : k ≤ 4) (hk : lKeep xs L = nI k) : ∀ n i (I : kI) (g : Nat → Int32), i + n = 24 → CI 0 I g → BP xs L k i g → lb_R xs L J 50 (nI i) I := by
  intro n
  induction n with
  | zero =>
    intro i I g hi h hb
    obtain rfl : i = 24 := by omega
    have le : (24 : Int32) ≤ nI 24 := by decide
    refine kx_start [73] 20 ?_
    exact ⟨fun _ => lb_tell k1 k4 hk h hb _, fun z => absurd le z⟩
  | succ n ih =>
    intro i I g hi h hb
    have le : ¬ (24 : Int32) ≤ nI i := fun z => by
      have z' : nI 24 ≤ nI i := z
      rw [i_le (by omega) (by omega)] at z'
      omega
    have hv := lWatch_v xs L i hk k1 k4
    have e13 : nn (g 13) = k := by rw [hb.1.2.1, nn_nI (by omega)]
    obtain ⟨x, I', c1, h'⟩ := ki_plan J h (i := i) (by omega) (lWatch xs L i) (by rw [e13]; exact hv)
    refine kx_start [50] 20 ?_
    refine ⟨fun z => absurd z le, fun _ => ?_⟩
    refine ⟨_, ⟨i, _, rfl, by omega, rfl⟩, Nat.le_of_ble_eq_true rfl, fun v hv => ?_⟩
    have hv' : v = lWatch xs L i := hv
    subst hv'
    refine ⟨some (kx_i x), (I', J, none), c1, rfl, ?_⟩
    refine ⟨(I', J, none), ⟨rfl, rfl, fun _ _ _ => ⟨rfl, rfl⟩⟩, ?_⟩
    have ne : ∀ j, ¬ j = 85 + i → upd g (85 + i) (lWatch xs L i) j = g j := fun j hj => by rw [upd_app, if_neg hj]
    have r := ih (i + 1) I' _ (by omega) h' ⟨⟨B0_cg hb.1.1 (fun j hj => ne j (by omega)), by rw [ne 13 (by omega)]; exact hb.1.2.1, fun y hy => by rw [ne _ (by omega)]; exact hb.1.2.2 y hy⟩, fun y hy => by
      by_cases q : y = i
      · rw [q, upd_app, if_pos rfl]
      · rw [ne _ (by omega)]
        exact hb.2 y (by omega)⟩
    rw [← nI_1] at r
    exact r
set_option maxRecDepth 100000 in
set_option maxHeartbeats 4000000 in
theorem lb_keep {xs : Nat → Int32} {L : Nat} {J : kJ} {k : Nat} (k1 : 1 ≤ k) (k4 : k ≤ 4) (hk : lKeep xs L = nI k) : ∀ n i (I : kI) (g : Nat → Int32), i + n = k → CI 0 I g → BK xs L i g → lb_R xs L J 24 (nI i) I := by
  intro n
  induction n with
  | zero =>
    intro i I g hi h hb
    obtain rfl : i = k := by omega
    have r := lb_plan (J := J) k1 k4 hk 24 0 I g rfl h ⟨hb, fun y hy => absurd hy (Nat.not_lt_zero _)⟩
    refine kx_start [50] 20 ?_
    refine ⟨_, ⟨_, rfl, rfl⟩, Nat.le_of_ble_eq_true rfl, fun v hv => ?_⟩
    have hv' : v = nI i := Eq.trans hv hk
    subst hv'
    exact ⟨fun _ => r, fun z => absurd (Int32.le_refl _) z⟩
  | succ n ih =>
    intro i I g hi h hb
    have le : ¬ nI k ≤ nI i := fun z => by
      rw [i_le (by omega) (by omega)] at z
      omega
    have e13 : nn (g 13) = i := by rw [hb.2.1, nn_nI (by omega)]
    obtain ⟨r9, hr, er⟩ := lRank_v xs L (nI i)
    obtain ⟨x, I', c1, h'⟩ := ki_keeper J h hr (by omega)
    rw [e13] at h'
    refine kx_start [24] 20 ?_
    refine ⟨_, ⟨_, rfl, rfl⟩, Nat.le_of_ble_eq_true rfl, fun v hv => ?_⟩
    have hv' : v = nI k := Eq.trans hv hk
    subst hv'
    refine ⟨fun z => absurd z le, fun _ => ?_⟩
    refine ⟨_, ⟨_, _, rfl, rfl⟩, Nat.le_of_ble_eq_true rfl, fun v hv => ?_⟩
    have hv' : v = nI r9 := Eq.trans hv er
    subst hv'
    refine ⟨some (kx_i x), (I', J, none), c1, rfl, ?_⟩
    refine ⟨(I', J, none), ⟨rfl, rfl, fun _ _ _ => ⟨rfl, rfl⟩⟩, ?_⟩
    have r := ih (i + 1) I' _ (by omega) h' ⟨B0_cg hb.1 (fun j hj => kpG_ne _ _ _ (by omega) (by omega)), kpG_13 _ _ _, fun y hy => by
      by_cases q : y = i
      · rw [q, (kpG_k _ _ _).1, er]
      · rw [kpG_ne _ _ _ (by omega) (by omega)]
        exact hb.2.2 y (by omega)⟩
    rw [← nI_1] at r
    exact r
set_option maxRecDepth 100000 in
set_option maxHeartbeats 4000000 in
theorem lb_16 {xs : Nat → Int32} {L : Nat} {J : kJ} {I : kI} {g : Nat → Int32} (h : CI 0 I g) (hT : ∃ z T, TP I z T) (hb : B0 g) (h13 : g 13 = 0) (v : Int32) : kx_Run (tb_bu2 xs L) (lb_P xs L J) 16 [some (kx_r 999 0), some (kx_r 10 0), none] [kx_i v] (I, J, none) := by
  obtain ⟨k, k1, k4, hk⟩ := lKeep_v xs L
  obtain ⟨w, I', g', c1, h', ne⟩ := ki_sky J h hT
  have r := lb_keep (J := J) k1 k4 hk k 0 I' g' (by omega) h' ⟨B0_cg hb (fun j hj => ne j (by omega) (by omega)), by rw [ne 13 (by omega) (by omega)]; exact h13, fun y hy => absurd hy (Nat.not_lt_zero _)⟩
  refine kx_start [24] 20 ?_
  refine ⟨(I, J, none), ⟨rfl, rfl, fun _ _ _ => ⟨rfl, rfl⟩⟩, ?_⟩
  refine ⟨some (kx_i w), (I', J, none), c1, rfl, ?_⟩
  refine ⟨(I', J, none), ⟨rfl, rfl, fun _ _ _ => ⟨rfl, rfl⟩⟩, ?_⟩
  exact r
/-- the first state -/
def lI1 : kI := cn_10_0 (kx_uA (fun _ _ _ => 0) 10 0 (fun _ => 0))
def lJ1 : kJ := jn_10_0 (fun _ _ _ => 0)
theorem lI1_at {t : Nat} (ht : t < 41) (h11 : ¬ t = 11) (o j : Nat) : kx_I0 t o j = lI1 t o j := by
  have h1 : ¬ t = 41 := by omega
  have h2 : ¬ t = 42 := by omega
  have h3 : ¬ t = 43 := by omega
  have h4 : ¬ t = 44 := by omega
  have h5 : ¬ t = 45 := by omega
  have h6 : ¬ t = 46 := by omega
  have h7 : ¬ t = 47 := by omega
  have h8 : ¬ t = 48 := by omega
  have h9 : ¬ t = 49 := by omega
  have ha : ¬ t = 50 := by omega
  have hb : ¬ t = 51 := by omega
  have hc : ¬ t = 52 := by omega
  show cn_11_0 (kx_uA lI1 11 0 (fun _ => 0)) t o j = lI1 t o j
  simp only [cn_11_0, kw_app, kx_uA_app, h11, h1, h2, h3, h4, h5, h6, h7, h8, h9, ha, hb, hc, false_and, if_false]
set_option maxRecDepth 100000 in
theorem lI1_all : kx_all lI1 := by
  unfold kx_all
  decide +kernel
theorem lI1_CI : CI 0 lI1 (kx_I0 41 0) := ⟨kx_WG0, CW_congr kx_CW0 (fun t j h => (lI1_at (by unfold cwt at h; omega) (by unfold cwt at h; omega) 0 j).symm)⟩
theorem lI1_TP : ∃ z T, TP lI1 z T := ⟨0, fun _ => 0, by rw [← lI1_at (by omega) (by omega)]; exact kx_at0 7 0 1 0 (by decide), by omega, fun k hk => absurd hk (Nat.not_lt_zero _)⟩
theorem lI1_B0 : B0 (kx_I0 41 0) := ⟨kx_at0 41 0 8 (-1) (by decide), kx_at0 41 0 14 0 (by decide), kx_at0 41 0 15 0 (by decide), kx_at0 41 0 16 0 (by decide), kx_at0 41 0 6 0 (by decide), kx_at0 41 0 7 0 (by decide)⟩
set_option maxRecDepth 100000 in
set_option maxHeartbeats 4000000 in
theorem lb_all (xs : Nat → Int32) (L : Nat) : sp_bu xs L [kx_r 999 0] (fun _ _ _ => 0, fun _ _ _ => 0, some 0) (fun r S => r = some (kx_r 10 0) ∧ lG xs L lJ1 S) := by
  refine ⟨rfl, rfl, ?_⟩
  refine kx_start [] 20 ?_
  refine ⟨_, kn_10_0 _ _, rfl, rfl, Nat.le_of_ble_eq_true rfl, ?_⟩
  refine ⟨rfl, rfl, lI1_all, fun n9 hn => ⟨lF 0 (kx_I0 41 0) lJ1, ?_, ?_⟩⟩
  · refine kx_start [2] 20 ?_
    exact lw_feed hn n9 0 lI1 (by omega) lI1_CI lI1_TP
  · rintro v S1 ⟨I, rfl, hC, hT⟩ _
    exact lb_16 hC hT lI1_B0 (kx_at0 41 0 13 0 (by decide)) v

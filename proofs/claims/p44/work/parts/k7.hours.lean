/-! the law: the hours pass one by one -/
/-- the lamp is lit untended -/
noncomputable def al (g : Nat → Int32) : Int32 := kif (g 6 = 1 ∧ g 7 = 1) 1 0
theorem al_01 (g : Nat → Int32) : al g = 0 ∨ al g = 1 := by
  unfold al
  by_cases q : g 6 = 1 ∧ g 7 = 1
  · rw [kif_pos q]; exact Or.inr rfl
  · rw [kif_neg q]; exact Or.inl rfl
theorem n_1lt {x : Int32} (h : x = 0 ∨ x = 1) : ¬ (1 : Int32) < x := by
  rcases h with rfl | rfl <;> decide
theorem l_24 {t : Nat} (ht : t < 48) : nI t - nI t / 24 * 24 = nI (t % 24) := pk_rem (a := t) (d := 24) (by omega) (by decide) (by decide)
theorem n240 : ¬ (24 : Int32) = 0 := by decide
theorem n01 : ¬ (0 : Int32) = 1 := by decide
set_option maxRecDepth 100000 in
set_option maxHeartbeats 4000000 in
theorem lh_305 {xs : Nat → Int32} {L t : Nat} {J : kJ} {I : kI} {n dk wo oi wr bu un a9 a b c d : Option kx_V} {v9 : Int32} (h9 : a9 = li v9) (nx : lr xs L J 145 (ll n dk wo oi wr bu un a9 (li (nI (t + 1))) a b c d) I) : lr xs L J 305 (ll n dk wo oi wr bu un a9 (li (nI t)) a b c d) I := by
  subst h9
  rw [← nI_1] at nx
  refine kx_start [145] 20 ?_
  exact nx
set_option maxRecDepth 100000 in
set_option maxHeartbeats 4000000 in
theorem lh_275 {xs : Nat → Int32} {L t M : Nat} {J : kJ} {I : kI} {g : Nat → Int32} (h : CI M I g) {n dk wo oi wr bu a b : Option kx_V} {un a9 lit wa : Int32} {old : Option kx_V} (h1 : a9 = 0 ∨ a9 = 1) (h2 : lit = 1 → wa < 0 → g 7 = 1) (nx : lr xs L J 145 (ll n dk wo oi wr bu (li un) (li a9) (li (nI (t + 1))) a b (li lit) (li wa)) I) : kx_Run (tb_law xs L) (kx_NC, fun _ _ => True) 275 (ll n dk wo oi wr bu (li un) old (li (nI t)) a b (li lit) (li wa)) [kx_i a9] (I, J, none) := by
  have s4 := (ki_status J h).2.2.1
  have r := lh_305 rfl nx
  refine kx_start [305] 60 ?_
  refine ⟨fun z => absurd z (n_1lt h1), fun _ => ?_⟩
  refine ⟨fun _ => r, fun z => ?_⟩
  have z' : lit = 1 := z
  refine ⟨fun _ => r, fun y => ?_⟩
  have y' : wa < 0 := Int32.not_le.mp y
  refine ⟨_, (I, J, none), s4, rfl, ?_⟩
  exact ⟨fun _ => r, fun x => absurd (h2 z' y') x⟩
set_option maxRecDepth 100000 in
set_option maxHeartbeats 4000000 in
theorem lh_222 {xs : Nat → Int32} {L t M : Nat} {J : kJ} {I : kI} {g : Nat → Int32} (ht : t < 48) (h : CI M I g) {n dk wo oi a : Option kx_V} {wr bu un a9 is lit : Int32} {d : Option kx_V} (hl : lit = 0 ∨ lit = 1) (e6 : g 6 = lit) (h1 : lit = 1 → g 7 = 1 → a9 = 0) (h2 : lit = 1 → lWatch xs L (t % 24) < 0 → g 7 = 1) (nx : lr xs L J 145 (ll n dk wo oi (li wr) (li (bu + lit * lWick xs L)) (li (un + is)) (li (al g)) (li (nI (t + 1))) a (li is) (li lit) (li (lWatch xs L (t % 24)))) I) : lr xs L J 222 (ll n dk wo oi (li wr) (li bu) (li un) (li a9) (li (nI t)) a (li is) (li lit) d) I := by
  have s4 := (ki_status J h).2.2.1
  have e24 := l_24 ht
  have r := lh_275 h (old := li a9) (al_01 g) h2 nx
  refine kx_start [275] 80 ?_
  refine ⟨_, ⟨_, rfl, rfl⟩, Nat.le_of_ble_eq_true rfl, fun v hv => ?_⟩
  have hv' : v = lWick xs L := hv
  subst hv'
  refine ⟨n240, ?_⟩
  refine ⟨_, ⟨t % 24, 0, congrArg (fun z => [Sum.inl z, kx_r 999 0]) e24, by omega, rfl⟩, Nat.le_of_ble_eq_true rfl, fun v hv => ?_⟩
  have hv' : v = lWatch xs L (t % 24) := hv
  subst hv'
  refine ⟨fun z => ?_, fun z => ?_⟩
  · have ea : al g = 0 := kif_neg (fun y => z (by rw [← e6]; exact y.1))
    rw [ea] at r
    exact r
  · have z' : lit = 1 := z
    refine ⟨_, (I, J, none), s4, rfl, ?_⟩
    refine ⟨fun y => ?_, fun y => ?_⟩
    · have ea : al g = 0 := kif_neg (fun x => y x.2)
      rw [ea] at r
      exact r
    · have y' : g 7 = 1 := y
      have ea : al g = 1 := kif_pos ⟨by rw [e6]; exact z', y'⟩
      have e0 := h1 z' y'
      have ez : al g = a9 + 1 := by rw [ea, e0]; rfl
      rw [ez] at r
      exact r
set_option maxRecDepth 100000 in
set_option maxHeartbeats 4000000 in
theorem lh_188 {xs : Nat → Int32} {L t M : Nat} {J : kJ} {I : kI} {g : Nat → Int32} (ht : t < 48) (h : CI M I g) {n dk wo oi wr bu un a9 d : Option kx_V} {had is lit : Int32} (hi : is = aD g t - lit) (ho : g 4 = had - lit * lWick xs L) (nx : lr xs L J 222 (ll n dk wo oi wr bu un a9 (li (nI t)) (li had) (li is) (li lit) d) I) : lr xs L J 188 (ll n dk wo oi wr bu un a9 (li (nI t)) (li had) (li is) (li lit) d) I := by
  have s1 := (ki_status J h).1
  have sd := ki_dark J h t (by omega)
  refine kx_start [222] 60 ?_
  refine ⟨_, (I, J, none), sd, rfl, ?_⟩
  refine ⟨fun z => absurd hi z, fun _ => ?_⟩
  refine ⟨_, (I, J, none), s1, rfl, ?_⟩
  refine ⟨_, ⟨_, rfl, rfl⟩, Nat.le_of_ble_eq_true rfl, fun v hv => ?_⟩
  have hv' : v = lWick xs L := hv
  subst hv'
  exact ⟨fun _ => nx, fun z => absurd ho z⟩
set_option maxRecDepth 100000 in
set_option maxHeartbeats 4000000 in
theorem lh_145 {xs : Nat → Int32} {L n : Nat} {J : kJ} {g : Nat → Int32} (hn : n ≤ 15) (hg : SG g) (hG : GS xs L n g) (nx : ∀ (I : kI) (a b c d : Option kx_V), CI 48 I (Hn 48 g) → lr xs L J 311 (ll (li (nI n)) (li (nI (dN g 48))) (li (Hn 48 g 16)) (li (Hn 48 g 4)) (li (nI (cM (Hn 48 g) 2))) (li (lOil xs L - Hn 48 g 4)) (li (Hn 48 g 16)) (li (al (Hn 48 g))) (li (nI 48)) a b c d) I) : ∀ m t (I : kI) (a b c d : Option kx_V), t + m = 48 → CI t I (Hn t g) → lr xs L J 145 (ll (li (nI n)) (li (nI (dN g 48))) (li (Hn 48 g 16)) (li (Hn 48 g 4)) (li (nI (cM (Hn 48 g) 2))) (li (lOil xs L - Hn t g 4)) (li (Hn t g 16)) (li (al (Hn t g))) (li (nI t)) a b c d) I := by
  intro m
  induction m with
  | zero =>
    intro t I a b c d ht h
    obtain rfl : t = 48 := by omega
    have le : (48 : Int32) ≤ nI 48 := by decide
    refine kx_start [145, 311] 20 ?_
    exact ⟨fun _ => nx I a b c d h, fun z => absurd le z⟩
  | succ m ih =>
    intro t I a b c d ht h
    have le : ¬ (48 : Int32) ≤ nI t := fun z => by
      have z' : nI 48 ≤ nI t := z
      rw [i_le (by omega) (by omega)] at z'
      omega
    obtain ⟨i1, i2, i3, i4, i5, i6⟩ := Hn_k hg t (by omega)
    obtain ⟨p1, p2, p3, p4, p5, p6, p7, p8, p9⟩ := H_lp ((i3 8 (by omega)).trans hg.2.1)
    obtain ⟨d1, d2⟩ := Hn_d hg (t := t) (by omega)
    have d3 := (Hn_d hg (t := t + 1) (by omega)).2 t
    rw [Hn_s t g] at d3
    have eW := Hn_W hg (t := t) (by omega)
    obtain ⟨kk, k1, k4, hk, b7, b8, b9⟩ := hG.2.1
    rw [b9 _ (Nat.mod_lt _ (by omega))] at eW
    have e3 : Hn t g 3 = lWick xs L := (i3 3 (by omega)).trans hG.2.2.1
    rw [e3] at p4
    rw [d1] at p2 p5 p6
    rw [eW] at p9
    obtain ⟨I1, cp, h1⟩ := ki_pass (by omega) J h
    have s1 := (ki_status J h).1
    have s3 := (ki_status J h1).2.1
    rw [p3] at s3
    rw [p5] at cp
    have hd1 := ki_dark J h1 t (by omega)
    rw [d3] at hd1
    have r := ih (t + 1) I1 (li (Hn t g 4)) (li (aD g t - hL (Hn t g))) (li (hL (Hn t g))) (li (lWatch xs L (t % 24))) (by omega) (by rw [Hn_s t g]; exact h1)
    rw [Hn_s t g] at r
    have eb : lOil xs L - H (Hn t g) 4 = lOil xs L - Hn t g 4 + hL (Hn t g) * lWick xs L := by rw [p4]; grind
    rw [eb, p6] at r
    have q2 := lh_222 (by omega) h1 p1 p3 (d := d) (fun y1 y2 => kif_neg (p8 y1 y2) : hL (Hn t g) = 1 → H (Hn t g) 7 = 1 → al (Hn t g) = 0) p9 r
    have q1 := lh_188 (by omega) h1 (had := Hn t g 4) (is := aD g t - hL (Hn t g)) (lit := hL (Hn t g)) (by rw [d3]) p4 q2
    refine kx_start [188, 311] 60 ?_
    refine ⟨fun z => absurd z le, fun _ => ?_⟩
    refine ⟨_, (I, J, none), s1, rfl, ?_⟩
    refine ⟨_, (I1, J, none), cp, rfl, ?_⟩
    refine ⟨_, (I1, J, none), s3, rfl, ?_⟩
    refine ⟨fun _ => q1, fun z => ?_⟩
    have z' : hL (Hn t g) = 1 := z
    refine ⟨_, (I1, J, none), hd1, rfl, ?_⟩
    refine ⟨fun y => ?_, fun _ => q1⟩
    have y' := p2 z'
    rw [y'] at y
    exact absurd y (by decide)

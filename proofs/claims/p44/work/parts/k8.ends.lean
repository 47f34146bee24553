/-! the law: behind the hours -/
noncomputable def sM (g : Nat → Int32) : Nat → Nat
  | 0 => 0
  | n + 1 => sM g n + cM g n
set_option maxRecDepth 100000 in
set_option maxHeartbeats 4000000 in
theorem lz_482 {xs : Nat → Int32} {L n : Nat} {J : kJ} {I : kI} {g : Nat → Int32} (hg : SG g) (h : CI 48 I (Hn 48 g)) (h14 : g 14 = nI n) (hn : n ≤ 15) {dk wo oi wr bu un a b c d : Option kx_V} {al : Int32} : lr xs L J 482 (ll (li (nI n)) dk wo oi wr bu un (li al) (li (nI (sM (Hn 48 g) 3))) a b c d) I := by
  have e : sM (Hn 48 g) 3 = n := by
    have z := Hn_all hg
    rw [h14, nn_nI (by omega)] at z
    show 0 + cM (Hn 48 g) 0 + cM (Hn 48 g) 1 + cM (Hn 48 g) 2 = n
    omega
  have l14 := cM_le (Hn 48 g)
  have e14 : nn (Hn 48 g 14) = n := by rw [Hn_14, h14, nn_nI (by omega)]
  have m0 := ki_many J h 0 (by omega)
  have m1 := ki_many J h 1 (by omega)
  have m2 := ki_many J h 2 (by omega)
  have g4 := ki_logged J h 4 (by omega) (by omega)
  have g5 := ki_logged J h 5 (by omega) (by omega)
  have g6 := ki_logged J h 6 (by omega) (by omega)
  have le : ∀ f, f ≤ 2 → ¬ nI (cM (Hn 48 g) f) < nI (cS (Hn 48 g) (4 + f)) := fun f hf z => by
    have q := Hn_cf hg f hf 48 (by omega)
    have q2 := l14 f
    rw [i_lt (by omega) (by omega)] at z
    omega
  rw [e]
  refine kx_start [] 80 ?_
  refine ⟨fun z => absurd rfl z, fun _ => ?_⟩
  refine ⟨_, (I, J, none), g4, rfl, ?_⟩
  refine ⟨_, (I, J, none), m0, rfl, ?_⟩
  refine ⟨fun z => absurd z (le 0 (by omega)), fun _ => ?_⟩
  refine ⟨_, (I, J, none), g5, rfl, ?_⟩
  refine ⟨_, (I, J, none), m1, rfl, ?_⟩
  refine ⟨fun z => absurd z (le 1 (by omega)), fun _ => ?_⟩
  refine ⟨_, (I, J, none), g6, rfl, ?_⟩
  refine ⟨_, (I, J, none), m2, rfl, ?_⟩
  refine ⟨fun z => absurd z (le 2 (by omega)), fun _ => ?_⟩
  exact rfl
set_option maxRecDepth 100000 in
set_option maxHeartbeats 4000000 in
theorem lz_458 {xs : Nat → Int32} {L n : Nat} {J : kJ} {I : kI} {g : Nat → Int32} (hg : SG g) (h : CI 48 I (Hn 48 g)) (h14 : g 14 = nI n) (hn : n ≤ 15) {dk wo oi wr bu un b c d : Option kx_V} {al : Int32} : ∀ m so, so + m = 3 → lr xs L J 458 (ll (li (nI n)) dk wo oi wr bu un (li al) (li (nI (sM (Hn 48 g) so))) (li (nI so)) b c d) I := by
  intro m
  induction m with
  | zero =>
    intro so hs
    obtain rfl : so = 3 := by omega
    have le : (3 : Int32) ≤ nI 3 := by decide
    have r := lz_482 (xs := xs) (L := L) (J := J) hg h h14 hn (dk := dk) (wo := wo) (oi := oi) (wr := wr) (bu := bu) (un := un) (al := al) (a := li (nI 3)) (b := b) (c := c) (d := d)
    refine kx_start [458, 482] 20 ?_
    exact ⟨fun _ => r, fun z => absurd le z⟩
  | succ m ih =>
    intro so hs
    have le : ¬ (3 : Int32) ≤ nI so := fun z => by
      have z' : nI 3 ≤ nI so := z
      rw [i_le (by omega) (by omega)] at z'
      omega
    have m0 := ki_many J h so (by omega)
    have r := ih (so + 1) (by omega)
    have e : nI (sM (Hn 48 g) so) + nI (cM (Hn 48 g) so) = nI (sM (Hn 48 g) (so + 1)) := nI_add _ _
    rw [← nI_1, ← e] at r
    refine kx_start [458, 482] 20 ?_
    refine ⟨fun z => absurd z le, fun _ => ?_⟩
    refine ⟨_, (I, J, none), m0, rfl, ?_⟩
    exact r
set_option maxRecDepth 100000 in
set_option maxHeartbeats 4000000 in
theorem lz_382 {xs : Nat → Int32} {L n : Nat} {J : kJ} {I : kI} {g : Nat → Int32} (hg : SG g) (hG : GS xs L n g) (h : CI 48 I (Hn 48 g)) (hn : n ≤ 15) {dk wo oi wr bu un b c d : Option kx_V} {al : Int32} : ∀ m i (a : Option kx_V), i + m = cA (Hn 48 g) 0 (nn (Hn 48 g 15)) → lr xs L J 382 (ll (li (nI n)) dk wo oi wr bu un (li al) (li (nI i)) a b c d) I := by
  have h15 := h.1.2.2.2.2.2.2.2.2.2.1.2
  have cl : cA (Hn 48 g) 0 (nn (Hn 48 g 15)) ≤ nn (Hn 48 g 15) := by
    have q := lsum_le (fun e => kif (¬ sa (Hn 48 g) e = -1) 1 0) 1 (nn (Hn 48 g 15)) 0 (fun j _ _ => by
      show kif _ 1 0 ≤ 1
      by_cases q : sa (Hn 48 g) j = -1
      · rw [kif_neg (fun z => z q)]; omega
      · rw [kif_pos q]; omega)
    unfold cA
    omega
  have cd := ki_diffs (by omega) J h
  intro m
  induction m with
  | zero =>
    intro i a hi
    have r := lz_458 (xs := xs) (L := L) (J := J) hg h hG.2.2.2.2.1 hn (dk := dk) (wo := wo) (oi := oi) (wr := wr) (bu := bu) (un := un) (al := al) (b := b) (c := c) (d := d) 3 0 rfl
    have le : nI (cA (Hn 48 g) 0 (nn (Hn 48 g 15))) ≤ nI i := by
      rw [i_le (by omega) (by omega)]
      omega
    refine kx_start [458] 20 ?_
    refine ⟨_, (I, J, none), cd, rfl, ?_⟩
    exact ⟨fun _ => r, fun z => absurd le z⟩
  | succ m ih =>
    intro i a hi
    have le : ¬ nI (cA (Hn 48 g) 0 (nn (Hn 48 g 15))) ≤ nI i := fun z => by
      rw [i_le (by omega) (by omega)] at z
      omega
    obtain ⟨e, q1, q2, q3, q4, q5⟩ := ki_diff (by omega) J h i (by omega)
    obtain ⟨j, hh, s, j1, j2, j3, j4, j5, j6, j7, j8, j9⟩ := Hn_diff hg q1 q2
    rw [j6] at q3
    rw [j8] at q4
    rw [j4] at q5
    have cdk := ki_dark J h hh (by omega)
    rw [(Hn_d hg (t := 48) (by omega)).2 hh, j7] at cdk
    have h14 := hg.1.2.2.2.1.2
    have csh := ki_shipOf J h s (by rw [Hn_14]; exact j3)
    obtain ⟨kk, k1, k4, hk, b7, b8, b9⟩ := hG.2.1
    have jk : j < kk := by rw [b7, nn_nI (by omega)] at j1; exact j1
    have er : lRank xs L (nI j) = 2 := by rw [← b8 j jk]; exact j5
    have r := ih (i + 1) (li (nI j)) (by omega)
    rw [← nI_1] at r
    refine kx_start [382] 100 ?_
    refine ⟨_, (I, J, none), cd, rfl, ?_⟩
    refine ⟨fun z => absurd z le, fun _ => ?_⟩
    refine ⟨_, (I, J, none), q5, rfl, ?_⟩
    refine ⟨_, ⟨_, _, rfl, rfl⟩, Nat.le_of_ble_eq_true rfl, fun v hv => ?_⟩
    have hv' : v = 2 := Eq.trans hv er
    subst hv'
    refine ⟨fun z => absurd rfl z, fun _ => ?_⟩
    refine ⟨_, (I, J, none), q3, rfl, ?_⟩
    refine ⟨_, (I, J, none), cdk, rfl, ?_⟩
    refine ⟨fun z => absurd rfl z, fun _ => ?_⟩
    refine ⟨_, (I, J, none), q4, rfl, ?_⟩
    refine ⟨_, (I, J, none), csh, rfl, ?_⟩
    exact ⟨fun _ => r, fun z => absurd z j9⟩
set_option maxRecDepth 100000 in
set_option maxHeartbeats 4000000 in
theorem lz_311 {xs : Nat → Int32} {L n : Nat} {J : kJ} {I : kI} {g : Nat → Int32} (hg : SG g) (hG : GS xs L n g) (h : CI 48 I (Hn 48 g)) (hn : n ≤ 15) {b c d a : Option kx_V} {al : Int32} : lr xs L J 311 (ll (li (nI n)) (li (nI (dN g 48))) (li (Hn 48 g 16)) (li (Hn 48 g 4)) (li (nI (cM (Hn 48 g) 2))) (li (lOil xs L - Hn 48 g 4)) (li (Hn 48 g 16)) (li al) (li (nI 48)) a b c d) I := by
  obtain ⟨s1, s3, s4, s8⟩ := ki_status J h
  have m2 := ki_many J h 2 (by omega)
  have g1 := ki_logged J h 1 (by omega) (by omega)
  have g2 := ki_logged J h 2 (by omega) (by omega)
  have eo : lOil xs L - (lOil xs L - Hn 48 g 4) = Hn 48 g 4 := by grind
  have le : nI (cS (Hn 48 g) 1) + nI (cS (Hn 48 g) 2) ≤ nI (dN g 48) := by
    have q := Hn_c12 hg 48 (by omega)
    have q2 := dN_le g 48
    rw [nI_add, i_le (by omega) (by omega)]
    exact q
  have r := lz_382 (xs := xs) (L := L) (J := J) hg hG h hn (dk := li (nI (dN g 48))) (wo := li (Hn 48 g 16)) (oi := li (Hn 48 g 4)) (wr := li (nI (cM (Hn 48 g) 2))) (bu := li (lOil xs L - Hn 48 g 4)) (un := li (Hn 48 g 16)) (al := al) (b := b) (c := c) (d := d) (cA (Hn 48 g) 0 (nn (Hn 48 g 15))) 0 a (by omega)
  refine kx_start [382] 100 ?_
  refine ⟨fun z => absurd rfl z, fun _ => ?_⟩
  refine ⟨_, (I, J, none), s8, rfl, ?_⟩
  refine ⟨fun z => absurd rfl z, fun _ => ?_⟩
  refine ⟨_, (I, J, none), s1, rfl, ?_⟩
  refine ⟨fun z => absurd rfl z, fun _ => ?_⟩
  refine ⟨_, ⟨_, rfl, rfl⟩, Nat.le_of_ble_eq_true rfl, fun v hv => ?_⟩
  have hv' : v = lOil xs L := hv
  subst hv'
  refine ⟨fun z => absurd eo z, fun _ => ?_⟩
  refine ⟨_, (I, J, none), m2, rfl, ?_⟩
  refine ⟨fun z => absurd rfl z, fun _ => ?_⟩
  refine ⟨_, (I, J, none), g1, rfl, ?_⟩
  refine ⟨_, (I, J, none), g2, rfl, ?_⟩
  exact ⟨fun _ => r, fun z => absurd le z⟩
/-- the law's own run -/
theorem lz_all (xs : Nat → Int32) (L : Nat) (S1 : kx_S) (h : lG xs L lJ1 S1) : kx_Run (tb_law xs L) (kx_NC, fun _ _ => True) 4 lw_L0 [kx_r 10 0] S1 := by
  refine ls_4 (fun n I g hn hC hG => ?_) S1 h
  have hg := GS_SG hn hC.1 hG
  have r := lh_145 (J := lJ1) hn hg hG (fun I a b c d h => lz_311 hg hG h hn) 48 0 I none none none none rfl hC
  have e4 : lOil xs L - Hn 0 g 4 = 0 := by
    show lOil xs L - g 4 = 0
    rw [hG.2.2.2.1]
    exact Int32.sub_self _
  have e16 : Hn 0 g 16 = 0 := hg.2.2.2.1
  have ea : al (Hn 0 g) = 0 := kif_neg (fun z => by
    have z' : g 6 = 1 := z.1
    rw [hg.2.2.2.2.1] at z'
    exact absurd z' (by decide))
  rw [e4, e16, ea] at r
  exact r

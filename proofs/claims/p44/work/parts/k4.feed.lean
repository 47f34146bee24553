/-! the law's own numbers, once more; build runs to its end -/
theorem lRank_v (xs : Nat → Int32) (L : Nat) (k : Int32) : ∃ r, r ≤ 2 ∧ lRank xs L k = nI r := by
  obtain ⟨j, hj, e⟩ := pk_andE (la xs L 1 >>> ((2 + 2 * k) &&& 31)) (m := 3) 2 (by decide)
  refine ⟨j % 3, by omega, ?_⟩
  have e' : lRk xs L k = nI j := e
  unfold lRank
  rw [e']
  exact pk_rem (a := j) (d := 3) (by omega) (by decide) (by decide)
theorem lDawn_v (xs : Nat → Int32) (L : Nat) : ∃ r, r ≤ 12 ∧ lDawn xs L = nI r := by
  obtain ⟨j, hj, e⟩ := pk_andE (la xs L 1 >>> ((10 : Int32) &&& 31)) (m := 15) 4 (by decide)
  refine ⟨j % 13, by omega, ?_⟩
  have e' : lDa xs L = nI j := e
  unfold lDawn
  rw [e']
  exact pk_rem (a := j) (d := 13) (by omega) (by decide) (by decide)
theorem lDusk_v (xs : Nat → Int32) (L : Nat) : ∃ r, 13 ≤ r ∧ r ≤ 24 ∧ lDusk xs L = nI r := by
  obtain ⟨j, hj, e⟩ := pk_andE (la xs L 1 >>> ((14 : Int32) &&& 31)) (m := 15) 4 (by decide)
  refine ⟨13 + j % 12, by omega, by omega, ?_⟩
  have e' : lDu xs L = nI j := e
  unfold lDusk
  rw [e']
  have e2 : nI j - nI j / 12 * 12 = nI (j % 12) := pk_rem (a := j) (d := 12) (by omega) (by decide) (by decide)
  rw [e2]
  exact nI_add 13 (j % 12)
theorem lWick_v (xs : Nat → Int32) (L : Nat) : ∃ r, 1 ≤ r ∧ r ≤ 4 ∧ lWick xs L = nI r := by
  obtain ⟨j, hj, e⟩ := pk_andE (la xs L 1 >>> ((18 : Int32) &&& 31)) (m := 3) 2 (by decide)
  refine ⟨1 + j, by omega, by omega, ?_⟩
  unfold lWick
  rw [e]
  exact nI_add 1 j
theorem lOil_v (xs : Nat → Int32) (L : Nat) : ∃ r, r ≤ 9999 ∧ lOil xs L = nI r := by
  obtain ⟨j, hj, e⟩ := pk_andE (la xs L 5) (m := 127) 7 (by decide)
  exact ⟨j, by omega, e⟩
theorem lCoal_v (xs : Nat → Int32) (L : Nat) : ∃ r, r ≤ 9999 ∧ lCoal xs L = nI r := by
  obtain ⟨j, hj, e⟩ := pk_andE (la xs L 5 >>> ((7 : Int32) &&& 31)) (m := 31) 5 (by decide)
  exact ⟨j, by omega, e⟩
theorem lWatch_v (xs : Nat → Int32) (L h : Nat) {k : Nat} (hk : lKeep xs L = nI k) (k1 : 1 ≤ k) (k4 : k ≤ 4) : lWatch xs L h = -1 ∨ ∃ j, j < k ∧ lWatch xs L h = nI j := by
  obtain ⟨j, hj, e⟩ := pk_andE (la xs L (2 + h / 8) >>> ((3 * (nI h - nI h / 8 * 8)) &&& 31)) (m := 7) 3 (by decide)
  have e' : lW0 xs L h = nI j := e
  unfold lWatch
  rw [e', hk]
  by_cases q : nI j < nI k
  · rw [if_pos q]
    rw [i_lt (by omega) (by omega)] at q
    exact Or.inr ⟨j, q, rfl⟩
  · rw [if_neg q]
    by_cases q2 : (6 : Int32) < nI j
    · rw [if_pos q2]
      exact Or.inl rfl
    · rw [if_neg q2]
      exact Or.inr ⟨j % k, Nat.mod_lt _ (by omega), pk_rem (a := j) (d := k) (by omega) (by omega) (by omega)⟩
/-- the text is fed -/
def lF (N : Nat) (g : Nat → Int32) (J : kJ) (S : kx_S) : Prop := ∃ I, S = (I, J, none) ∧ CI N I g ∧ ∃ z T, TP I z T
theorem i_ge {a b : Nat} (ha : a < 2147483648) (hb : b < 2147483648) : (nI a ≤ nI b) ↔ a ≤ b := i_le ha hb
set_option maxRecDepth 100000 in
set_option maxHeartbeats 4000000 in
theorem lw_feed {n9 : Nat} (hn9 : n9 < 16) {N : Nat} {g : Nat → Int32} {J : kJ} : ∀ n k (I : kI), k + n = n9 → CI N I g → (∃ z T, TP I z T) → kx_Run (tb_feeds n9) (kx_NC, fun r' S'' => ((∃ v, r' = some (kx_i v)) ∧ lF N g J S'') ∧ S''.2.2 = none) 2 [some (kx_r 10 0), some (kx_r 999 0), some (kx_i (nI k))] [] (I, J, none) := by
  intro n
  induction n with
  | zero =>
    intro k I hk hC hT
    have le : nI n9 ≤ nI k := (i_le (by omega) (by omega)).mpr (by omega)
    refine kx_start [2] 20 ?_
    refine ⟨_, ⟨_, rfl, rfl⟩, Nat.le_of_ble_eq_true rfl, fun v hv => ?_⟩
    have hv' : v = nI n9 := hv
    subst hv'
    refine ⟨fun _ => ?_, fun z => absurd le z⟩
    refine ⟨_, ⟨_, rfl, rfl⟩, Nat.le_of_ble_eq_true rfl, fun v hv => ?_⟩
    exact ⟨⟨⟨_, rfl⟩, I, rfl, hC, hT⟩, rfl⟩
  | succ n ih =>
    intro k I hk hC hT
    have le : ¬ nI n9 ≤ nI k := fun z => by
      have := (i_le (by omega) (by omega)).mp z
      omega
    refine kx_start [2] 20 ?_
    refine ⟨_, ⟨_, rfl, rfl⟩, Nat.le_of_ble_eq_true rfl, fun v hv => ?_⟩
    have hv' : v = nI n9 := hv
    subst hv'
    refine ⟨fun z => absurd z le, fun _ => ?_⟩
    refine ⟨_, ⟨k, _, rfl, by omega, rfl⟩, Nat.le_of_ble_eq_true rfl, fun v hv => ?_⟩
    obtain ⟨w, I', c1, hC', hT'⟩ := ki_feed J hC hT v
    refine ⟨some (kx_i w), (I', J, none), c1, rfl, ?_⟩
    refine ⟨(I', J, none), ⟨rfl, rfl, fun _ _ _ => ⟨rfl, rfl⟩⟩, ?_⟩
    have r := ih (k + 1) I' (by omega) hC' hT'
    rw [← nI_1] at r
    exact r

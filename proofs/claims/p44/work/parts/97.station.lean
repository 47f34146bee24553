/-! the class's station is an array's -/
def CS (I : kI) (o : Nat) (g : Nat → Int32) : Prop := (∀ j, j < 8 → I 6 o (4 + j) = g j) ∧ (∀ j, j < 4 → I 0 o j = g (8 + j)) ∧ I 0 o 4 = g 18 ∧ I 5 o 2 = g 12 ∧ I 5 o 3 = nI (lsum (fun r => nn (g (21 + 2 * r + 1))) 0 (nn (g 12))) ∧ (∀ r, r < nn (g 12) → I 35 o r = g (21 + 2 * r) ∧ I 36 o r = g (21 + 2 * r + 1)) ∧ I 1 o 5 = g 13 ∧ (∀ i, i < nn (g 13) → I 20 o i = g (61 + 4 * i) ∧ I 21 o i = 12 - 3 * g (61 + 4 * i) ∧ I 22 o i = g (61 + 4 * i + 1) ∧ I 23 o i = g (61 + 4 * i + 2) ∧ I 24 o i = g (61 + 4 * i + 3)) ∧ (∀ i, i < 24 → I 37 o i = g (85 + i))
def stT (t : Nat) : Prop := t = 0 ∨ t = 1 ∨ t = 5 ∨ t = 6 ∨ (20 ≤ t ∧ t < 25) ∨ t = 35 ∨ t = 36 ∨ t = 37
theorem CS_congr {I I' : kI} {o : Nat} {g : Nat → Int32} (h : CS I o g) (hq : ∀ t j, stT t → I' t o j = I t o j) : CS I' o g := by
  unfold stT at hq
  obtain ⟨h1, h2, h3, h4, h5, h6, h7, h8, h9⟩ := h
  refine ⟨fun j hj => by rw [hq _ _ (by omega)]; exact h1 j hj, fun j hj => by rw [hq _ _ (by omega)]; exact h2 j hj, by rw [hq _ _ (by omega)]; exact h3, by rw [hq _ _ (by omega)]; exact h4, by rw [hq _ _ (by omega)]; exact h5, fun r hr => ?_, by rw [hq _ _ (by omega)]; exact h7, fun i hi => ?_, fun i hi => by rw [hq _ _ (by omega)]; exact h9 i hi⟩
  · rw [hq _ _ (by omega), hq _ _ (by omega)]; exact h6 r hr
  · rw [hq _ _ (by omega), hq _ _ (by omega), hq _ _ (by omega), hq _ _ (by omega), hq _ _ (by omega)]; exact h8 i hi
theorem wAt_congr {w w' l l' : Nat → Int32} : ∀ n i x, (∀ j, i ≤ j → j < i + n → w j = w' j ∧ l j = l' j) → wAt w l n i x = wAt w' l' n i x := by
  intro n
  induction n with
  | zero => intro i x _; rfl
  | succ n ih =>
    intro i x h
    rw [wAt, wAt, (h i (by omega) (by omega)).1, (h i (by omega) (by omega)).2, ih (i + 1) _ (fun j h1 h2 => h j (by omega) (by omega))]
theorem c_weather {I : kI} {o : Nat} {g : Nat → Int32} {N : Nat} (hg : WG g N) (h : CS I o g) (a : Nat) (ha : a < 2147483648) (J : kJ) : F_X5_weatherAt o (nI a) I J = wth g a := by
  obtain ⟨_, h12, _, _, hS, _⟩ := hg
  obtain ⟨_, _, _, h4, h5, h6, _⟩ := h
  have h122 := h12.2
  have hle := lsum_le (fun r => nn (g (21 + 2 * r + 1))) 99 (nn (g 12)) 0 (fun j _ h2 => (hS j (by omega)).1.2)
  unfold F_X5_weatherAt wth
  rw [h4, h5]
  by_cases q : nn (g 12) = 0
  · rw [if_pos q, q, if_neg]
    show ¬ 0 < nI 0
    decide
  · have hp : 0 < lsum (fun r => nn (g (21 + 2 * r + 1))) 0 (nn (g 12)) := by
      obtain ⟨k, hk⟩ : ∃ k, nn (g 12) = k + 1 := ⟨nn (g 12) - 1, by omega⟩
      have h1 := (hS 0 (by omega)).2.1
      rw [hk, lsum]
      show 0 < nn (g (21 + 2 * 0 + 1)) + _
      omega
    have hp2 : 0 < nI (lsum (fun r => nn (g (21 + 2 * r + 1))) 0 (nn (g 12))) := by
      show nI 0 < _
      rw [i_lt (by omega) (by omega)]
      exact hp
    rw [if_neg q, if_pos hp2, iz_modN ha hp (by omega)]
    exact wAt_congr _ _ _ (fun j _ h2 => by
      replace h2 : j < 0 + nn (g 12) := h2
      exact h6 j (by omega))
theorem c_watch {I : kI} {o : Nat} {g : Nat → Int32} {N : Nat} (hg : WG g N) (h : CS I o g) (h' : Nat) : I 37 o (h' % 24) = aW g h' ∧ cT I o (aW g h') = aT g (aW g h') ∧ cD I o h' = aD g h' := by
  have hl : h' % 24 < 24 := Nat.mod_lt _ (by omega)
  have hw := WG_W hg (h' % 24) hl
  obtain ⟨h1, _, _, _, _, _, h7, h8, h9⟩ := h
  have h13 := hg.2.2.1
  have h132 := h13.2
  refine ⟨h9 _ hl, ?_, ?_⟩
  · unfold cT aT
    rcases hw with e | ⟨j, hj, hjk, e⟩
    · have eW : aW g h' = -1 := e
      have n1 : (-1 : Int32) < 0 := by decide
      rw [eW, if_pos n1, kif_pos n1]
    · have eW : aW g h' = nI j := e
      have n0 : ¬ nI j < 0 := i_nlt0 j (by omega)
      have n2 : ¬ nI (nn (g 13)) ≤ nI j := by rw [i_le (by omega) (by omega)]; omega
      rw [eW, if_neg n0, kif_neg n0, h7, h13.1, if_neg n2, nI_clamp (by omega), (h8 j hjk).2.1, (h8 j hjk).2.2.1]
      by_cases q : aR g (nI j)
      · rw [kif_pos q]
        unfold aR at q
        rw [nI_clamp (by omega)] at q
        rw [if_neg (Int32.not_le.mpr q)]
      · rw [kif_neg q]
        unfold aR at q
        rw [nI_clamp (by omega)] at q
        rw [if_pos (Int32.not_lt.mp q)]
  · unfold cD aD
    have e1 : I 6 o 5 = g 1 := h1 1 (by omega)
    have e2 : I 6 o 6 = g 2 := h1 2 (by omega)
    rw [e1, e2]
/-- the watch of an hour, kept -/
def KP (K : kI) (o : Nat) (g : Nat → Int32) : Prop := (∀ j, 4 ≤ j → j < 8 → K 6 o j = g (j - 4)) ∧ K 6 o 12 = hw g ∧ K 6 o 13 = hd g ∧ K 6 o 14 = hW g ∧ K 6 o 15 = ht g ∧ K 6 o 10 = aL g (hd g) (ht g) ∧ K 6 o 11 = (if ¬ aL g (hd g) (ht g) = 0 ∧ ht g = 0 then 1 else 0) ∧ K 6 o 8 = aO g (hd g) (ht g) ∧ K 6 o 9 = aC g (hw g) (ht g) ∧ K 6 o 16 = aS g (hw g) (ht g)
theorem c_keep {I : kI} {o : Nat} {g : Nat → Int32} {N : Nat} (hg : WG g N) (h : CS I o g) : KP (kpX I o (nn (g 0)) (hw g)) o g := by
  have hq := c_watch hg h (nn (g 0))
  have hO := hg.2.2.2.2.2.2.1
  obtain ⟨h1, _⟩ := h
  have e7 : I 6 o 7 = g 3 := h1 3 (by omega)
  have e8 : I 6 o 8 = g 4 := h1 4 (by omega)
  have e9 : I 6 o 9 = g 5 := h1 5 (by omega)
  have e10' : I 6 o 10 = g 6 := h1 6 (by omega)
  have e11 : I 6 o 11 = g 7 := h1 7 (by omega)
  have h6 := rg_01 hO.2.2.2.2.1
  obtain ⟨K1, hK1⟩ : ∃ K, K = kp1 I o (nn (g 0)) (hw g) := ⟨_, rfl⟩
  have a12 : K1 6 o 12 = hw g := by rw [hK1, kp1_app, if_pos ⟨rfl, rfl, rfl⟩]
  have a13 : K1 6 o 13 = hd g := by
    rw [hK1, kp1_app, if_neg (by omega), if_pos ⟨rfl, rfl, rfl⟩, hq.2.2]
    rfl
  have a14 : K1 6 o 14 = hW g := by
    rw [hK1, kp1_app, if_neg (by omega), if_neg (by omega), if_pos ⟨rfl, rfl, rfl⟩, hq.1]
    rfl
  have a15 : K1 6 o 15 = ht g := by
    rw [hK1, kp1_app, if_neg (by omega), if_neg (by omega), if_neg (by omega), if_pos ⟨rfl, rfl, rfl⟩, hq.1, hq.2.1]
    rfl
  have alo : ∀ j, j < 12 → K1 6 o j = I 6 o j := fun j hj => by rw [hK1, kp1_app, if_neg (by omega), if_neg (by omega), if_neg (by omega), if_neg (by omega)]
  have bL : tlL K1 o = aL g (hd g) (ht g) := by
    unfold tlL aL
    rw [a13, a15, alo 10 (by omega), alo 11 (by omega), alo 8 (by omega), alo 7 (by omega), e7, e8, e10', e11]
    rcases h6 with z | z <;> rw [z] <;> simp
  have bU : tlU K1 o = (if ¬ aL g (hd g) (ht g) = 0 ∧ ht g = 0 then 1 else 0) := by
    unfold tlU
    rw [bL, a15]
  have bO : tlO K1 o = aO g (hd g) (ht g) := by
    unfold tlO aO
    rw [bL, alo 8 (by omega), alo 7 (by omega), e7, e8]
  obtain ⟨K2, hK2⟩ : ∃ K, K = tlX K1 o := ⟨_, rfl⟩
  have c10 : K2 6 o 10 = aL g (hd g) (ht g) := by rw [hK2, tlX_app, if_pos ⟨rfl, rfl, rfl⟩, bL]
  have c11 : K2 6 o 11 = (if ¬ aL g (hd g) (ht g) = 0 ∧ ht g = 0 then 1 else 0) := by rw [hK2, tlX_app, if_neg (by omega), if_pos ⟨rfl, rfl, rfl⟩, bU]
  have c8 : K2 6 o 8 = aO g (hd g) (ht g) := by rw [hK2, tlX_app, if_neg (by omega), if_neg (by omega), if_pos ⟨rfl, rfl, rfl⟩, bO]
  have cne : ∀ j, ¬ j = 8 → ¬ j = 10 → ¬ j = 11 → K2 6 o j = K1 6 o j := fun j q8 q10 q11 => by rw [hK2, tlX_app, if_neg (fun z => q10 z.2.2), if_neg (fun z => q11 z.2.2), if_neg (fun z => q8 z.2.2)]
  have c9 : K2 6 o 9 = g 5 := by rw [cne 9 (by omega) (by omega) (by omega), alo 9 (by omega), e9]
  have cS : kpS K2 o = aS g (hw g) (ht g) := by
    unfold kpS aS
    rw [cne 12 (by omega) (by omega) (by omega), cne 15 (by omega) (by omega) (by omega), c9, a12, a15]
  have ef : kpX I o (nn (g 0)) (hw g) = kp3 K2 o := by unfold kpX; rw [← hK1, ← hK2]
  have fne : ∀ j, ¬ j = 9 → ¬ j = 16 → kp3 K2 o 6 o j = K2 6 o j := fun j q9 q16 => by rw [kp3_app, if_neg (fun z => q16 z.2.2), if_neg (fun z => q9 z.2.2)]
  rw [ef]
  unfold KP
  refine ⟨fun j h4 h8 => ?_, ?_, ?_, ?_, ?_, ?_, ?_, ?_, ?_, ?_⟩
  · rw [fne j (by omega) (by omega), cne j (by omega) (by omega) (by omega), alo j (by omega)]
    have e := h1 (j - 4) (by omega)
    rw [show 4 + (j - 4) = j by omega] at e
    exact e
  · rw [fne 12 (by omega) (by omega), cne 12 (by omega) (by omega) (by omega), a12]
  · rw [fne 13 (by omega) (by omega), cne 13 (by omega) (by omega) (by omega), a13]
  · rw [fne 14 (by omega) (by omega), cne 14 (by omega) (by omega) (by omega), a14]
  · rw [fne 15 (by omega) (by omega), cne 15 (by omega) (by omega) (by omega), a15]
  · rw [fne 10 (by omega) (by omega), c10]
  · rw [fne 11 (by omega) (by omega), c11]
  · rw [fne 8 (by omega) (by omega), c8]
  · rw [kp3_app, if_neg (by omega), if_pos ⟨rfl, rfl, rfl⟩, cS, c9]
    unfold aC
    by_cases z : aS g (hw g) (ht g) = 0
    · rw [if_pos z, if_pos z]
      exact (Int32.sub_zero _).symm
    · rw [if_neg z, if_neg z]
  · rw [kp3_app, if_pos ⟨rfl, rfl, rfl⟩, cS]

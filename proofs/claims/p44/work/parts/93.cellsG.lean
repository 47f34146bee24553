/-! the reference's hour, cell by cell -/
def aO (g : Nat → Int32) (d t : Int32) : Int32 := if aL g d t = 0 then g 4 else g 4 - g 3
def aC (g : Nat → Int32) (w t : Int32) : Int32 := g 5 - (if aS g w t = 0 then 0 else 1)
def aB (g : Nat → Int32) (h : Nat) (d w : Int32) : Prop := ¬ g 8 = -1 ∧ ¬ nI h < g 8 ∧ ¬ w = 2 ∧ d = 0
theorem aL_01 (g : Nat → Int32) (d t : Int32) : aL g d t = 0 ∨ aL g d t = 1 := by
  unfold aL
  split
  · exact Or.inr rfl
  · exact Or.inl rfl
theorem aS_01 (g : Nat → Int32) (w t : Int32) : aS g w t = 0 ∨ aS g w t = 1 := by
  unfold aS
  split
  · exact Or.inr rfl
  · exact Or.inl rfl
/-- the array with the watch's count: cells it leaves alone -/
theorem aG_ne (g : Nat → Int32) {W : Int32} {j : Nat} (hj : j < 61) (h20 : ¬ j = 20) : aG g W j = g j := by
  unfold aG
  by_cases n : W < 0
  · rw [kif_pos n]
  · rw [kif_neg n, if_neg h20, if_neg (by split <;> omega)]
theorem aG_hi (g : Nat → Int32) {W : Int32} (hW : W < 0 ∨ W.toNatClampNeg < 6) {j : Nat} (hj : 85 ≤ j) : aG g W j = g j := by
  unfold aG
  by_cases n : W < 0
  · rw [kif_pos n]
  · rw [kif_neg n, if_neg (by omega), if_neg (by have := hW.resolve_left n; split <;> omega)]
theorem aG_20 (g : Nat → Int32) (W : Int32) : aG g W 20 = g 20 + aA g W := by
  unfold aG
  by_cases n : W < 0
  · have e : aA g W = 0 := by unfold aA; rw [kif_pos n]
    rw [kif_pos n, e]
    exact (Int32.add_zero _).symm
  · rw [kif_neg n, if_pos rfl]
theorem aG_k0 (g : Nat → Int32) (W : Int32) (i : Nat) : aG g W (61 + 4 * i) = g (61 + 4 * i) ∧ aG g W (61 + 4 * i + 1) = g (61 + 4 * i + 1) := by
  unfold aG
  by_cases n : W < 0
  · rw [kif_pos n]; exact ⟨rfl, rfl⟩
  · rw [kif_neg n, if_neg (by omega), if_neg (by split <;> omega), if_neg (by omega), if_neg (by split <;> omega)]
    exact ⟨rfl, rfl⟩
theorem iz_ge {W : Int32} (n : ¬ W < 0) : nI W.toNatClampNeg = W := by
  have h := Int32.le_iff_toInt_le.mp (Int32.not_lt.mp n)
  rw [iz_0] at h
  exact (iz_of h).symm
theorem aG_k2 (g : Nat → Int32) (W : Int32) (i : Nat) (hi : i < 6) : aG g W (61 + 4 * i + 2) = (if nI i = W ∧ ¬ aT g W = 0 then g (61 + 4 * i + 2) + 1 else g (61 + 4 * i + 2)) ∧ aG g W (61 + 4 * i + 3) = (if nI i = W ∧ aT g W = 0 then g (61 + 4 * i + 3) + 1 else g (61 + 4 * i + 3)) := by
  unfold aG
  by_cases n : W < 0
  · have ne : ¬ nI i = W := fun q => by rw [← q] at n; exact i_nlt0 i (by omega) n
    rw [kif_pos n, if_neg (fun q => ne q.1), if_neg (fun q => ne q.1)]
    exact ⟨rfl, rfl⟩
  · have eW := iz_ge n
    have hiff : nI i = W ↔ i = W.toNatClampNeg := by
      constructor
      · intro q; rw [← q, nI_clamp (by omega)]
      · intro q; rw [q, eW]
    rw [kif_neg n]
    have e2 : ¬ 61 + 4 * i + 2 = 20 := by omega
    have e3 : ¬ 61 + 4 * i + 3 = 20 := by omega
    rw [if_neg e2, if_neg e3]
    have f2 : (61 + 4 * i + 2 = 61 + 4 * W.toNatClampNeg + (if aT g W = 0 then 3 else 2)) ↔ (i = W.toNatClampNeg ∧ ¬ aT g W = 0) := by
      by_cases ht : aT g W = 0
      · rw [if_pos ht]; constructor
        · intro q; omega
        · intro q; exact absurd ht q.2
      · rw [if_neg ht]; constructor
        · intro q; exact ⟨by omega, ht⟩
        · intro q; omega
    have f3 : (61 + 4 * i + 3 = 61 + 4 * W.toNatClampNeg + (if aT g W = 0 then 3 else 2)) ↔ (i = W.toNatClampNeg ∧ aT g W = 0) := by
      by_cases ht : aT g W = 0
      · rw [if_pos ht]; constructor
        · intro q; exact ⟨by omega, ht⟩
        · intro q; omega
      · rw [if_neg ht]; constructor
        · intro q; omega
        · intro q; exact absurd q.2 ht
    rw [← hiff] at f2 f3
    simp only [f2, f3, and_self]
/-- cells of the array before the boat -/
theorem aP_ne (g : Nat → Int32) (d t w : Int32) {j : Nat} (h4 : ¬ j = 4) (h5 : ¬ j = 5) (h6 : ¬ j = 6) (h7 : ¬ j = 7) (h16 : ¬ j = 16) (h17 : ¬ j = 17) : aP g d t w j = g j := by
  unfold aP
  rw [upd_app, if_neg h5, plG_ne _ _ _ h4 h6 h7 h16 h17]
theorem aU_lo (g : Nat → Int32) (kd : Nat → Nat) (c k : Nat) (d t w a w4 : Int32) {j : Nat} (hj : j < 62) (h15 : ¬ j = 15) : aU g kd c k d t w a w4 j = aP g d t w j := by
  unfold aU spG
  rw [trG_lo _ _ _ _ hj, psF_lo _ _ _ _ _ (by omega) h15]
  unfold aE
  rw [logL_lt _ (by omega) h15]
theorem aU_8 (g : Nat → Int32) (kd : Nat → Nat) (c k : Nat) (d t w a w4 : Int32) : aU g kd c k d t w a w4 8 = g 8 := by
  rw [aU_lo _ _ _ _ _ _ _ _ _ (by omega) (by omega), aP_ne _ _ _ _ (by omega) (by omega) (by omega) (by omega) (by omega) (by omega)]
theorem boM_aB (g : Nat → Int32) (kd : Nat → Nat) (c k h : Nat) (d t w a w4 : Int32) (W : Int32) : boM (aU (aG g W) kd c k d t w a w4) (nI h) d w = aB g h d w := by
  unfold boM aB
  rw [aU_8, aG_ne _ (by omega) (by omega)]
/-- the whole hour's array below the keepers -/
noncomputable def hU (g : Nat → Int32) (kd : Nat → Nat) (c k h : Nat) (w : Int32) : Nat → Int32 := aU (aG g (aW g h)) kd c k (aD g h) (aT g (aW g h)) w (aA g (aW g h)) (aW g h)
theorem hG_eq (g : Nat → Int32) (kd : Nat → Nat) (c k h : Nat) (w : Int32) : hG g kd c k h w = upd (kif (aB g h (aD g h) w) (zrG (bmG (hU g kd c k h w) (nI h)) k) (hU g kd c k h w)) 0 (nI h + 1) := by
  unfold hG aM
  rw [boM_aB]
  rfl
theorem hG_0 (g : Nat → Int32) (kd : Nat → Nat) (c k h : Nat) (w : Int32) : hG g kd c k h w 0 = nI h + 1 := by
  rw [hG_eq, upd_app, if_pos rfl]
theorem hG_no (g : Nat → Int32) (kd : Nat → Nat) (c k h : Nat) (w : Int32) {j : Nat} (h0 : ¬ j = 0) (h4 : ¬ j = 4) (h5 : ¬ j = 5) (h8 : ¬ j = 8) (h18 : ¬ j = 18) (hk : ∀ i, i < k → ¬ j = 61 + 4 * i + 1) : hG g kd c k h w j = hU g kd c k h w j := by
  rw [hG_eq, upd_app, if_neg h0]
  by_cases hb : aB g h (aD g h) w
  · rw [kif_pos hb]
    unfold zrG
    rw [if_neg (fun q => hk ((j - 62) / 4) q.2.2 (by omega))]
    unfold bmG
    rw [if_neg h18, if_neg h8, if_neg h5, if_neg h4]
  · rw [kif_neg hb]
theorem hU_lo (g : Nat → Int32) (kd : Nat → Nat) (c k h : Nat) (w : Int32) {j : Nat} (hj : j < 62) (h15 : ¬ j = 15) : hU g kd c k h w j = aP (aG g (aW g h)) (aD g h) (aT g (aW g h)) w j := aU_lo _ _ _ _ _ _ _ _ _ hj h15
theorem aL_G (g : Nat → Int32) (W d t : Int32) : aL (aG g W) d t = aL g d t := by
  unfold aL
  rw [aG_ne _ (by omega) (by omega), aG_ne _ (by omega) (by omega), aG_ne _ (by omega) (by omega), aG_ne _ (by omega) (by omega)]
theorem aS_G (g : Nat → Int32) (W w t : Int32) : aS (aG g W) w t = aS g w t := by
  unfold aS
  rw [aG_ne _ (by omega) (by omega)]
theorem hU_same (g : Nat → Int32) (kd : Nat → Nat) (c k h : Nat) (w : Int32) {j : Nat} (hj : j < 61) (h4 : ¬ j = 4) (h5 : ¬ j = 5) (h6 : ¬ j = 6) (h7 : ¬ j = 7) (h15 : ¬ j = 15) (h16 : ¬ j = 16) (h17 : ¬ j = 17) (h20 : ¬ j = 20) : hU g kd c k h w j = g j := by
  rw [hU_lo _ _ _ _ _ _ (by omega) h15, aP_ne _ _ _ _ h4 h5 h6 h7 h16 h17, aG_ne _ hj h20]
theorem hG_same (g : Nat → Int32) (kd : Nat → Nat) (c k h : Nat) (w : Int32) {j : Nat} (hj : (1 ≤ j ∧ j < 4) ∨ (9 ≤ j ∧ j < 15) ∨ j = 19 ∨ (21 ≤ j ∧ j < 61)) : hG g kd c k h w j = g j := by
  rw [hG_no _ _ _ _ _ _ (by omega) (by omega) (by omega) (by omega) (by omega) (by omega), hU_same _ _ _ _ _ _ (by omega) (by omega) (by omega) (by omega) (by omega) (by omega) (by omega) (by omega) (by omega)]
theorem hU_4 (g : Nat → Int32) (kd : Nat → Nat) (c k h : Nat) (w : Int32) : hU g kd c k h w 4 = aO g (aD g h) (aT g (aW g h)) := by
  rw [hU_lo _ _ _ _ _ _ (by omega) (by omega)]
  unfold aP
  rw [upd_app, if_neg (by omega)]
  show (if aL (aG g (aW g h)) (aD g h) (aT g (aW g h)) = 0 then _ else _) = _
  rw [aL_G]
  show (if aL g (aD g h) (aT g (aW g h)) = 0 then aG g (aW g h) 4 else aG g (aW g h) 4 - aG g (aW g h) 3) = _
  rw [aG_ne _ (by omega) (by omega), aG_ne _ (by omega) (by omega)]
  rfl
theorem hU_5 (g : Nat → Int32) (kd : Nat → Nat) (c k h : Nat) (w : Int32) : hU g kd c k h w 5 = aC g w (aT g (aW g h)) := by
  rw [hU_lo _ _ _ _ _ _ (by omega) (by omega)]
  unfold aP aC
  rw [upd_app, if_pos rfl, aS_G, aG_ne _ (by omega) (by omega)]
theorem hU_6 (g : Nat → Int32) (kd : Nat → Nat) (c k h : Nat) (w : Int32) : hU g kd c k h w 6 = aL g (aD g h) (aT g (aW g h)) := by
  rw [hU_lo _ _ _ _ _ _ (by omega) (by omega)]
  exact aL_G _ _ _ _
theorem hG_4 (g : Nat → Int32) (kd : Nat → Nat) (c k h : Nat) (w : Int32) : hG g kd c k h w 4 = kif (aB g h (aD g h) w) (mn9 (aO g (aD g h) (aT g (aW g h)) + g 10)) (aO g (aD g h) (aT g (aW g h))) := by
  rw [hG_eq, upd_app, if_neg (by omega)]
  by_cases hb : aB g h (aD g h) w
  · rw [kif_pos hb, kif_pos hb, zrG_lo _ _ (by omega)]
    unfold bmG
    rw [if_neg (by omega), if_neg (by omega), if_neg (by omega), if_pos rfl, hU_4, hU_same _ _ _ _ _ _ (by omega) (by omega) (by omega) (by omega) (by omega) (by omega) (by omega) (by omega) (by omega)]
  · rw [kif_neg hb, kif_neg hb, hU_4]
theorem hG_5 (g : Nat → Int32) (kd : Nat → Nat) (c k h : Nat) (w : Int32) : hG g kd c k h w 5 = kif (aB g h (aD g h) w) (mn9 (aC g w (aT g (aW g h)) + g 11)) (aC g w (aT g (aW g h))) := by
  rw [hG_eq, upd_app, if_neg (by omega)]
  by_cases hb : aB g h (aD g h) w
  · rw [kif_pos hb, kif_pos hb, zrG_lo _ _ (by omega)]
    unfold bmG
    rw [if_neg (by omega), if_neg (by omega), if_pos rfl, hU_5, hU_same _ _ _ _ _ _ (by omega) (by omega) (by omega) (by omega) (by omega) (by omega) (by omega) (by omega) (by omega)]
  · rw [kif_neg hb, kif_neg hb, hU_5]
theorem hG_6 (g : Nat → Int32) (kd : Nat → Nat) (c k h : Nat) (w : Int32) : hG g kd c k h w 6 = aL g (aD g h) (aT g (aW g h)) := by
  rw [hG_no _ _ _ _ _ _ (by omega) (by omega) (by omega) (by omega) (by omega) (by omega), hU_6]
theorem hG_7 (g : Nat → Int32) (kd : Nat → Nat) (c k h : Nat) (w : Int32) : hG g kd c k h w 7 = if ¬ aL g (aD g h) (aT g (aW g h)) = 0 ∧ aT g (aW g h) = 0 then 1 else 0 := by
  rw [hG_no _ _ _ _ _ _ (by omega) (by omega) (by omega) (by omega) (by omega) (by omega), hU_lo _ _ _ _ _ _ (by omega) (by omega), ← aL_G g (aW g h)]
  rfl
theorem hG_8 (g : Nat → Int32) (kd : Nat → Nat) (c k h : Nat) (w : Int32) : hG g kd c k h w 8 = kif (aB g h (aD g h) w) (nI h + g 9) (g 8) := by
  rw [hG_eq, upd_app, if_neg (by omega)]
  by_cases hb : aB g h (aD g h) w
  · rw [kif_pos hb, kif_pos hb, zrG_lo _ _ (by omega)]
    unfold bmG
    rw [if_neg (by omega), if_pos rfl, hU_same _ _ _ _ _ _ (by omega) (by omega) (by omega) (by omega) (by omega) (by omega) (by omega) (by omega) (by omega)]
  · rw [kif_neg hb, kif_neg hb, hU_same _ _ _ _ _ _ (by omega) (by omega) (by omega) (by omega) (by omega) (by omega) (by omega) (by omega) (by omega)]
theorem hG_18 (g : Nat → Int32) (kd : Nat → Nat) (c k h : Nat) (w : Int32) : hG g kd c k h w 18 = kif (aB g h (aD g h) w) (g 18 + 1) (g 18) := by
  rw [hG_eq, upd_app, if_neg (by omega)]
  by_cases hb : aB g h (aD g h) w
  · rw [kif_pos hb, kif_pos hb, zrG_lo _ _ (by omega)]
    unfold bmG
    rw [if_pos rfl, hU_same _ _ _ _ _ _ (by omega) (by omega) (by omega) (by omega) (by omega) (by omega) (by omega) (by omega) (by omega)]
  · rw [kif_neg hb, kif_neg hb, hU_same _ _ _ _ _ _ (by omega) (by omega) (by omega) (by omega) (by omega) (by omega) (by omega) (by omega) (by omega)]
theorem hG_16 (g : Nat → Int32) (kd : Nat → Nat) (c k h : Nat) (w : Int32) : hG g kd c k h w 16 = if ¬ aD g h = 0 ∧ aL g (aD g h) (aT g (aW g h)) = 0 then g 16 + 1 else g 16 := by
  rw [hG_no _ _ _ _ _ _ (by omega) (by omega) (by omega) (by omega) (by omega) (by omega), hU_lo _ _ _ _ _ _ (by omega) (by omega), ← aL_G g (aW g h), ← aG_ne g (W := aW g h) (show 16 < 61 by omega) (by omega)]
  rfl
theorem hG_17 (g : Nat → Int32) (kd : Nat → Nat) (c k h : Nat) (w : Int32) : hG g kd c k h w 17 = if ¬ aD g h = 0 ∧ aL g (aD g h) (aT g (aW g h)) = 0 then g 17 ||| bit24 (g 0) else g 17 := by
  rw [hG_no _ _ _ _ _ _ (by omega) (by omega) (by omega) (by omega) (by omega) (by omega), hU_lo _ _ _ _ _ _ (by omega) (by omega), ← aL_G g (aW g h), ← aG_ne g (W := aW g h) (show 17 < 61 by omega) (by omega), ← aG_ne g (W := aW g h) (show 0 < 61 by omega) (by omega)]
  rfl
theorem hG_20 (g : Nat → Int32) (kd : Nat → Nat) (c k h : Nat) (w : Int32) : hG g kd c k h w 20 = g 20 + aA g (aW g h) := by
  rw [hG_no _ _ _ _ _ _ (by omega) (by omega) (by omega) (by omega) (by omega) (by omega), hU_lo _ _ _ _ _ _ (by omega) (by omega), aP_ne _ _ _ _ (by omega) (by omega) (by omega) (by omega) (by omega) (by omega), aG_20]
theorem aU_mid (g : Nat → Int32) (kd : Nat → Nat) (c k : Nat) (d t w a w4 : Int32) {j : Nat} (hj : j < 109) (h61 : 61 ≤ j) (hk : ∀ i, i < k → ¬ j = 61 + 4 * i + 1) : aU g kd c k d t w a w4 j = g j := by
  unfold aU spG trG
  rw [if_neg (fun q => hk ((j - 62) / 4) q.2.2 (by omega)), psF_lo _ _ _ _ _ hj (by omega)]
  unfold aE
  rw [logL_lt _ (by omega) (by omega), aP_ne _ _ _ _ (by omega) (by omega) (by omega) (by omega) (by omega) (by omega)]
theorem hG_mid (g : Nat → Int32) (kd : Nat → Nat) (c k h : Nat) (w : Int32) {j : Nat} (hj : j < 109) (h61 : 61 ≤ j) (hk : ∀ i, i < k → ¬ j = 61 + 4 * i + 1) : hG g kd c k h w j = aG g (aW g h) j := by
  rw [hG_no _ _ _ _ _ _ (by omega) (by omega) (by omega) (by omega) (by omega) hk]
  exact aU_mid _ _ _ _ _ _ _ _ _ hj h61 hk
theorem hG_plan (g : Nat → Int32) (kd : Nat → Nat) (c k h : Nat) (w : Int32) (hW : aW g h < 0 ∨ (aW g h).toNatClampNeg < 6) {i : Nat} (hi : i < 24) (hk : k ≤ 6) : hG g kd c k h w (85 + i) = g (85 + i) := by
  rw [hG_mid _ _ _ _ _ _ (by omega) (by omega) (by omega), aG_hi _ hW (by omega)]
theorem hG_k0 (g : Nat → Int32) (kd : Nat → Nat) (c k h : Nat) (w : Int32) {i : Nat} (hi : i < 6) : hG g kd c k h w (61 + 4 * i) = g (61 + 4 * i) := by
  rw [hG_mid _ _ _ _ _ _ (by omega) (by omega) (by omega), (aG_k0 _ _ _).1]
theorem hG_k2 (g : Nat → Int32) (kd : Nat → Nat) (c k h : Nat) (w : Int32) {i : Nat} (hi : i < 6) : hG g kd c k h w (61 + 4 * i + 2) = (if nI i = aW g h ∧ ¬ aT g (aW g h) = 0 then g (61 + 4 * i + 2) + 1 else g (61 + 4 * i + 2)) ∧ hG g kd c k h w (61 + 4 * i + 3) = (if nI i = aW g h ∧ aT g (aW g h) = 0 then g (61 + 4 * i + 3) + 1 else g (61 + 4 * i + 3)) := by
  rw [hG_mid _ _ _ _ _ _ (show 61 + 4 * i + 2 < 109 by omega) (by omega) (by omega), hG_mid _ _ _ _ _ _ (show 61 + 4 * i + 3 < 109 by omega) (by omega) (by omega)]
  exact aG_k2 g _ i hi
theorem hG_k1 (g : Nat → Int32) (kd : Nat → Nat) (c k h : Nat) (w : Int32) {i : Nat} (hi : i < k) (hk : k ≤ 6) : hG g kd c k h w (61 + 4 * i + 1) = kif (aB g h (aD g h) w) 0 (trV g (whM (aT g (aW g h)) (aW g h)) w i) := by
  rw [hG_eq, upd_app, if_neg (by omega)]
  by_cases hb : aB g h (aD g h) w
  · rw [kif_pos hb, kif_pos hb]
    unfold zrG
    rw [if_pos ⟨by omega, by omega, by omega⟩]
  · rw [kif_neg hb, kif_neg hb]
    unfold hU aU spG trG
    have ei : (61 + 4 * i + 1 - 62) / 4 = i := by omega
    rw [if_pos ⟨by omega, by omega, by omega⟩, ei]
    unfold trV
    rw [psF_lo _ _ _ _ _ (by omega) (by omega)]
    unfold aE
    rw [logL_lt _ (by omega) (by omega), aP_ne _ _ _ _ (by omega) (by omega) (by omega) (by omega) (by omega) (by omega), (aG_k0 _ _ _).2]

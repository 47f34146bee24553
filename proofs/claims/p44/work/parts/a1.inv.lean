/-! what stands between two calls -/
theorem F_in (x y z : Int64) (I : kI) (J : kJ) : F_X11_in x y z I J = if x < y then 0 else if z < x then 0 else 1 := by
  unfold F_X11_in
  have e1 : (lg_cmp x y < 0) = (x < y) := propext (lg_cmp_lt x y)
  have e2 : (0 < lg_cmp x z) = (z < x) := propext (lg_cmp_gt x z)
  rw [e1, e2]
  simp only [kif_eq]
theorem w_lt (a b : Int32) : (a.toInt64 < b.toInt64) = (a < b) := by
  refine propext ?_
  rw [Int64.lt_iff_toInt_lt, Int32.lt_iff_toInt_lt, Int32.toInt_toInt64, Int32.toInt_toInt64]
theorem F_in32 (x y z : Int32) (I : kI) (J : kJ) : F_X11_in x.toInt64 y.toInt64 z.toInt64 I J = if x < y then 0 else if z < x then 0 else 1 := by
  rw [F_in]
  simp only [w_lt]
theorem in_nat {x : Int32} {lo hi : Nat} (h : hi < 2147483648) (h1 : ¬ x < nI lo) (h2 : ¬ nI hi < x) : ∃ k, lo ≤ k ∧ k ≤ hi ∧ x = nI k ∨ 2147483648 ≤ lo := by
  by_cases q : lo < 2147483648
  · have a := Int32.le_iff_toInt_le.mp (Int32.not_lt.mp h1)
    have b := Int32.le_iff_toInt_le.mp (Int32.not_lt.mp h2)
    rw [iz_nI q] at a
    rw [iz_nI h] at b
    exact ⟨x.toInt.toNat, Or.inl ⟨by omega, by omega, iz_of (by omega)⟩⟩
  · exact ⟨0, Or.inr (by omega)⟩
/-- tested between two numbers: it is one of these -/
theorem in_yes {x : Int32} {lo hi : Nat} (h : hi < 2147483648) (hl : lo < 2147483648) (h1 : ¬ (if x < nI lo then (0 : Int32) else if nI hi < x then 0 else 1) = 0) : ∃ k, lo ≤ k ∧ k ≤ hi ∧ x = nI k := by
  by_cases a : x < nI lo
  · rw [if_pos a] at h1; exact absurd rfl h1
  · rw [if_neg a] at h1
    by_cases b : nI hi < x
    · rw [if_pos b] at h1; exact absurd rfl h1
    · obtain ⟨k, q⟩ := in_nat h a b
      rcases q with ⟨a1, a2, a3⟩ | q
      · exact ⟨k, a1, a2, a3⟩
      · omega
theorem in_k {k lo hi : Nat} (h : hi < 2147483648) (h1 : lo ≤ k) (h2 : k ≤ hi) : (if nI k < nI lo then (0 : Int32) else if nI hi < nI k then 0 else 1) = 1 := by
  rw [if_neg (by rw [i_lt (by omega) (by omega)]; omega), if_neg (by rw [i_lt (by omega) (by omega)]; omega)]
theorem in_01 (x lo hi : Int32) : (if x < lo then (0 : Int32) else if hi < x then 0 else 1) = 0 ∨ (if x < lo then (0 : Int32) else if hi < x then 0 else 1) = 1 := by
  split
  · exact Or.inl rfl
  · split
    · exact Or.inl rfl
    · exact Or.inr rfl
def cwt (t : Nat) : Prop := t ≤ 3 ∨ t = 5 ∨ t = 6 ∨ t = 9 ∨ (20 ≤ t ∧ t ≤ 33) ∨ t = 35 ∨ t = 36 ∨ t = 37
theorem CW_congr {I I' : kI} {o : Nat} {g : Nat → Int32} (h : CW I o g) (hq : ∀ t j, cwt t → I' t o j = I t o j) : CW I' o g := by
  obtain ⟨hS, ⟨p, hF, hfm⟩, hL, h1, h2, h3⟩ := h
  unfold cwt at hq
  refine ⟨CS_congr hS (fun t j ht => hq t j (by unfold stT at ht; omega)), ⟨p, FL_congr hF (hq _ _ (by omega)) (fun _ => hq _ _ (by omega)) (fun _ => hq _ _ (by omega)) (fun _ => hq _ _ (by omega)), fun s hs => ?_⟩, ⟨by rw [hq _ _ (by omega)]; exact hL.1, fun e he => ?_⟩, by rw [hq _ _ (by omega)]; exact h1, by rw [hq _ _ (by omega)]; exact h2, by rw [hq _ _ (by omega)]; exact h3⟩
  · rw [hq _ _ (by omega), hq _ _ (by omega)]; exact hfm s hs
  · rw [hq _ _ (by omega), hq _ _ (by omega), hq _ _ (by omega), hq _ _ (by omega)]; exact hL.2 e he
def tolds (j : Nat) : Int32 := if j = 0 then 0 else if j = 1 then 4 else if j = 2 then 5 else if j = 3 then 6 else if j = 4 then 7 else if j = 5 then 13 else if j = 6 then 14 else if j = 7 then 15 else if j = 8 then 16 else if j = 9 then 8 else if j = 10 then 12 else 18
def IK (N : Nat) (I : kI) : Prop := I 10 0 7 = I 11 0 3 ∧ (I 11 0 3 = 0 ∨ (I 11 0 3 = 1 ∧ WG (I 41 2) N ∧ CW I 1 (I 41 2)))
def shl (I : kI) (J : kJ) (c s : Nat) : Prop := I 4 s 2 = I 49 0 s ∧ (∀ j, j < 40 → J 34 s j = J 51 0 (40 * s + j)) ∧ ((I 49 0 s = -1 ∧ I 4 s 1 = 0) ∨ (rg (I 49 0 s) 4 ∧ rg (I 50 0 s) 40 ∧ I 4 s 1 = I 50 0 s) ∨ (∃ x, x < c ∧ I 49 0 s = nI (10 + x) ∧ I 4 s 1 = 0))
def IS (I : kI) (J : kJ) : Prop := ∀ s, s < 8 → shl I J (nn (I 41 0 14)) s
def IT (I : kI) : Prop := I 7 0 1 = I 11 0 9 ∧ rg (I 11 0 9) 250 ∧ ∀ j, j < nn (I 11 0 9) → I 38 0 j = I 43 0 j ∧ rg (I 43 0 j) 255
def IR (I : kI) : Prop := ∀ j, j < 5 → I 40 0 j = I 42 0 j
def IC (I : kI) : Prop := ∀ j, j < 12 → I 52 0 j = tolds j
def Inv (N : Nat) (I : kI) (J : kJ) : Prop := WG (I 41 0) N ∧ CW I 0 (I 41 0) ∧ IK N I ∧ IS I J ∧ IT I ∧ IR I ∧ IC I
theorem WG_mono {g : Nat → Int32} {N N' : Nat} (h : WG g N) (hN : N ≤ N') : WG g N' := ⟨rg_mono h.1 hN, h.2⟩
theorem Inv_mono {N N' : Nat} {I : kI} {J : kJ} (h : Inv N I J) (hN : N ≤ N') : Inv N' I J := by
  obtain ⟨h1, h2, ⟨h3, h4⟩, h5⟩ := h
  exact ⟨WG_mono h1 hN, h2, ⟨h3, h4.imp id (fun q => ⟨q.1, WG_mono q.2.1 hN, q.2.2⟩)⟩, h5⟩
/-- the cells of which the class's two worlds and the rest speak -/
def same (I I' : kI) : Prop := (∀ t o j, o < 2 → cwt t → I' t o j = I t o j) ∧ (∀ s j, I' 4 s j = I 4 s j) ∧ (∀ t j, (t = 7 ∨ t = 38 ∨ t = 40 ∨ t = 42 ∨ t = 43 ∨ t = 49 ∨ t = 50 ∨ t = 52) → I' t 0 j = I t 0 j) ∧ I' 10 0 7 = I 10 0 7 ∧ I' 11 0 3 = I 11 0 3 ∧ I' 11 0 9 = I 11 0 9 ∧ I' 41 0 = I 41 0 ∧ I' 41 2 = I 41 2
theorem same_rf (I : kI) : same I I := ⟨fun _ _ _ _ _ => rfl, fun _ _ => rfl, fun _ _ _ => rfl, rfl, rfl, rfl, rfl, rfl⟩
theorem same_tr {I I' I'' : kI} (h : same I I') (h' : same I' I'') : same I I'' := ⟨fun t o j a b => (h'.1 t o j a b).trans (h.1 t o j a b), fun s j => (h'.2.1 s j).trans (h.2.1 s j), fun t j a => (h'.2.2.1 t j a).trans (h.2.2.1 t j a), h'.2.2.2.1.trans h.2.2.2.1, h'.2.2.2.2.1.trans h.2.2.2.2.1, h'.2.2.2.2.2.1.trans h.2.2.2.2.2.1, h'.2.2.2.2.2.2.1.trans h.2.2.2.2.2.2.1, h'.2.2.2.2.2.2.2.trans h.2.2.2.2.2.2.2⟩
theorem Inv_same {N : Nat} {I I' : kI} {J : kJ} (h : Inv N I J) (q : same I I') : Inv N I' J := by
  obtain ⟨h1, h2, ⟨h3, h4⟩, h5, ⟨h6, h7, h8⟩, h9, h10⟩ := h
  obtain ⟨q1, q2, q3, q4, q5, q6, q7, q8⟩ := q
  refine ⟨by rw [q7]; exact h1, by rw [q7]; exact CW_congr h2 (fun t j a => q1 t 0 j (by omega) a), ⟨by rw [q4, q5, h3], ?_⟩, fun s hs => ?_, ⟨by rw [q3 _ _ (by omega), q6, h6], by rw [q6]; exact h7, fun j hj => ?_⟩, fun j hj => ?_, fun j hj => ?_⟩
  · rw [q5, q8]
    rcases h4 with e | e
    · exact Or.inl e
    · exact Or.inr ⟨e.1, e.2.1, CW_congr e.2.2 (fun t j a => q1 t 1 j (by omega) a)⟩
  · have e := h5 s hs
    unfold shl at e ⊢
    rw [q2, q2, q3 49 _ (by omega), q3 50 _ (by omega), q7]
    exact e
  · rw [q6] at hj
    rw [q3 38 _ (by omega), q3 43 _ (by omega)]
    exact h8 j hj
  · rw [q3 40 _ (by omega), q3 42 _ (by omega)]; exact h9 j hj
  · rw [q3 52 _ (by omega)]; exact h10 j hj
/-! refusals -/
def rfC (k : Nat) (I : kI) : kI := kw I 40 0 k (I 40 0 k + 1)
def rfM (k : Nat) (I : kI) : kI := kw I 42 0 k (I 42 0 k + 1)
theorem F_refuse (k : Nat) (hk : k < 5) (I : kI) (J : kJ) : F_X10_refuse (-102 - nI k) I J = (-102 - nI k, rfC k I, J) ∧ pre_X10_refuse (-102 - nI k) I J := by
  have e : (-102 : Int32) - (-102 - nI k) = nI k := by
    have c : k = 0 ∨ k = 1 ∨ k = 2 ∨ k = 3 ∨ k = 4 := by omega
    rcases c with rfl | rfl | rfl | rfl | rfl <;> decide
  unfold F_X10_refuse pre_X10_refuse
  rw [e, F_within]
  have w : (if nI k < (0 : Int32) then (0 : Int32) else if (4 : Int32) < nI k then 0 else 1) = 1 := in_k (lo := 0) (hi := 4) (by omega) (by omega) (by omega)
  rw [w, kif_neg (by decide), kif_neg (by decide), nI_clamp (by omega)]
  exact ⟨rfl, vl k 5 hk (by omega), vl k 5 hk (by omega), trivial⟩
theorem F_refused (k : Nat) (hk : k < 5) (I : kI) (J : kJ) : F_X11_refused (-102 - nI k) I J = (-102 - nI k, rfM k I, J) ∧ pre_X11_refused (-102 - nI k) I J := by
  have e : (-(-102 - nI k)) - (102 : Int32) = nI k := by
    have c : k = 0 ∨ k = 1 ∨ k = 2 ∨ k = 3 ∨ k = 4 := by omega
    rcases c with rfl | rfl | rfl | rfl | rfl <;> decide
  unfold F_X11_refused pre_X11_refused
  rw [e, nI_clamp (by omega)]
  exact ⟨rfl, vl k 5 hk (by omega), vl k 5 hk (by omega), trivial⟩
theorem Inv_ref {N : Nat} {I : kI} {J : kJ} (h : Inv N I J) (k : Nat) (hk : k < 5) : Inv N (rfM k (rfC k I)) J := by
  obtain ⟨h1, h2, h3, h4, h5, h6, h7⟩ := h
  have e : ∀ t o j, ¬ t = 40 → ¬ t = 42 → (rfM k (rfC k I)) t o j = I t o j := fun t o j a b => by
    unfold rfM rfC
    rw [kw_at _ _ (fun q => b q.1), kw_at _ _ (fun q => a q.1)]
  have e41 : ∀ o, (rfM k (rfC k I)) 41 o = I 41 o := fun o => funext fun j => e _ _ _ (by omega) (by omega)
  have hR : IR (rfM k (rfC k I)) := fun j hj => by
    unfold rfM rfC
    rw [kw_at _ _ (by omega), kw_app, kw_app, kw_at _ _ (by omega), kw_at _ _ (by omega), h6 j hj, h6 k hk]
    by_cases q : j = k
    · rw [if_pos ⟨rfl, rfl, q⟩, if_pos ⟨rfl, rfl, q⟩]
    · rw [if_neg (fun z => q z.2.2), if_neg (fun z => q z.2.2)]
  refine ⟨by rw [e41]; exact h1, by rw [e41]; exact CW_congr h2 (fun t j a => e _ _ _ (by unfold cwt at a; omega) (by unfold cwt at a; omega)), ?_, fun s hs => ?_, ?_, hR, fun j hj => by rw [e _ _ _ (by omega) (by omega)]; exact h7 j hj⟩
  · unfold IK
    rw [e _ _ _ (by omega) (by omega), e _ _ _ (by omega) (by omega), e41]
    exact ⟨h3.1, h3.2.imp id (fun q => ⟨q.1, q.2.1, CW_congr q.2.2 (fun t j a => e _ _ _ (by unfold cwt at a; omega) (by unfold cwt at a; omega))⟩)⟩
  · have z := h4 s hs
    unfold shl at z ⊢
    rw [e _ _ _ (by omega) (by omega), e _ _ _ (by omega) (by omega), e _ _ _ (by omega) (by omega), e _ _ _ (by omega) (by omega), e41]
    exact z
  · unfold IT
    rw [e _ _ _ (by omega) (by omega), e _ _ _ (by omega) (by omega)]
    refine ⟨h5.1, h5.2.1, fun j hj => ?_⟩
    rw [e _ _ _ (by omega) (by omega), e _ _ _ (by omega) (by omega)]
    exact h5.2.2 j hj
/-- what is owed of a method -/
abbrev kSp : Type := List kx_V → kx_S → Option kx_V → kx_S → Prop
def MV (sC sM : kSp) (v : kx_V) (args : List kx_V) (N : Nat) (I : kI) (J : kJ) : Prop := ∃ (I1 : kI) (J1 : kJ) (I2 : kI) (J2 : kJ), sC (kx_r 10 0 :: args) (I, J, none) (some v) (I1, J1, none) ∧ sM (kx_r 11 0 :: args) (I1, J1, none) (some v) (I2, J2, none) ∧ Inv (N + 200) I2 J2
def MM (sC sM : kSp) (args : List kx_V) (N : Nat) (I : kI) (J : kJ) : Prop := ∃ v : Int32, MV sC sM (kx_i v) args N I J
def ME (sC sM : kSp) (args : List kx_V) (N : Nat) (I : kI) (J : kJ) : Prop := ∃ v : Int64, MV sC sM (kx_l v) args N I J

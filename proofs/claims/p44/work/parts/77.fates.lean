/-! what a ship lacks, and what becomes of it -/
def lk (k : Nat) (d l w s : Int32) : Int32 := (if (¬ k = 4 ∧ ¬ d = 0 ∧ l = 0) ∨ (k = 7 ∧ d = 0 ∧ w = 2) then 1 else 0) + (if ¬ k = 3 ∧ w = 1 ∧ s = 0 then 1 else 0) + (if (k = 3 ∨ k = 4) ∧ w = 2 then 1 else 0)
def ft (k : Nat) (d l w s : Int32) : Int32 := if lk k d l w s = 0 then 0 else if lk k d l w s = 1 ∧ ¬ (w = 2 ∧ 5 ≤ k) then 1 else 2
theorem u_small (k : Nat) (h3 : 3 ≤ k) (h7 : k ≤ 7) (I : kI) (J : kJ) : F_X10_isUnder (nI k) (1 : Int32) I J = if k = 3 ∨ k = 4 then 1 else 0 := by
  unfold F_X10_isUnder
  rw [uLp_uK _ h3 h7]
  have e : k = 3 ∨ k = 4 ∨ k = 5 ∨ k = 6 ∨ k = 7 := by omega
  rcases e with rfl | rfl | rfl | rfl | rfl <;> decide
theorem u_great (k : Nat) (h3 : 3 ≤ k) (h7 : k ≤ 7) (I : kI) (J : kJ) : F_X10_isUnder (nI k) (2 : Int32) I J = if 5 ≤ k then 1 else 0 := by
  unfold F_X10_isUnder
  rw [uLp_uK _ h3 h7]
  have e : k = 3 ∨ k = 4 ∨ k = 5 ∨ k = 6 ∨ k = 7 := by omega
  rcases e with rfl | rfl | rfl | rfl | rfl <;> decide
theorem m_small (k : Nat) (h3 : 3 ≤ k) (h7 : k ≤ 7) (I : kI) (J : kJ) : F_X11_isSmall (nI k) I J = if k = 3 ∨ k = 4 then 1 else 0 := by
  unfold F_X11_isSmall
  simp only [kif_eq]
  have e : k = 3 ∨ k = 4 ∨ k = 5 ∨ k = 6 ∨ k = 7 := by omega
  rcases e with rfl | rfl | rfl | rfl | rfl <;> decide
theorem kd_eq (k j : Nat) (hk : k ≤ 7) (hj : j ≤ 7) : (nI k = nI j) = (k = j) := propext ⟨fun h => nI_inj (by omega) (by omega) h, fun h => by rw [h]⟩
theorem i12 : ((1 : Int32) = 2) = False := eq_false (by decide)
theorem i21 : ((2 : Int32) = 1) = False := eq_false (by decide)
theorem i20 : ((2 : Int32) = 0) = False := eq_false (by decide)
theorem E_lacksM (k : Nat) (h3 : 3 ≤ k) (h7 : k ≤ 7) (d l w s : Int32) (I : kI) (J : kJ) : E_X11_lacks (nI k) d l s w I J = some (lk k d l w s) := by
  obtain ⟨m, hm⟩ : ∃ m, kfu = m + 12 := ⟨kfu - 12, by unfold kfu; omega⟩
  have q3 : (nI k = (3 : Int32)) = (k = 3) := kd_eq k 3 h7 (by omega)
  have q4 : (nI k = (4 : Int32)) = (k = 4) := kd_eq k 4 h7 (by omega)
  have q7 : (nI k = (7 : Int32)) = (k = 7) := kd_eq k 7 h7 (by omega)
  unfold E_X11_lacks lk
  rw [hm]
  simp only [G_X11_lacks_13, G_X11_lacks_29, G_X11_lacks_33, G_X11_lacks_34, G_X11_lacks_55, G_X11_lacks_56, G_X11_lacks_75, G_X11_lacks_76, G_X11_lacks_88, G_X11_lacks_98, G_X11_lacks_109, m_small k h3 h7, q3, q4, q7, kif_eq]
  clear q3 q4 q7 hm
  have e : k = 3 ∨ k = 4 ∨ k = 5 ∨ k = 6 ∨ k = 7 := by omega
  by_cases hd : d = 0 <;> by_cases hl : l = 0 <;> by_cases hs : s = 0 <;> by_cases w1 : w = 1 <;> by_cases w2 : w = 2 <;>
    rcases e with rfl | rfl | rfl | rfl | rfl <;>
    simp [hd, hl, hs, w1, w2, e10, i12, i21]

theorem E_lacksC (k : Nat) (h3 : 3 ≤ k) (h7 : k ≤ 7) (d l w s : Int32) (I : kI) (J : kJ) : E_X10_lacks (nI k) d l w s I J = some (lk k d l w s) := by
  obtain ⟨m, hm⟩ : ∃ m, kfu = m + 12 := ⟨kfu - 12, by unfold kfu; omega⟩
  have q3 : (nI k = (3 : Int32)) = (k = 3) := kd_eq k 3 h7 (by omega)
  have q4 : (nI k = (4 : Int32)) = (k = 4) := kd_eq k 4 h7 (by omega)
  have q7 : (nI k = (7 : Int32)) = (k = 7) := kd_eq k 7 h7 (by omega)
  unfold E_X10_lacks lk
  rw [hm]
  simp only [G_X10_lacks_20, G_X10_lacks_21, G_X10_lacks_42, G_X10_lacks_43, G_X10_lacks_55, G_X10_lacks_58, G_X10_lacks_76, G_X10_lacks_92, u_small k h3 h7, q3, q4, q7, kif_eq]
  clear q3 q4 q7 hm
  have e : k = 3 ∨ k = 4 ∨ k = 5 ∨ k = 6 ∨ k = 7 := by omega
  by_cases hd : d = 0 <;> by_cases hl : l = 0 <;> by_cases hs : s = 0 <;> by_cases w1 : w = 1 <;> by_cases w2 : w = 2 <;>
    rcases e with rfl | rfl | rfl | rfl | rfl <;>
    simp [hd, hl, hs, w1, w2, e10, i12, i21]
theorem E_fateIn (o k : Nat) (h3 : 3 ≤ k) (h7 : k ≤ 7) (I : kI) (J : kJ) : E_X10_fateIn o (nI k) I J = some (ft k (I 6 o 13) (I 6 o 10) (I 6 o 12) (I 6 o 16)) := by
  unfold E_X10_fateIn ft
  rw [kbd_eq (E_lacksC k h3 h7 _ _ _ _ I J), u_great k h3 h7]
  generalize lk k (I 6 o 13) (I 6 o 10) (I 6 o 12) (I 6 o 16) = q
  by_cases h0 : q = 0 <;> by_cases h1 : q = 1 <;> by_cases w2 : I 6 o 12 = 2 <;> by_cases h5 : 5 ≤ k <;>
    simp [kif_eq, h0, h1, w2, h5, e10]

/-! numbers, sums, states -/
abbrev kI : Type := Nat → Nat → Nat → Int32
abbrev kJ : Type := Nat → Nat → Nat → Int64
def ls (h : Nat → Int32) : Nat → Nat → Int32 → Int32
  | _, 0, acc => acc
  | i, n + 1, acc => ls h (i + 1) n (acc + h i)
theorem ls_congr {h h' : Nat → Int32} : ∀ (n i : Nat) (acc : Int32), (∀ j, i ≤ j → j < i + n → h j = h' j) → ls h i n acc = ls h' i n acc := by
  intro n
  induction n with
  | zero => intro i acc _; rfl
  | succ n ih =>
    intro i acc hh
    rw [ls, ls, hh i (by omega) (by omega)]
    exact ih _ _ fun j h1 h2 => hh j (by omega) (by omega)
theorem kz_upd (a b : Nat → Int32) (i : Nat) : upd (fun k => if k < i then a k else b k) i (a i) = fun k => if k < i + 1 then a k else b k := by
  funext k
  simp only [upd]
  grind
theorem kz_0 (a b : Nat → Int32) : (fun k => if k < 0 then a k else b k) = b := by funext k; simp
theorem kx_uA_id (I : kI) (t o : Nat) : kx_uA I t o (I t o) = I := by
  funext t2 o2
  simp only [kx_uA]
  split
  next h => rw [h.1, h.2]
  next => rfl
theorem kx_uL_id (I : kJ) (t o : Nat) : kx_uL I t o (I t o) = I := by
  funext t2 o2
  simp only [kx_uL]
  split
  next h => rw [h.1, h.2]
  next => rfl
theorem kw_uA (I : kI) (t o j : Nat) (f : Nat → Int32) (v : Int32) : kw (kx_uA I t o f) t o j v = kx_uA I t o (upd f j v) := by
  funext t2 o2
  simp only [kw, kx_uA]
  grind
theorem kw_uA_ne (I : kI) {t o t2 o2 : Nat} (j : Nat) (f : Nat → Int32) (v : Int32) (h : ¬ (t2 = t ∧ o2 = o)) : kw (kx_uA I t2 o2 f) t o j v = kx_uA (kw I t o j v) t2 o2 f := by
  funext t3 o3
  simp only [kw, kx_uA]
  grind
theorem kwL_uL (I : kJ) (t o j : Nat) (f : Nat → Int64) (v : Int64) : kwL (kx_uL I t o f) t o j v = kx_uL I t o (vp_updL f j v) := by
  funext t2 o2
  simp only [kwL, kx_uL]
  grind
theorem kx_uA_app (I : kI) (t o : Nat) (f : Nat → Int32) (t2 o2 j2 : Nat) : kx_uA I t o f t2 o2 j2 = if t2 = t ∧ o2 = o then f j2 else I t2 o2 j2 := by
  simp only [kx_uA]
  split <;> rfl
theorem kx_uL_app (I : kJ) (t o : Nat) (f : Nat → Int64) (t2 o2 j2 : Nat) : kx_uL I t o f t2 o2 j2 = if t2 = t ∧ o2 = o then f j2 else I t2 o2 j2 := by
  simp only [kx_uL]
  split <;> rfl
theorem kw_app (I : kI) (t o j : Nat) (v : Int32) (t2 o2 j2 : Nat) : kw I t o j v t2 o2 j2 = if t2 = t ∧ o2 = o ∧ j2 = j then v else I t2 o2 j2 := by
  unfold kw
  rw [kx_uA_app]
  simp only [upd]
  grind
theorem kwL_app (I : kJ) (t o j : Nat) (v : Int64) (t2 o2 j2 : Nat) : kwL I t o j v t2 o2 j2 = if t2 = t ∧ o2 = o ∧ j2 = j then v else I t2 o2 j2 := by
  unfold kwL
  rw [kx_uL_app]
  simp only [vp_updL]
  grind
theorem kcI_app (I : kI) (t1 o1 t o sp dp n t2 o2 j2 : Nat) : kcI I t1 o1 t o sp dp n t2 o2 j2 = if t2 = t ∧ o2 = o ∧ dp ≤ j2 ∧ j2 < dp + n then I t1 o1 (sp + (j2 - dp)) else I t2 o2 j2 := by
  unfold kcI
  rw [kx_uA_app]
  simp only [va_cpy]
  grind
theorem kcL_app (I : kJ) (t1 o1 t o sp dp n t2 o2 j2 : Nat) : kcL I t1 o1 t o sp dp n t2 o2 j2 = if t2 = t ∧ o2 = o ∧ dp ≤ j2 ∧ j2 < dp + n then I t1 o1 (sp + (j2 - dp)) else I t2 o2 j2 := by
  unfold kcL
  rw [kx_uL_app]
  simp only [va_cpy]
  grind
theorem kI_ext {I I' : kI} (h : ∀ t o j, I t o j = I' t o j) : I = I' := by
  funext t o j
  exact h t o j
theorem iz_add {a b : Int32} (h : -2147483648 ≤ a.toInt + b.toInt ∧ a.toInt + b.toInt < 2147483648) : (a + b).toInt = a.toInt + b.toInt := by
  rw [Int32.toInt_add]
  exact Int.bmod_eq_of_le (by omega) (by omega)
theorem iz_sub {a b : Int32} (h : -2147483648 ≤ a.toInt - b.toInt ∧ a.toInt - b.toInt < 2147483648) : (a - b).toInt = a.toInt - b.toInt := by
  rw [Int32.toInt_sub]
  exact Int.bmod_eq_of_le (by omega) (by omega)
theorem iz_mul {a b : Int32} (h : -2147483648 ≤ a.toInt * b.toInt ∧ a.toInt * b.toInt < 2147483648) : (a * b).toInt = a.toInt * b.toInt := by
  rw [Int32.toInt_mul]
  exact Int.bmod_eq_of_le (by omega) (by omega)
theorem iz_cl (x : Int32) : x.toNatClampNeg = x.toInt.toNat := rfl
theorem iz_nI {n : Nat} (h : n < 2147483648) : (nI n).toInt = (n : Int) := nI_toInt h
theorem iz_lo (x : Int32) : -2147483648 ≤ x.toInt := Int32.le_toInt x
theorem iz_hi (x : Int32) : x.toInt < 2147483648 := Int32.toInt_lt x
theorem iz_of {x : Int32} (h : 0 ≤ x.toInt) : x = nI x.toInt.toNat := by
  have h1 := iz_hi x
  rw [← Int32.toInt_inj, iz_nI (by omega)]
  omega
theorem iz_ofN {x : Int32} {n : Nat} (h : 0 ≤ x) (h2 : x ≤ nI n) (hn : n < 2147483648) : ∃ k : Nat, k ≤ n ∧ x = nI k := by
  have h3 := Int32.le_iff_toInt_le.mp h
  have h4 := Int32.le_iff_toInt_le.mp h2
  rw [iz_nI hn] at h4
  have h5 : (0 : Int32).toInt = 0 := rfl
  exact ⟨x.toInt.toNat, by omega, iz_of (by omega)⟩
/-- a number that is tested to be none of those below 0 -/
theorem iz_ofNN {x : Int32} {n : Nat} (h : ¬ x < 0) (h2 : ¬ nI n ≤ x) (hn : n < 2147483648) : ∃ k : Nat, k < n ∧ x = nI k := by
  have h3 := Int32.not_lt.mp h
  have h4 := Int32.not_le.mp h2
  have h5 := Int32.lt_iff_toInt_lt.mp h4
  have h6 := Int32.le_iff_toInt_le.mp h3
  rw [iz_nI hn] at h5
  have h7 : (0 : Int32).toInt = 0 := rfl
  exact ⟨x.toInt.toNat, by omega, iz_of (by omega)⟩
noncomputable def kif {α : Type _} (c : Prop) (a b : α) : α := @ite α c (Classical.propDecidable c) a b
theorem kif_pos {α : Type _} {c : Prop} {a b : α} (h : c) : kif c a b = a := by unfold kif; exact if_pos h
theorem kif_neg {α : Type _} {c : Prop} {a b : α} (h : ¬ c) : kif c a b = b := by unfold kif; exact if_neg h
theorem kif_eq {α : Type _} {c : Prop} [inst : Decidable c] {a b : α} : kif c a b = if c then a else b := by
  by_cases h : c
  · rw [kif_pos h, if_pos h]
  · rw [kif_neg h, if_neg h]

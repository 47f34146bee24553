/-! the lamp alone, by numbers -/
def oL (k : Nat) (d t l u : Bool) (a : Nat) : Bool := d && (t || (l && !u)) && decide (k ≤ a)
def oA (k r : Nat) (L b : Bool) (a : Nat) : Nat := bif b then min 9999 ((bif L then a - k else a) + r) else (bif L then a - k else a)
def oN (x : Bool) : Nat := bif x then 1 else 0
def oC (k r : Nat) (d t b : Nat → Bool) : Nat → Nat → Nat → Bool → Bool → Nat
  | 0, _, _, _, _ => 0
  | n + 1, i, a, l, u => oN (d i && !(oL k (d i) (t i) l u a)) + oC k r d t b n (i + 1) (oA k r (oL k (d i) (t i) l u a) (b i) a) (oL k (d i) (t i) l u a) ((oL k (d i) (t i) l u a) && !(t i))
theorem oC_le (k r : Nat) (d t b : Nat → Bool) : ∀ n i a l u, oC k r d t b n i a l u ≤ n := by
  intro n
  induction n with
  | zero => intro i a l u; exact Nat.le_refl _
  | succ n ih =>
    intro i a l u
    have h := ih (i + 1) (oA k r (oL k (d i) (t i) l u a) (b i) a) (oL k (d i) (t i) l u a) ((oL k (d i) (t i) l u a) && !(t i))
    have h1 : oN (d i && !(oL k (d i) (t i) l u a)) ≤ 1 := by
      generalize (d i && !(oL k (d i) (t i) l u a)) = z
      cases z
      · exact Nat.zero_le _
      · exact Nat.le_refl _
    rw [oC]
    omega
/-- more oil, no more unlit -/
theorem oC_mono (k r : Nat) (d t b : Nat → Bool) (hd : ∀ i, d i = true → b i = false) : ∀ n i a x l u l' u' D P, P = k * D → x ≤ a + P → ((l = l' ∧ u = u') ∨ a < k ∨ x < k) → oC k r d t b n i a l u ≤ oC k r d t b n i x l' u' + D := by
  intro n
  induction n with
  | zero => intro i a x l u l' u' D P _ _ _; exact Nat.zero_le _
  | succ n ih =>
    intro i a x l u l' u' D P hP hx hs
    have hup : ∀ D', k * (D' + 1) = k * D' + k := fun D' => Nat.mul_succ k D'
    rw [oC, oC]
    cases hdi : d i with
    | false =>
      have L0 : ∀ l u a, oL k false (t i) l u a = false := fun _ _ _ => rfl
      rw [L0, L0]
      have h := ih (i + 1) (oA k r false (b i) a) (oA k r false (b i) x) false (false && !(t i)) false (false && !(t i)) D P hP (by
        unfold oA
        cases b i with
        | false => exact hx
        | true =>
          show min 9999 (x + r) ≤ min 9999 (a + r) + P
          omega) (Or.inl ⟨rfl, rfl⟩)
      exact Nat.add_le_add_left h 0 |> fun z => by
        show 0 + _ ≤ 0 + _ + D
        omega
    | true =>
      have hb := hd i hdi
      have A : ∀ (L : Bool) (y : Nat), oA k r L (b i) y = bif L then y - k else y := fun L y => by unfold oA; rw [hb]; rfl
      rw [A, A]
      have dn : ∀ L : Bool, (true && !L) = !L := fun L => Bool.true_and _
      rw [dn, dn]
      have fin : ∀ (LA LB : Bool), LA = oL k true (t i) l u a → LB = oL k true (t i) l' u' x → oN (!LA) + oC k r d t b n (i + 1) (bif LA then a - k else a) LA (LA && !(t i)) ≤ oN (!LB) + oC k r d t b n (i + 1) (bif LB then x - k else x) LB (LB && !(t i)) + D := by
        intro LA LB hA hB
        have kA : LA = true → k ≤ a := fun z => by
          rw [z] at hA
          unfold oL at hA
          have := (Bool.and_eq_true_iff.mp hA.symm).2
          exact of_decide_eq_true this
        have kB : LB = true → k ≤ x := fun z => by
          rw [z] at hB
          unfold oL at hB
          have := (Bool.and_eq_true_iff.mp hB.symm).2
          exact of_decide_eq_true this
        have hne : LA = false → LB = true → a < k := fun zA zB => by
          by_cases y : a < k
          · exact y
          · have ka : k ≤ a := by omega
            have kx := kB zB
            have hse := hs.resolve_right (fun w => by omega)
            rw [zA] at hA
            rw [zB] at hB
            unfold oL at hA hB
            rw [hse.1, hse.2, decide_eq_true ka] at hA
            rw [decide_eq_true kx] at hB
            rw [← hA] at hB
            exact absurd hB (by decide)
        have hne2 : LA = true → LB = false → x < k := fun zA zB => by
          by_cases y : x < k
          · exact y
          · have kx : k ≤ x := by omega
            have ka := kA zA
            have hse := hs.resolve_right (fun w => by omega)
            rw [zA] at hA
            rw [zB] at hB
            unfold oL at hA hB
            rw [hse.1, hse.2, decide_eq_true ka] at hA
            rw [decide_eq_true kx] at hB
            rw [← hA] at hB
            exact absurd hB (by decide)
        cases hLA : LA with
        | true =>
          cases hLB : LB with
          | true =>
            have ka := kA hLA
            have kx := kB hLB
            have h := ih (i + 1) (a - k) (x - k) true (true && !(t i)) true (true && !(t i)) D P hP (by omega) (Or.inl ⟨rfl, rfl⟩)
            show 0 + oC k r d t b n (i + 1) (a - k) true (true && !(t i)) ≤ 0 + oC k r d t b n (i + 1) (x - k) true (true && !(t i)) + D
            omega
          | false =>
            have ka := kA hLA
            have kx := hne2 hLA hLB
            have h := ih (i + 1) (a - k) x true (true && !(t i)) false (false && !(t i)) (D + 1) (P + k) (by rw [hup, hP]) (by omega) (Or.inr (Or.inr kx))
            show 0 + oC k r d t b n (i + 1) (a - k) true (true && !(t i)) ≤ 1 + oC k r d t b n (i + 1) x false (false && !(t i)) + D
            omega
        | false =>
          cases hLB : LB with
          | true =>
            have kx := kB hLB
            have ka := hne hLA hLB
            have hD : 1 ≤ D := by
              by_cases y : 1 ≤ D
              · exact y
              · have y0 : D = 0 := by omega
                rw [y0, Nat.mul_zero] at hP
                omega
            obtain ⟨D', rfl⟩ : ∃ D', D = D' + 1 := ⟨D - 1, by omega⟩
            have hP2 := hup D'
            have h := ih (i + 1) a (x - k) false (false && !(t i)) true (true && !(t i)) D' (k * D') rfl (by omega) (Or.inr (Or.inl ka))
            show 1 + oC k r d t b n (i + 1) a false (false && !(t i)) ≤ 0 + oC k r d t b n (i + 1) (x - k) true (true && !(t i)) + (D' + 1)
            omega
          | false =>
            have h := ih (i + 1) a x false (false && !(t i)) false (false && !(t i)) D P hP hx (Or.inl ⟨rfl, rfl⟩)
            show 1 + oC k r d t b n (i + 1) a false (false && !(t i)) ≤ 1 + oC k r d t b n (i + 1) x false (false && !(t i)) + D
            omega
      exact fin _ _ rfl rfl
theorem oC_anti (k r : Nat) (d t b : Nat → Bool) (hd : ∀ i, d i = true → b i = false) (n i a x : Nat) (l u : Bool) (h : x ≤ a) : oC k r d t b n i a l u ≤ oC k r d t b n i x l u := by
  have e := oC_mono k r d t b hd n i a x l u l u 0 (k * 0) rfl (by omega) (Or.inl ⟨rfl, rfl⟩)
  omega
/-- the least -/
def least (f : Nat → Nat) (v : Nat) : Prop := v ≤ 9999 ∧ f v ≤ f 9999 ∧ ∀ y, y < v → f 9999 < f y
theorem least_one {f : Nat → Nat} {v w : Nat} (h : least f v) (h' : least f w) : v = w := by
  by_cases a : v < w
  · have := h'.2.2 v a
    have := h.2.1
    omega
  · by_cases b : w < v
    · have := h.2.2 w b
      have := h'.2.1
      omega
    · omega

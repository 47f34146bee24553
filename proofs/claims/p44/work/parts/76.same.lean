/-! the ships of an hour: by rank as by place -/
theorem pw_eq {R : Nat → Nat → Prop} (hi : ∀ a, ¬ R a a) (ha : ∀ a b, R a b → ¬ R b a) : ∀ l1 l2 : List Nat, l1.Pairwise R → l2.Pairwise R → (∀ x, x ∈ l1 ↔ x ∈ l2) → l1 = l2 := by
  intro l1
  induction l1 with
  | nil =>
    intro l2 _ _ hm
    cases l2 with
    | nil => rfl
    | cons b l2 => exact absurd ((hm b).mpr List.mem_cons_self) (by simp)
  | cons a l1 ih =>
    intro l2 h1 h2 hm
    cases l2 with
    | nil => exact absurd ((hm a).mp List.mem_cons_self) (by simp)
    | cons b l2 =>
      have h1' := List.pairwise_cons.mp h1
      have h2' := List.pairwise_cons.mp h2
      have hab : a = b := by
        by_cases q : a = b
        · exact q
        · have r1 := (hm b).mpr List.mem_cons_self
          have r2 := (hm a).mp List.mem_cons_self
          rcases List.mem_cons.mp r1 with e | e
          · exact e.symm
          · rcases List.mem_cons.mp r2 with e2 | e2
            · exact e2
            · exact absurd (h2'.1 a e2) (ha _ _ (h1'.1 b e))
      subst hab
      rw [ih l2 h1'.2 h2'.2 (fun x => ?_)]
      constructor
      · intro hx
        rcases List.mem_cons.mp ((hm x).mp (List.mem_cons_of_mem _ hx)) with e | e
        · subst e; exact absurd (h1'.1 x hx) (hi x)
        · exact e
      · intro hx
        rcases List.mem_cons.mp ((hm x).mpr (List.mem_cons_of_mem _ hx)) with e | e
        · subst e; exact absurd (h2'.1 x hx) (hi x)
        · exact e
theorem rkI_mem (g : Nat → Int32) (h k : Int32) (s : Nat) : ∀ n i, s ∈ rkI g h k i n ↔ i ≤ s ∧ s < i + n ∧ g (109 + 4 * s + 1) = h ∧ g (109 + 4 * s) = k := by
  intro n
  induction n with
  | zero => intro i; rw [rkI]; constructor <;> intro q <;> first | (cases q; done) | omega
  | succ n ih =>
    intro i
    rw [rkI]
    by_cases hq : g (109 + 4 * i + 1) = h ∧ g (109 + 4 * i) = k
    · rw [if_pos hq, List.mem_cons, ih]
      constructor
      · rintro (rfl | q)
        · exact ⟨Nat.le_refl _, by omega, hq.1, hq.2⟩
        · exact ⟨by omega, by omega, q.2.2⟩
      · intro q
        by_cases e : s = i
        · exact Or.inl e
        · exact Or.inr ⟨by omega, by omega, q.2.2⟩
    · rw [if_neg hq, ih]
      constructor
      · intro q
        exact ⟨by omega, by omega, q.2.2⟩
      · intro q
        by_cases e : s = i
        · subst e; exact absurd q.2.2 hq
        · exact ⟨by omega, by omega, q.2.2⟩
theorem rkI_pw (g : Nat → Int32) (h k : Int32) : ∀ n i, (rkI g h k i n).Pairwise (· < ·) := by
  intro n
  induction n with
  | zero => intro i; rw [rkI]; exact List.Pairwise.nil
  | succ n ih =>
    intro i
    rw [rkI]
    split
    · refine List.pairwise_cons.mpr ⟨fun s hs => ?_, ih (i + 1)⟩
      have := (rkI_mem g h k s n (i + 1)).mp hs
      omega
    · exact ih (i + 1)
theorem rkK_mem (g : Nat → Int32) (h : Int32) (c s : Nat) : ∀ k, s ∈ rkK g h c k ↔ s < c ∧ g (109 + 4 * s + 1) = h ∧ ∃ q, q < k ∧ g (109 + 4 * s) = nI (q + 3) := by
  intro k
  induction k with
  | zero =>
    rw [rkK]
    constructor
    · intro q; cases q
    · rintro ⟨_, _, q, h1, _⟩; omega
  | succ k ih =>
    rw [rkK, List.mem_append, ih, rkI_mem]
    constructor
    · rintro (q | ⟨h1, h2, q, h3, h4⟩)
      · exact ⟨by omega, q.2.2.1, k, by omega, q.2.2.2⟩
      · exact ⟨h1, h2, q, by omega, h4⟩
    · rintro ⟨h1, h2, q, h3, h4⟩
      by_cases e : q = k
      · subst e; exact Or.inl ⟨by omega, by omega, h2, h4⟩
      · exact Or.inr ⟨h1, h2, q, by omega, h4⟩
/-- the array's ships are these -/
def GF (g : Nat → Int32) (c : Nat) (kd hr : Nat → Nat) : Prop := ∀ s, s < c → g (109 + 4 * s) = nI (kd s) ∧ g (109 + 4 * s + 1) = nI (hr s) ∧ 3 ≤ kd s ∧ kd s ≤ 7 ∧ hr s < 1000000000
theorem rkK_mem2 {g : Nat → Int32} {c : Nat} {kd hr : Nat → Nat} (hg : GF g c kd hr) (h : Nat) (hh : h < 2147483648) (s k : Nat) (hk : k ≤ 5) : s ∈ rkK g (nI h) c k ↔ s < c ∧ hr s = h ∧ kd s < k + 3 := by
  rw [rkK_mem]
  constructor
  · rintro ⟨h1, h2, q, h3, h4⟩
    have e := hg s h1
    rw [e.2.1] at h2
    rw [e.1] at h4
    have e1 := nI_inj (by omega) hh h2
    have e2 := nI_inj (by omega) (by omega) h4
    exact ⟨h1, e1, by omega⟩
  · rintro ⟨h1, h2, h3⟩
    have e := hg s h1
    refine ⟨h1, by rw [e.2.1, h2], kd s - 3, by omega, ?_⟩
    rw [e.1, show kd s - 3 + 3 = kd s by omega]
theorem rkK_pw {g : Nat → Int32} {c : Nat} {kd hr : Nat → Nat} (hg : GF g c kd hr) (h : Nat) (hh : h < 2147483648) : ∀ k, k ≤ 5 → (rkK g (nI h) c k).Pairwise (bf kd hr) := by
  intro k
  induction k with
  | zero => intro _; rw [rkK]; exact List.Pairwise.nil
  | succ k ih =>
    intro hk
    rw [rkK]
    have hmem : ∀ s, s ∈ rkI g (nI h) (nI (k + 3)) 0 c → s < c ∧ hr s = h ∧ kd s = k + 3 := fun s hs => by
      have q := (rkI_mem g (nI h) (nI (k + 3)) s c 0).mp hs
      have e := hg s (by omega)
      have e1 := e.2.1.symm.trans q.2.2.1
      have e2 := e.1.symm.trans q.2.2.2
      exact ⟨by omega, nI_inj (by omega) hh e1, nI_inj (by omega) (by omega) e2⟩
    refine List.pairwise_append.mpr ⟨?_, ih (by omega), fun a ha b hb => ?_⟩
    · have hp := rkI_pw g (nI h) (nI (k + 3)) c 0
      refine List.Pairwise.imp_of_mem (fun {a b} ha hb hab => ?_) hp
      have e1 := hmem a ha
      have e2 := hmem b hb
      unfold bf
      omega
    · have e1 := hmem a ha
      have e2 := (rkK_mem2 hg h hh b k (by omega)).mp hb
      unfold bf
      omega
theorem rk_places {I : kI} {o c : Nat} {kd hr p : Nat → Nat} (hF : FL I o c kd hr p) {g : Nat → Int32} (hg : GF g c kd hr) (h : Nat) (hh : h < 2147483647) {f f2 : Nat} (hf : f2 ≤ c) (h1 : ∀ a, a < f → hr (p a) < h) (h2 : ∀ a, f ≤ a → a < c → h ≤ hr (p a)) (h3 : ∀ a, a < f2 → hr (p a) < h + 1) (h4 : ∀ a, f2 ≤ a → a < c → h + 1 ≤ hr (p a)) : rkK g (nI h) c 5 = (List.range' f (f2 - f)).map p := by
  obtain ⟨hc, hI, hK, hP, hO, hS⟩ := hF
  refine pw_eq (R := bf kd hr) (fun a q => by unfold bf at q; omega) (fun a b q q2 => by unfold bf at q q2; omega) _ _ (rkK_pw hg h (by omega) 5 (by omega)) ?_ (fun x => ?_)
  · rw [List.pairwise_map]
    have hp : (List.range' f (f2 - f)).Pairwise (· < ·) := List.pairwise_lt_range'
    refine List.Pairwise.imp_of_mem (fun {a b} ha hb hab => ?_) hp
    have e2 := List.mem_range'_1.mp hb
    exact hS a b hab (by omega)
  · rw [rkK_mem2 hg h (by omega) x 5 (by omega), List.mem_map]
    constructor
    · rintro ⟨q1, q2, q3⟩
      obtain ⟨a, ha, rfl⟩ := hO x q1
      refine ⟨a, List.mem_range'_1.mpr ?_, rfl⟩
      have r1 : f ≤ a := by
        by_cases z : a < f
        · have := h1 a z; omega
        · omega
      have r2 : a < f2 := by
        by_cases z : a < f2
        · exact z
        · have := h4 a (by omega) ha; omega
      omega
    · rintro ⟨a, ha, rfl⟩
      have e2 := List.mem_range'_1.mp ha
      have r1 := h2 a (by omega) (by omega)
      have r2 := h3 a (by omega)
      have r3 := hK (p a) (hP a (by omega)).2
      exact ⟨(hP a (by omega)).2, by omega, by omega⟩

/-! an hour of the class's world is an hour of the array -/
def CF (I : kI) (o : Nat) (g : Nat → Int32) : Prop := ∃ p, FL I o (nn (g 14)) (gk g) (gh g) p ∧ ∀ s, s < nn (g 14) → I 27 o s = g (109 + 4 * s + 2) ∧ I 28 o s = g (109 + 4 * s + 3)
def CL (I : kI) (o : Nat) (g : Nat → Int32) : Prop := I 3 o 4 = g 15 ∧ ∀ e, e < nn (g 15) → I 30 o e = g (909 + 4 * e) ∧ I 31 o e = g (909 + 4 * e + 1) ∧ I 32 o e = g (909 + 4 * e + 2) ∧ I 33 o e = g (909 + 4 * e + 3)
def CW (I : kI) (o : Nat) (g : Nat → Int32) : Prop := CS I o g ∧ CF I o g ∧ CL I o g ∧ I 9 o 3 = g 16 ∧ I 9 o 4 = g 17 ∧ I 9 o 5 = g 19
theorem msF_27 (o : Nat) (kd : Nat → Nat) (met : Int32) (s : Nat) : ∀ (l : List Nat) (I : kI), msF o kd met I l 27 o s = (if s ∈ l then ft (kd s) (I 6 o 13) (I 6 o 10) (I 6 o 12) (I 6 o 16) else I 27 o s) ∧ msF o kd met I l 28 o s = (if s ∈ l then met else I 28 o s) := by
  intro l
  induction l with
  | nil => intro I; simp [msF]
  | cons x l ih =>
    intro I
    have h := ih (ms1 o kd met I x)
    have e6 : ∀ j, ms1 o kd met I x 6 o j = I 6 o j := fun j => ms1_ne _ _ _ _ _ _ _ (by omega) (by omega)
    rw [e6, e6, e6, e6] at h
    rw [msF, h.1, h.2]
    have a27 : ms1 o kd met I x 27 o s = if s = x then ft (kd s) (I 6 o 13) (I 6 o 10) (I 6 o 12) (I 6 o 16) else I 27 o s := by
      unfold ms1
      rw [kw_at _ _ (by omega), kw_app]
      by_cases q : s = x
      · rw [if_pos ⟨rfl, rfl, q⟩, if_pos q, q]
      · rw [if_neg (fun z => q z.2.2), if_neg q]
    have a28 : ms1 o kd met I x 28 o s = if s = x then met else I 28 o s := by
      unfold ms1
      rw [kw_app]
      by_cases q : s = x
      · rw [if_pos ⟨rfl, rfl, q⟩, if_pos q]
      · rw [if_neg (fun z => q z.2.2), if_neg q, kw_at _ _ (by omega)]
    rw [a27, a28]
    by_cases hm : s ∈ l
    · have hm2 : s ∈ x :: l := List.mem_cons_of_mem _ hm
      rw [if_pos hm, if_pos hm, if_pos hm2, if_pos hm2]
      exact ⟨rfl, rfl⟩
    · rw [if_neg hm, if_neg hm]
      by_cases q : s = x
      · have hm2 : s ∈ x :: l := by rw [q]; exact List.mem_cons_self
        rw [if_pos q, if_pos q, if_pos hm2, if_pos hm2]
        exact ⟨rfl, rfl⟩
      · have hm2 : ¬ s ∈ x :: l := fun z => by
          rcases List.mem_cons.mp z with e | e
          · exact q e
          · exact hm e
        rw [if_neg q, if_neg q, if_neg hm2, if_neg hm2]
        exact ⟨rfl, rfl⟩
theorem CL_en {I : kI} {o : Nat} {g : Nat → Int32} (h : CL I o g) (hr : rg (g 15) 400) (h0 : I 6 o 4 = g 0) (a b : Int32) : CL (en o a b I) o (logG g a b (I 6 o 14)) ∧ rg (logG g a b (I 6 o 14) 15) 400 := by
  obtain ⟨h4, he⟩ := h
  have hr2 := hr.2
  by_cases q : (400 : Int32) ≤ g 15
  · have e1 : logG g a b (I 6 o 14) = g := by unfold logG; rw [if_pos q]
    have e2 : en o a b I = I := by unfold en; rw [h4, if_pos q]
    rw [e1, e2]
    exact ⟨⟨h4, he⟩, hr⟩
  · have hlt : nn (g 15) < 400 := by
      rw [hr.1] at q
      have z : ¬ nI 400 ≤ nI (nn (g 15)) := q
      rw [i_le (by omega) (by omega)] at z
      omega
    have e : ∀ j, logG g a b (I 6 o 14) j = if j = 15 then g 15 + 1 else if j = 909 + 4 * nn (g 15) + 3 then I 6 o 14 else if j = 909 + 4 * nn (g 15) + 2 then b else if j = 909 + 4 * nn (g 15) + 1 then a else if j = 909 + 4 * nn (g 15) then g 0 else g j := fun j => by unfold logG; rw [if_neg q]
    have e15 : logG g a b (I 6 o 14) 15 = nI (nn (g 15) + 1) := by
      rw [e, if_pos rfl, ← nI_1, ← hr.1]
    have eI : en o a b I = kw (kw (kw (kw (kw I 30 o (nn (g 15)) (g 0)) 31 o (nn (g 15)) a) 32 o (nn (g 15)) b) 33 o (nn (g 15)) (I 6 o 14)) 3 o 4 (g 15 + 1) := by
      unfold en
      rw [h4, if_neg q, h0]
    rw [eI]
    refine ⟨⟨?_, ?_⟩, by rw [e15]; exact rg_nI (by omega) (by omega)⟩
    · rw [kw_app, if_pos ⟨rfl, rfl, rfl⟩, e, if_pos rfl]
    · rw [e15, nn_nI (by omega)]
      intro x hx
      by_cases z : x = nn (g 15)
      · subst z
        refine ⟨?_, ?_, ?_, ?_⟩
        · rw [kw_at _ _ (by omega), kw_at _ _ (by omega), kw_at _ _ (by omega), kw_at _ _ (by omega), kw_app, if_pos ⟨rfl, rfl, rfl⟩, e, if_neg (by omega), if_neg (by omega), if_neg (by omega), if_neg (by omega), if_pos rfl]
        · rw [kw_at _ _ (by omega), kw_at _ _ (by omega), kw_at _ _ (by omega), kw_app, if_pos ⟨rfl, rfl, rfl⟩, e, if_neg (by omega), if_neg (by omega), if_neg (by omega), if_pos rfl]
        · rw [kw_at _ _ (by omega), kw_at _ _ (by omega), kw_app, if_pos ⟨rfl, rfl, rfl⟩, e, if_neg (by omega), if_neg (by omega), if_pos rfl]
        · rw [kw_at _ _ (by omega), kw_app, if_pos ⟨rfl, rfl, rfl⟩, e, if_neg (by omega), if_pos rfl]
      · have hx2 := he x (by omega)
        refine ⟨?_, ?_, ?_, ?_⟩
        · rw [kw_at _ _ (by omega), kw_at _ _ (by omega), kw_at _ _ (by omega), kw_at _ _ (by omega), kw_at _ _ (by omega), e, if_neg (by omega), if_neg (by omega), if_neg (by omega), if_neg (by omega), if_neg (by omega)]
          exact hx2.1
        · rw [kw_at _ _ (by omega), kw_at _ _ (by omega), kw_at _ _ (by omega), kw_at _ _ (by omega), kw_at _ _ (by omega), e, if_neg (by omega), if_neg (by omega), if_neg (by omega), if_neg (by omega), if_neg (by omega)]
          exact hx2.2.1
        · rw [kw_at _ _ (by omega), kw_at _ _ (by omega), kw_at _ _ (by omega), kw_at _ _ (by omega), kw_at _ _ (by omega), e, if_neg (by omega), if_neg (by omega), if_neg (by omega), if_neg (by omega), if_neg (by omega)]
          exact hx2.2.2.1
        · rw [kw_at _ _ (by omega), kw_at _ _ (by omega), kw_at _ _ (by omega), kw_at _ _ (by omega), kw_at _ _ (by omega), e, if_neg (by omega), if_neg (by omega), if_neg (by omega), if_neg (by omega), if_neg (by omega)]
          exact hx2.2.2.2
/-- a log state: class's cells and array -/
def LL (I0 I : kI) (o : Nat) (g0 g : Nat → Int32) : Prop := CL I o g ∧ rg (g 15) 400 ∧ I 6 o 4 = I0 6 o 4 ∧ I 6 o 14 = I0 6 o 14 ∧ g 0 = g0 0 ∧ ∀ s, I 27 o s = I0 27 o s
theorem LL_en {I0 I : kI} {o : Nat} {g0 g : Nat → Int32} (h : LL I0 I o g0 g) (h0 : I0 6 o 4 = g0 0) (a b : Int32) : LL I0 (en o a b I) o g0 (logG g a b (I0 6 o 14)) := by
  obtain ⟨h1, h2, h3, h4, h5, h6⟩ := h
  have q := CL_en h1 h2 (by rw [h3, h0, h5]) a b
  rw [h4] at q
  refine ⟨q.1, q.2, ?_, ?_, ?_, fun s => ?_⟩
  · rw [en_ne _ _ _ _ _ _ (by omega) (by omega) (by omega) (by omega) (by omega), h3]
  · rw [en_ne _ _ _ _ _ _ (by omega) (by omega) (by omega) (by omega) (by omega), h4]
  · rw [logG_0, h5]
  · rw [en_ne _ _ _ _ _ _ (by omega) (by omega) (by omega) (by omega) (by omega), h6]
theorem LL_enF {I0 : kI} {o : Nat} {g0 : Nat → Int32} (h0 : I0 6 o 4 = g0 0) : ∀ (l : List Nat) (I : kI) (g : Nat → Int32), LL I0 I o g0 g → LL I0 (enF o I l) o g0 (logL g (I0 6 o 14) (l.map fun s => (4 + I0 27 o s, nI s))) := by
  intro l
  induction l with
  | nil => intro I g h; exact h
  | cons s l ih =>
    intro I g h
    rw [enF, List.map_cons, logL, h.2.2.2.2.2 s]
    exact ih _ _ (LL_en h h0 _ _)

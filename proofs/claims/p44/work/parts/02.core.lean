/-! a small machine over numbers alone: its states, its steps; then that the machine follows it -/
abbrev kx_V : Type := Int32 ⊕ Int64 ⊕ Option (Nat × Nat)
abbrev kx_S : Type := (Nat → Nat → Nat → Int32) × (Nat → Nat → Nat → Int64) × Option Nat
abbrev kx_L : Type := List (Option kx_V)
abbrev kx_K : Type := Nat → kx_L → List kx_V → kx_S → Prop
abbrev kx_P : Type := Nat × (Option kx_V → kx_S → Prop)
abbrev kx_T : Type := kx_P → kx_K → kx_L → List kx_V → kx_S → Prop
abbrev kx_i (x : Int32) : kx_V := Sum.inl x
abbrev kx_l (x : Int64) : kx_V := Sum.inr (Sum.inl x)
abbrev kx_r (t o : Nat) : kx_V := Sum.inr (Sum.inr (some (t, o)))
abbrev kx_n : kx_V := Sum.inr (Sum.inr none)
def kx_cnt (S : kx_S) : Nat := match S.2.2 with
  | none => kx_NC
  | some k => k
def kx_ix (t o : Nat) : Nat := kx_cells.idxOf (t, o)
def kx_uA (I : Nat → Nat → Nat → Int32) (t o : Nat) (f : Nat → Int32) : Nat → Nat → Nat → Int32 := fun t2 o2 => if t2 = t ∧ o2 = o then f else I t2 o2
def kx_uL (I : Nat → Nat → Nat → Int64) (t o : Nat) (f : Nat → Int64) : Nat → Nat → Nat → Int64 := fun t2 o2 => if t2 = t ∧ o2 = o then f else I t2 o2
theorem kx_uA_eq (I : Nat → Nat → Nat → Int32) (t o : Nat) (f : Nat → Int32) : kx_uA I t o f t o = f := by simp [kx_uA]
theorem kx_uA_ne (I : Nat → Nat → Nat → Int32) {t o t2 o2 : Nat} (f : Nat → Int32) (h : ¬ (t2 = t ∧ o2 = o)) : kx_uA I t o f t2 o2 = I t2 o2 := by simp [kx_uA, h]
theorem kx_uL_eq (I : Nat → Nat → Nat → Int64) (t o : Nat) (f : Nat → Int64) : kx_uL I t o f t o = f := by simp [kx_uL]
theorem kx_uL_ne (I : Nat → Nat → Nat → Int64) {t o t2 o2 : Nat} (f : Nat → Int64) (h : ¬ (t2 = t ∧ o2 = o)) : kx_uL I t o f t2 o2 = I t2 o2 := by simp [kx_uL, h]
def kw (I : Nat → Nat → Nat → Int32) (t o j : Nat) (v : Int32) : Nat → Nat → Nat → Int32 := kx_uA I t o (upd (I t o) j v)
def kwL (J : Nat → Nat → Nat → Int64) (t o j : Nat) (v : Int64) : Nat → Nat → Nat → Int64 := kx_uL J t o (vp_updL (J t o) j v)
def kcI (I : Nat → Nat → Nat → Int32) (t1 o1 t2 o2 sp dp n : Nat) : Nat → Nat → Nat → Int32 := kx_uA I t2 o2 (va_cpy (I t1 o1) (I t2 o2) sp dp n)
def kcL (J : Nat → Nat → Nat → Int64) (t1 o1 t2 o2 sp dp n : Nat) : Nat → Nat → Nat → Int64 := kx_uL J t2 o2 (va_cpy (J t1 o1) (J t2 o2) sp dp n)
/-- where a place of a cell points -/
def kx_tgt (t o j : Nat) : Option (Nat × Nat) := match kx_kind t with
  | (0, c) => match (kx_fts c)[j]? with
    | some (some f) => some (f.1, f.2 o)
    | _ => none
  | (4, _) => some (kx_tSh, j)
  | _ => none
def kx_rv (ad : Nat → Nat) (S : kx_S) (t o j t2 o2 : Nat) : Value := match S.2.2 with
  | none => .ref (ad (kx_ix t2 o2))
  | some _ => if S.1 t o j = 0 then .null else .ref (ad (kx_ix t2 o2))
def kx_ro (ad : Nat → Nat) (S : kx_S) (t o j t2 o2 : Nat) : Option Nat := match S.2.2 with
  | none => some (ad (kx_ix t2 o2))
  | some _ => if S.1 t o j = 0 then none else some (ad (kx_ix t2 o2))
def kx_sv (ad : Nat → Nat) (S : kx_S) (t o : Nat) (q : kx_F × Nat) : Value := match q.1 with
  | none => .int (S.1 t o q.2)
  | some f => kx_rv ad S t o q.2 f.1 (f.2 o)
abbrev kx_C : Type := ClassId × ClassId × ClassId × ClassId
def kx_tys (C4 : kx_C) : List (ClassId × FieldType) := [(C4.1, .int), (C4.2.1, .long), (C4.2.2.1, .int), (C4.2.2.2, .object "KeptLight$Shelf")]
def kx_en (C4 : kx_C) (ad : Nat → Nat) (S : kx_S) (t o : Nat) : va_E := match kx_kind t with
  | (0, c) => .inr (c, (kx_fts c).zipIdx.map (kx_sv ad S t o))
  | (1, n) => .inl (C4.1, n, .inl (S.1 t o))
  | (2, n) => .inl (C4.2.1, n, .inr (.inl (S.2.1 t o)))
  | (3, n) => .inl (C4.2.2.1, n, .inl (S.1 t o))
  | (_, n) => .inl (C4.2.2.2, n, .inr (.inr (.inr (.inr fun j => kx_ro ad S t o j kx_tSh j))))
def kx_ws (C4 : kx_C) (ad : Nat → Nat) (S : kx_S) : va_W := (kx_cells.take (kx_cnt S)).zipIdx.map fun q => (ad q.2, kx_en C4 ad S q.1.1 q.1.2)
def kx_ok (n : Nat) (v : kx_V) : Prop := match v with
  | .inr (.inr (some q)) => kx_ix q.1 q.2 < n ∨ q.1 = 999
  | _ => True
def kx_okl (n : Nat) : List kx_V → Prop
  | [] => True
  | v :: r => kx_ok n v ∧ kx_okl n r
def kx_okL (n : Nat) (L : kx_L) : Prop := ∀ (i : Nat) (v : kx_V), L[i]? = some (some v) → kx_ok n v
def kx_hv (S : kx_S) : Prop := match S.2.2 with
  | none => True
  | some k => k ≤ kx_NC ∧ ∀ t o j t2 o2 : Nat, kx_ix t o < k → kx_tgt t o j = some (t2, o2) → S.1 t o j ≠ 0 → kx_ix t2 o2 < k
def kx_cv (ad : Nat → Nat) (v : kx_V) : Value := match v with
  | .inl x => .int x
  | .inr (.inl x) => .long x
  | .inr (.inr none) => .null
  | .inr (.inr (some q)) => .ref (ad (kx_ix q.1 q.2))
def kx_lg (a : Option kx_V) : Bool := match a with
  | some (.inr (.inl _)) => true
  | _ => false
def kx_st1 : kx_L → Nat → kx_V → kx_L
  | [], _, _ => []
  | _ :: r, 0, v => some v :: r
  | a :: r, n + 1, v => (bif Nat.beq n 0 && kx_lg a then none else a) :: kx_st1 r n v
def kx_st2 : kx_L → Nat → kx_V → kx_L
  | [], _, _ => []
  | [_], 0, v => [some v]
  | _ :: _ :: r, 0, v => some v :: none :: r
  | a :: r, n + 1, v => (bif Nat.beq n 0 && kx_lg a then none else a) :: kx_st2 r n v
def kx_l0 : List kx_V → Nat → kx_L
  | [], n => List.replicate n none
  | .inr (.inl x) :: vs, n => some (.inr (.inl x)) :: none :: kx_l0 vs (n - 2)
  | v :: vs, n => some v :: kx_l0 vs (n - 1)
def kx_has (ad : Nat → Nat) (ls : Array Slot) (nL : Nat) (L : kx_L) : Prop := ls.size = nL ∧ lv_wf ls ∧ ∀ (i : Nat) (v : kx_V), L[i]? = some (some v) → ls[i]? = some (.val (kx_cv ad v))
def kx_lp (ad : Nat → Nat) : Nat → kx_L → List (Nat × Value)
  | _, [] => []
  | i, none :: r => kx_lp ad (i + 1) r
  | i, some v :: r => (i, kx_cv ad v) :: kx_lp ad (i + 1) r
theorem kx_lp_mem (ad : Nat → Nat) (L : kx_L) : ∀ (i : Nat) (q : Nat × Value), q ∈ kx_lp ad i L ↔ ∃ (j : Nat) (v : kx_V), L[j]? = some (some v) ∧ q = (i + j, kx_cv ad v) := by
  induction L with
  | nil => intro i q; simp [kx_lp]
  | cons a r ih =>
    intro i q
    cases a with
    | none =>
      rw [kx_lp, ih]
      constructor
      · rintro ⟨j, v, h, rfl⟩
        exact ⟨j + 1, v, by simpa using h, by rw [Nat.add_assoc, Nat.add_comm 1 j]⟩
      · rintro ⟨j, v, h, rfl⟩
        cases j with
        | zero => simp at h
        | succ j => exact ⟨j, v, by simpa using h, by rw [Nat.add_assoc, Nat.add_comm 1 j]⟩
    | some w =>
      rw [kx_lp, List.mem_cons, ih]
      constructor
      · rintro (rfl | ⟨j, v, h, rfl⟩)
        · exact ⟨0, w, by simp, by simp⟩
        · exact ⟨j + 1, v, by simpa using h, by rw [Nat.add_assoc, Nat.add_comm 1 j]⟩
      · rintro ⟨j, v, h, rfl⟩
        cases j with
        | zero =>
          simp at h
          subst h
          exact Or.inl (by simp)
        | succ j => exact Or.inr ⟨j, v, by simpa using h, by rw [Nat.add_assoc, Nat.add_comm 1 j]⟩
theorem kx_has.lv {ad : Nat → Nat} {ls : Array Slot} {nL : Nat} {L : kx_L} (h : kx_has ad ls nL L) : lv_has ls nL (kx_lp ad 0 L) := ⟨h.1, h.2.1, fun q hq => by
  obtain ⟨j, v, h1, rfl⟩ := (kx_lp_mem ad L 0 q).mp hq
  simpa using h.2.2 j v h1⟩
theorem kx_cat (ad : Nat → Nat) (v : kx_V) : ((kx_cv ad v).category == 2) = kx_lg (some v) := by
  rcases v with x | x | _ | q <;> rfl
theorem kx_st1_get (L : kx_L) : ∀ (i j : Nat) (v w : kx_V), (kx_st1 L i v)[j]? = some (some w) → (j = i ∧ w = v) ∨ (j ≠ i ∧ L[j]? = some (some w) ∧ ¬ (j + 1 = i ∧ kx_lg (some w) = true)) := by
  induction L with
  | nil => intro i j v w h; simp [kx_st1] at h
  | cons a r ih =>
    intro i j v w h
    cases i with
    | zero =>
      rw [kx_st1] at h
      cases j with
      | zero => left; simp at h; exact ⟨rfl, h.symm⟩
      | succ j => right; exact ⟨by omega, by simpa using h, by omega⟩
    | succ n =>
      rw [kx_st1] at h
      cases j with
      | zero =>
        right
        simp only [List.getElem?_cons_zero, Option.some.injEq] at h
        refine ⟨by omega, ?_, ?_⟩
        · cases hb : (Nat.beq n 0 && kx_lg a) with
          | true => rw [hb] at h; cases h
          | false => rw [hb] at h; simpa using h
        · rintro ⟨h1, h2⟩
          have hn : n = 0 := by omega
          subst hn
          cases hb : kx_lg a with
          | true => rw [hb] at h; cases h
          | false =>
            rw [hb] at h
            have h' : a = some w := h
            rw [h', h2] at hb
            cases hb
      | succ j =>
        simp only [List.getElem?_cons_succ] at h
        rcases ih n j v w h with ⟨h1, h2⟩ | ⟨h1, h2, h3⟩
        · left; exact ⟨by omega, h2⟩
        · right; exact ⟨by omega, by simpa using h2, fun q => h3 ⟨by omega, q.2⟩⟩
theorem kx_st2_get (L : kx_L) : ∀ (i j : Nat) (v w : kx_V), (kx_st2 L i v)[j]? = some (some w) → (j = i ∧ w = v) ∨ (j ≠ i ∧ j ≠ i + 1 ∧ L[j]? = some (some w) ∧ ¬ (j + 1 = i ∧ kx_lg (some w) = true)) := by
  induction L with
  | nil => intro i j v w h; simp [kx_st2] at h
  | cons a r ih =>
    intro i j v w h
    cases i with
    | zero =>
      cases r with
      | nil =>
        rw [kx_st2] at h
        cases j with
        | zero => left; simp at h; exact ⟨rfl, h.symm⟩
        | succ j => simp at h
      | cons b r =>
        rw [kx_st2] at h
        cases j with
        | zero => left; simp at h; exact ⟨rfl, h.symm⟩
        | succ j =>
          cases j with
          | zero => simp at h
          | succ j => right; exact ⟨by omega, by omega, by simpa using h, by omega⟩
    | succ n =>
      have e : kx_st2 (a :: r) (n + 1) v = (bif Nat.beq n 0 && kx_lg a then none else a) :: kx_st2 r n v := by
        cases r <;> rfl
      rw [e] at h
      cases j with
      | zero =>
        right
        simp only [List.getElem?_cons_zero, Option.some.injEq] at h
        refine ⟨by omega, by omega, ?_, ?_⟩
        · cases hb : (Nat.beq n 0 && kx_lg a) with
          | true => rw [hb] at h; cases h
          | false => rw [hb] at h; simpa using h
        · rintro ⟨h1, h2⟩
          have hn : n = 0 := by omega
          subst hn
          cases hb : kx_lg a with
          | true => rw [hb] at h; cases h
          | false =>
            rw [hb] at h
            have h' : a = some w := h
            rw [h', h2] at hb
            cases hb
      | succ j =>
        simp only [List.getElem?_cons_succ] at h
        rcases ih n j v w h with ⟨h1, h2⟩ | ⟨h1, h2, h3, h4⟩
        · left; exact ⟨by omega, h2⟩
        · right; exact ⟨by omega, by omega, by simpa using h3, fun q => h4 ⟨by omega, q.2⟩⟩
theorem kx_has.st1 {ad : Nat → Nat} {ls' : Array Slot} {nL i : Nat} {v : kx_V} {L : kx_L} (h : lv_has ls' nL ((i, kx_cv ad v) :: (kx_lp ad 0 L).filter (fun q => !(q.1 == i) && !(q.1 + 1 == i && q.2.category == 2)))) : kx_has ad ls' nL (kx_st1 L i v) := by
  refine ⟨h.1, h.2.1, fun j w hj => ?_⟩
  rcases kx_st1_get L i j v w hj with ⟨rfl, rfl⟩ | ⟨h1, h2, h3⟩
  · exact h.2.2 _ List.mem_cons_self
  · refine h.2.2 (j, kx_cv ad w) (List.mem_cons_of_mem _ (List.mem_filter.mpr ⟨(kx_lp_mem ad L 0 _).mpr ⟨j, w, h2, by simp⟩, ?_⟩))
    simp only [kx_cat]
    cases hg : kx_lg (some w) with
    | false => simp [h1]
    | true => rw [hg] at h3; simp at h3; simp [h1, h3]
theorem kx_has.st2 {ad : Nat → Nat} {ls' : Array Slot} {nL i : Nat} {v : kx_V} {L : kx_L} (h : lv_has ls' nL ((i, kx_cv ad v) :: (kx_lp ad 0 L).filter (fun q => !(q.1 == i) && (!(q.1 == i + 1) && !(q.1 + 1 == i && q.2.category == 2))))) : kx_has ad ls' nL (kx_st2 L i v) := by
  refine ⟨h.1, h.2.1, fun j w hj => ?_⟩
  rcases kx_st2_get L i j v w hj with ⟨rfl, rfl⟩ | ⟨h1, h1', h2, h3⟩
  · exact h.2.2 _ List.mem_cons_self
  · refine h.2.2 (j, kx_cv ad w) (List.mem_cons_of_mem _ (List.mem_filter.mpr ⟨(kx_lp_mem ad L 0 _).mpr ⟨j, w, h2, by simp⟩, ?_⟩))
    simp only [kx_cat]
    cases hg : kx_lg (some w) with
    | false => simp [h1, h1']
    | true => rw [hg] at h3; simp at h3; simp [h1, h1', h3]
theorem kx_okL.st1 {n i : Nat} {v : kx_V} {L : kx_L} (h : kx_okL n L) (hv : kx_ok n v) : kx_okL n (kx_st1 L i v) := by
  intro j w hj
  rcases kx_st1_get L i j v w hj with ⟨rfl, rfl⟩ | ⟨h1, h2, h3⟩
  · exact hv
  · exact h j w h2
theorem kx_okL.st2 {n i : Nat} {v : kx_V} {L : kx_L} (h : kx_okL n L) (hv : kx_ok n v) : kx_okL n (kx_st2 L i v) := by
  intro j w hj
  rcases kx_st2_get L i j v w hj with ⟨rfl, rfl⟩ | ⟨h1, h1', h2, h3⟩
  · exact hv
  · exact h j w h2
theorem kx_lg_cat (ad : Nat → Nat) {v : kx_V} (h : kx_lg (some v) = true) : (kx_cv ad v).category = 2 := by
  have e := kx_cat ad v
  rw [h] at e
  simpa using e
theorem kx_nlg_cat (ad : Nat → Nat) {v : kx_V} (h : kx_lg (some v) = false) : (kx_cv ad v).category = 1 := by
  rcases v with x | x | _ | q <;> first | rfl | cases h
theorem kx_l0_get (ad : Nat → Nat) (av : List kx_V) : ∀ (n i j : Nat) (w : kx_V), (kx_l0 av n)[j]? = some (some w) → (i + j, kx_cv ad w) ∈ lv_args i (av.map (kx_cv ad)) ∧ w ∈ av := by
  induction av with
  | nil =>
    intro n i j w h
    rw [kx_l0, List.getElem?_replicate] at h
    split at h <;> cases h
  | cons a r ih =>
    intro n i j w h
    rcases a with x | x | z
    · rw [kx_l0] at h
      · cases j with
        | zero => simp at h; subst h; exact ⟨List.mem_cons_self, List.mem_cons_self⟩
        | succ j =>
          have := ih (n - 1) (i + 1) j w (by simpa using h)
          exact ⟨List.mem_cons_of_mem _ (by have e := this.1; rw [Nat.add_assoc, Nat.add_comm 1 j] at e; exact e), List.mem_cons_of_mem _ this.2⟩
      · intro y hy; cases hy
    · rw [kx_l0] at h
      cases j with
      | zero => simp at h; subst h; exact ⟨List.mem_cons_self, List.mem_cons_self⟩
      | succ j =>
        cases j with
        | zero => simp at h
        | succ j =>
          have := ih (n - 2) (i + 2) j w (by simpa using h)
          exact ⟨List.mem_cons_of_mem _ (by have e := this.1; rw [Nat.add_assoc, Nat.add_comm 2 j] at e; exact e), List.mem_cons_of_mem _ this.2⟩
    · rw [kx_l0] at h
      · cases j with
        | zero => simp at h; subst h; exact ⟨List.mem_cons_self, List.mem_cons_self⟩
        | succ j =>
          have := ih (n - 1) (i + 1) j w (by simpa using h)
          refine ⟨List.mem_cons_of_mem _ ?_, List.mem_cons_of_mem _ this.2⟩
          have e := this.1
          rw [Nat.add_assoc, Nat.add_comm 1 j] at e
          rcases z with _ | q <;> exact e
      · intro y hy; cases hy
theorem kx_okl_mem {n : Nat} {av : List kx_V} (h : kx_okl n av) : ∀ v ∈ av, kx_ok n v := by
  induction av with
  | nil => intro v hv; cases hv
  | cons a r ih =>
    intro v hv
    rcases List.mem_cons.mp hv with rfl | hv
    · exact h.1
    · exact ih h.2 v hv
theorem kx_okl_of {n : Nat} {av : List kx_V} (h : ∀ v ∈ av, kx_ok n v) : kx_okl n av := by
  induction av with
  | nil => exact trivial
  | cons a r ih => exact ⟨h a List.mem_cons_self, ih fun v hv => h v (List.mem_cons_of_mem _ hv)⟩
/-! runs -/
def kx_Run (tb : Nat → kx_T) (P : kx_P) : kx_K := fun pc L st S => ∀ X : kx_K, (∀ (K : kx_K) (pc : Nat) (L : kx_L) (st : List kx_V) (S : kx_S), (∀ pc L st S, K pc L st S → X pc L st S) → tb pc P K L st S → X pc L st S) → X pc L st S
theorem kx_go {tb : Nat → kx_T} {P : kx_P} {K : kx_K} {pc : Nat} {L : kx_L} {st : List kx_V} {S : kx_S} (hK : ∀ pc L st S, K pc L st S → kx_Run tb P pc L st S) (h : tb pc P K L st S) : kx_Run tb P pc L st S := fun X hX => hX K pc L st S (fun pc L st S h2 => hK pc L st S h2 X hX) h
def kx_wk (tb : Nat → kx_T) (P : kx_P) (cuts : List Nat) : Nat → kx_K
  | 0 => kx_Run tb P
  | n + 1 => fun pc L st S => bif cuts.any (Nat.beq pc) then kx_Run tb P pc L st S else tb pc P (kx_wk tb P cuts n) L st S
theorem kx_wk_run {tb : Nat → kx_T} {P : kx_P} {cuts : List Nat} : ∀ (n pc : Nat) (L : kx_L) (st : List kx_V) (S : kx_S), kx_wk tb P cuts n pc L st S → kx_Run tb P pc L st S := by
  intro n
  induction n with
  | zero => exact fun pc L st S h => h
  | succ n ih =>
    intro pc L st S h
    rw [kx_wk] at h
    cases hb : cuts.any (Nat.beq pc) with
    | true => rw [hb] at h; exact h
    | false => rw [hb] at h; exact kx_go ih h
theorem kx_start {tb : Nat → kx_T} {P : kx_P} (cuts : List Nat) (n : Nat) {pc : Nat} {L : kx_L} {st : List kx_V} {S : kx_S} (h : tb pc P (kx_wk tb P cuts n) L st S) : kx_Run tb P pc L st S := kx_go (kx_wk_run n) h
def kx_Snd (W : kx_K) (P : kx_P) (pc : Nat) (t : kx_T) : Prop := ∀ K : kx_K, (∀ pc L st S, K pc L st S → W pc L st S) → ∀ L st S, t P K L st S → W pc L st S
theorem kx_sound {tb : Nat → kx_T} {W : kx_K} {P : kx_P} (h : ∀ pc, kx_Snd W P pc (tb pc)) {pc : Nat} {L : kx_L} {st : List kx_V} {S : kx_S} (hr : kx_Run tb P pc L st S) : W pc L st S := hr W fun K pc L st S hK ht => h pc K hK L st S ht
def kx_no : kx_T := fun _ _ _ _ _ => False
theorem kx_sl {W : kx_K} {P : kx_P} {p0 : Nat} {t : kx_T} (h : kx_Snd W P p0 t) : ∀ pc, kx_Snd W P pc (bif Nat.beq pc p0 then t else kx_no) := by
  intro pc
  cases hb : Nat.beq pc p0 with
  | true => rw [Nat.eq_of_beq_eq_true hb]; exact h
  | false => exact fun K hK L st S ht => ht.elim
theorem kx_sb {W : kx_K} {P : kx_P} {k : Nat} {a b : Nat → kx_T} (ha : ∀ pc, kx_Snd W P pc (a pc)) (hb : ∀ pc, kx_Snd W P pc (b pc)) : ∀ pc, kx_Snd W P pc (bif Nat.blt pc k then a pc else b pc) := by
  intro pc
  cases h : Nat.blt pc k with
  | true => exact ha pc
  | false => exact hb pc

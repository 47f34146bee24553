theorem kx_cells_len : kx_cells.length = kx_NC := by decide +kernel
theorem kx_cells_nd : kx_cells.Nodup := by decide +kernel
theorem kx_ix_at {t o : Nat} (h : kx_ix t o < kx_NC) : kx_cells[kx_ix t o]? = some (t, o) := by
  have h1 : kx_cells.idxOf (t, o) < kx_cells.length := by rw [kx_cells_len]; exact h
  have h2 := List.getElem_idxOf h1
  rw [List.getElem?_eq_getElem (by exact h1)]
  exact congrArg some h2
theorem kx_ix_of {t o k : Nat} (h : kx_cells[k]? = some (t, o)) : kx_ix t o = k := by
  obtain ⟨hk, he⟩ := List.getElem?_eq_some_iff.mp h
  have h2 := List.Nodup.idxOf_getElem kx_cells_nd k hk
  rw [he] at h2
  exact h2
theorem kx_ws_get {C4 : kx_C} {ad : Nat → Nat} {S : kx_S} {k : Nat} {x : Nat × va_E} (h : (kx_ws C4 ad S)[k]? = some x) : k < kx_cnt S ∧ ∃ t o, kx_cells[k]? = some (t, o) ∧ x = (ad k, kx_en C4 ad S t o) := by
  unfold kx_ws at h
  rw [List.getElem?_map, List.getElem?_zipIdx, Option.map_eq_some_iff] at h
  obtain ⟨q, h1, rfl⟩ := h
  rw [Option.map_eq_some_iff] at h1
  obtain ⟨⟨t, o⟩, h2, rfl⟩ := h1
  rw [List.getElem?_take] at h2
  split at h2
  next hk => exact ⟨hk, t, o, h2, by simp⟩
  next => cases h2
theorem kx_ws_k {C4 : kx_C} {ad : Nat → Nat} {S : kx_S} {k t o : Nat} (hk : k < kx_cnt S) (h : kx_cells[k]? = some (t, o)) : (kx_ws C4 ad S)[k]? = some (ad k, kx_en C4 ad S t o) := by
  unfold kx_ws
  rw [List.getElem?_map, List.getElem?_zipIdx, List.getElem?_take, if_pos hk, h]
  simp
theorem kx_ws_at {C4 : kx_C} {ad : Nat → Nat} {S : kx_S} {t o : Nat} (h : kx_ix t o < kx_cnt S) (hn : kx_cnt S ≤ kx_NC) : (kx_ws C4 ad S)[kx_ix t o]? = some (ad (kx_ix t o), kx_en C4 ad S t o) :=
  kx_ws_k h (kx_ix_at (Nat.lt_of_lt_of_le h hn))
theorem kx_ws_len {C4 : kx_C} {ad : Nat → Nat} {S : kx_S} (hn : kx_cnt S ≤ kx_NC) : (kx_ws C4 ad S).length = kx_cnt S := by
  simp [kx_ws, kx_cells_len, hn]
/-- one cell changes -/
theorem kx_ws_set {C4 : kx_C} {ad : Nat → Nat} {S S' : kx_S} {t o : Nat} (h : kx_ix t o < kx_cnt S) (hn : kx_cnt S ≤ kx_NC) (hc : kx_cnt S' = kx_cnt S)
    (ho : ∀ t2 o2, ¬ (t2 = t ∧ o2 = o) → kx_en C4 ad S' t2 o2 = kx_en C4 ad S t2 o2) : (kx_ws C4 ad S).set (kx_ix t o) (ad (kx_ix t o), kx_en C4 ad S' t o) = kx_ws C4 ad S' := by
  apply List.ext_getElem?
  intro k
  rw [List.getElem?_set]
  by_cases hk : kx_ix t o = k
  · rw [if_pos hk, if_pos (by rw [kx_ws_len hn]; exact h)]
    subst hk
    exact (kx_ws_at (by rw [hc]; exact h) (by rw [hc]; exact hn)).symm
  · rw [if_neg hk]
    by_cases hkc : k < kx_cnt S
    · have hl : k < kx_cells.length := by rw [kx_cells_len]; omega
      obtain ⟨⟨t2, o2⟩, hq⟩ : ∃ q, kx_cells[k]? = some q := ⟨_, List.getElem?_eq_getElem hl⟩
      rw [kx_ws_k hkc hq, kx_ws_k (by rw [hc]; exact hkc) hq, ho t2 o2 (fun e => hk (by rw [← e.1, ← e.2]; exact kx_ix_of hq))]
    · rw [List.getElem?_eq_none (by rw [kx_ws_len hn]; omega), List.getElem?_eq_none (by rw [kx_ws_len (by rw [hc]; exact hn), hc]; omega)]
theorem kx_en_o {C4 : kx_C} {ad : Nat → Nat} {S : kx_S} {t o c : Nat} (h : kx_kind t = (0, c)) : kx_en C4 ad S t o = .inr (c, (kx_fts c).zipIdx.map (kx_sv ad S t o)) := by unfold kx_en; rw [h]; rfl
theorem kx_en_i {C4 : kx_C} {ad : Nat → Nat} {S : kx_S} {t o n : Nat} (h : kx_kind t = (1, n)) : kx_en C4 ad S t o = .inl (C4.1, n, .inl (S.1 t o)) := by unfold kx_en; rw [h]; rfl
theorem kx_en_l {C4 : kx_C} {ad : Nat → Nat} {S : kx_S} {t o n : Nat} (h : kx_kind t = (2, n)) : kx_en C4 ad S t o = .inl (C4.2.1, n, .inr (.inl (S.2.1 t o))) := by unfold kx_en; rw [h]; rfl
theorem kx_en_z {C4 : kx_C} {ad : Nat → Nat} {S : kx_S} {t o n : Nat} (h : kx_kind t = (3, n)) : kx_en C4 ad S t o = .inl (C4.2.2.1, n, .inl (S.1 t o)) := by unfold kx_en; rw [h]; rfl
theorem kx_en_r {C4 : kx_C} {ad : Nat → Nat} {S : kx_S} {t o n : Nat} (h : kx_kind t = (4, n)) : kx_en C4 ad S t o = .inl (C4.2.2.2, n, .inr (.inr (.inr (.inr fun j => kx_ro ad S t o j kx_tSh j)))) := by unfold kx_en; rw [h]; rfl
/-- what a cell is depends on its own numbers alone -/
theorem kx_en_same {C4 : kx_C} {ad : Nat → Nat} {S S' : kx_S} {t o : Nat} (h1 : S'.1 t o = S.1 t o) (h2 : S'.2.1 t o = S.2.1 t o) (h3 : S'.2.2 = S.2.2) : kx_en C4 ad S' t o = kx_en C4 ad S t o := by
  have e : kx_sv ad S' t o = kx_sv ad S t o := by
    funext q
    unfold kx_sv kx_rv
    rw [h1, h3]
  have e2 : (fun j => kx_ro ad S' t o j kx_tSh j) = (fun j => kx_ro ad S t o j kx_tSh j) := by
    funext j
    unfold kx_ro
    rw [h1, h3]
  unfold kx_en
  rw [e, e2, h1, h2]
theorem kx_fs_get {ad : Nat → Nat} {S : kx_S} {t o c j : Nat} {f : kx_F} (h : (kx_fts c)[j]? = some f) : ((kx_fts c).zipIdx.map (kx_sv ad S t o))[j]? = some (kx_sv ad S t o (f, j)) := by
  rw [List.getElem?_map, List.getElem?_zipIdx, h]
  simp
theorem kx_fs_len {ad : Nat → Nat} {S : kx_S} {t o c : Nat} : ((kx_fts c).zipIdx.map (kx_sv ad S t o)).length = (kx_fts c).length := by simp
theorem kx_fs_set {ad : Nat → Nat} {S S' : kx_S} {t o c j : Nat} {f : kx_F} {v : Value} (h : (kx_fts c)[j]? = some f) (hv : kx_sv ad S' t o (f, j) = v) (h3 : S'.2.2 = S.2.2) (ho : ∀ i, i ≠ j → S'.1 t o i = S.1 t o i) :
    ((kx_fts c).zipIdx.map (kx_sv ad S t o)).set j v = (kx_fts c).zipIdx.map (kx_sv ad S' t o) := by
  have hl : j < (kx_fts c).length := (List.getElem?_eq_some_iff.mp h).1
  apply List.ext_getElem?
  intro k
  rw [List.getElem?_set]
  by_cases hk : j = k
  · subst hk
    rw [if_pos rfl, if_pos (by rw [kx_fs_len]; exact hl), kx_fs_get h, hv]
  · rw [if_neg hk]
    by_cases hkl : k < (kx_fts c).length
    · have hg := List.getElem?_eq_getElem hkl
      rw [kx_fs_get hg, kx_fs_get hg]
      unfold kx_sv kx_rv
      dsimp only
      rw [h3, ho k (fun e => hk e.symm)]
    · rw [List.getElem?_eq_none (by rw [kx_fs_len]; omega), List.getElem?_eq_none (by rw [kx_fs_len]; omega)]
/-- the closed world: what its fields point to is there -/
theorem kx_closed : ∀ q ∈ kx_cells, ∀ f ∈ (if (kx_kind q.1).1 = 0 then kx_fts (kx_kind q.1).2 else []), ∀ g ∈ f, kx_ix g.1 (g.2 q.2) < kx_NC := by decide +kernel
theorem kx_closed_r : ∀ j, j < 8 → kx_ix kx_tSh j < kx_NC := by decide +kernel
def kx_agree (n : Nat) (ad0 ad : Nat → Nat) : Prop := ∀ k, k < n ∨ k = kx_NC → ad k = ad0 k
section KXW
variable (p : Program) (l : Launch) (e : Env) (R : Room) (s : State) (m : MethodId) (args : Array Value) (below : List Frame) (meth : Method) (c : Code) (Q : State → Prop) (D : va_G) (C4 : kx_C) (A : Nat → Prop) (cnt0 : Nat) (ad0 : Nat → Nat) (nL gx gs : Nat)
def kx_W (P : kx_P) : kx_K := fun pc L st S => ∀ (ad : Nat → Nat) (H : Heap) (locs : List Loc) (ls : Array Slot), kx_agree cnt0 ad0 ad → cnt0 ≤ kx_cnt S ∧ kx_cnt S ≤ P.1 → kx_hv S → kx_okl (kx_cnt S) st → kx_okL (kx_cnt S) L →
  va_P D vwCl (kx_ws C4 ad S) H → va_D A (kx_ws C4 ad S) → va_S A s.heap H locs → kx_has ad ls nL L →
  W p l e R s m args below meth c H locs (kx_cnt S - cnt0 + gx) (kx_sz (kx_cnt S) - kx_sz cnt0 + gs) Q (F0 m pc ls (st.map (kx_cv ad)))
end KXW

/-! the lamp of the arrays; two arrays that differ in oil -/
def OE (g g' : Nat → Int32) : Prop := (∀ j, (j < 4 ∨ (8 ≤ j ∧ j < 15) ∨ (21 ≤ j ∧ j < 61) ∨ (85 ≤ j ∧ j < 109)) → g' j = g j) ∧ ∀ i, i < nn (g 13) → g' (61 + 4 * i) = g (61 + 4 * i) ∧ g' (61 + 4 * i + 1) = g (61 + 4 * i + 1)
theorem OE_wth {g g' : Nat → Int32} {N : Nat} (hg : WG g N) (h : OE g g') (a : Nat) : wth g' a = wth g a := by
  have h12 := hg.2.1.2
  have e12 : g' 12 = g 12 := h.1 12 (by omega)
  have el : ∀ r, r < 20 → g' (21 + 2 * r) = g (21 + 2 * r) ∧ g' (21 + 2 * r + 1) = g (21 + 2 * r + 1) := fun r hr => ⟨h.1 _ (by omega), h.1 _ (by omega)⟩
  unfold wth
  rw [e12, lsum_congr (f := fun r => nn (g' (21 + 2 * r + 1))) (f' := fun r => nn (g (21 + 2 * r + 1))) (nn (g 12)) 0 (fun j _ hj => by
    show nn _ = nn _
    rw [(el j (by omega)).2])]
  by_cases q : nn (g 12) = 0
  · rw [if_pos q, if_pos q]
  · rw [if_neg q, if_neg q]
    exact wAt_congr _ _ _ (fun j _ hj => el j (by omega))
theorem OE_fl {g g' : Nat → Int32} {N : Nat} (hg : WG g N) (h : OE g g') : hd g' = hd g ∧ hW g' = hW g ∧ ht g' = ht g ∧ hw g' = hw g ∧ (hb g' ↔ hb g) := by
  have e0 : g' 0 = g 0 := h.1 0 (by omega)
  have e1 : g' 1 = g 1 := h.1 1 (by omega)
  have e2 : g' 2 = g 2 := h.1 2 (by omega)
  have e8 : g' 8 = g 8 := h.1 8 (by omega)
  have eD : hd g' = hd g := by unfold hd aD; rw [e0, e1, e2]
  have eW : hW g' = hW g := by
    unfold hW aW
    rw [e0]
    exact h.1 _ (by have := Nat.mod_lt (nn (g 0)) (show 0 < 24 by omega); omega)
  have ew : hw g' = hw g := by
    unfold hw
    rw [e0]
    exact OE_wth hg h _
  have eT : ht g' = ht g := by
    unfold ht
    rw [eW]
    rcases WG_W hg (nn (g 0) % 24) (Nat.mod_lt _ (by omega)) with z | ⟨i, hi6, hi, z⟩
    · have eW1 : hW g = -1 := z
      have n1 : (-1 : Int32) < 0 := by decide
      rw [eW1]
      unfold aT
      rw [kif_pos n1, kif_pos n1]
    · have eW1 : hW g = nI i := z
      have k2 := h.2 i hi
      have er : aR g' (nI i) ↔ aR g (nI i) := by
        unfold aR
        rw [nI_clamp (by omega), k2.1, k2.2]
      rw [eW1]
      unfold aT
      rw [kif_prop er]
  refine ⟨eD, eW, eT, ew, ?_⟩
  unfold hb aB
  rw [eD, ew, e0, e8]
theorem OE_H {g g' : Nat → Int32} {N : Nat} (hg : WG g N) (hg' : WG g' N) (h : OE g g') : OE (H g) (H g') := by
  obtain ⟨eD, eW, eT, ew, eb⟩ := OE_fl hg h
  have e0 : g' 0 = g 0 := h.1 0 (by omega)
  have e9 : g' 9 = g 9 := h.1 9 (by omega)
  have e8 : g' 8 = g 8 := h.1 8 (by omega)
  have e13 : g' 13 = g 13 := h.1 13 (by omega)
  have h132 := hg.2.2.1.2
  have sm : ∀ (q : Nat → Int32) {j : Nat}, (1 ≤ j ∧ j < 4) ∨ (9 ≤ j ∧ j < 15) ∨ j = 19 ∨ (21 ≤ j ∧ j < 61) → H q j = q j := fun q j hj => hG_same _ _ _ _ _ _ hj
  have pl : ∀ (q : Nat → Int32), WG q N → ∀ {i : Nat}, i < 24 → H q (85 + i) = q (85 + i) := fun q hq i hi => hG_plan _ _ _ _ _ _ (WG_W2 hq) hi hq.2.2.1.2
  refine ⟨fun j hj => ?_, fun i hi => ?_⟩
  · have c : j = 0 ∨ j = 8 ∨ ((1 ≤ j ∧ j < 4) ∨ (9 ≤ j ∧ j < 15) ∨ j = 19 ∨ (21 ≤ j ∧ j < 61)) ∨ (85 ≤ j ∧ j < 109) := by omega
    rcases c with rfl | rfl | c | c
    · rw [H_0 hg, H_0 hg', e0]
    · have z : H g 8 = _ := hG_8 g (gk g) (nn (g 14)) (nn (g 13)) (nn (g 0)) (hw g)
      have z' : H g' 8 = _ := hG_8 g' (gk g') (nn (g' 14)) (nn (g' 13)) (nn (g' 0)) (hw g')
      have b1 : aB g (nn (g 0)) (aD g (nn (g 0))) (hw g) ↔ hb g := Iff.rfl
      have b2 : aB g' (nn (g' 0)) (aD g' (nn (g' 0))) (hw g') ↔ hb g' := Iff.rfl
      rw [z, z', kif_prop b1, kif_prop b2, kif_prop eb, e0, e9, e8]
    · rw [sm g c, sm g' c]
      exact h.1 j (by omega)
    · obtain ⟨i, rfl⟩ : ∃ i, j = 85 + i := ⟨j - 85, by omega⟩
      rw [pl g hg (by omega), pl g' hg' (by omega)]
      exact h.1 _ (by omega)
  · have i13 : H g 13 = g 13 := sm g (by omega)
    rw [i13] at hi
    have k2 := h.2 i hi
    have z0 : H g (61 + 4 * i) = _ := hG_k0 g (gk g) (nn (g 14)) (nn (g 13)) (nn (g 0)) (hw g) (i := i) (by omega)
    have z0' : H g' (61 + 4 * i) = _ := hG_k0 g' (gk g') (nn (g' 14)) (nn (g' 13)) (nn (g' 0)) (hw g') (i := i) (by omega)
    have z1 : H g (61 + 4 * i + 1) = _ := hG_k1 g (gk g) (nn (g 14)) (nn (g 13)) (nn (g 0)) (hw g) hi h132
    have z1' : H g' (61 + 4 * i + 1) = _ := hG_k1 g' (gk g') (nn (g' 14)) (nn (g' 13)) (nn (g' 0)) (hw g') (i := i) (by rw [e13]; exact hi) (by rw [e13]; exact h132)
    have b1 : aB g (nn (g 0)) (aD g (nn (g 0))) (hw g) ↔ hb g := Iff.rfl
    have b2 : aB g' (nn (g' 0)) (aD g' (nn (g' 0))) (hw g') ↔ hb g' := Iff.rfl
    have t1 : aT g (aW g (nn (g 0))) = ht g := rfl
    have t2 : aT g' (aW g' (nn (g' 0))) = ht g' := rfl
    have w1 : aW g (nn (g 0)) = hW g := rfl
    have w2 : aW g' (nn (g' 0)) = hW g' := rfl
    refine ⟨by rw [z0, z0', k2.1], ?_⟩
    rw [z1, z1', kif_prop b1, kif_prop b2, kif_prop eb, t1, t2, w1, w2, eT, eW, ew]
    unfold trV
    rw [k2.2]
theorem OE_Hn : ∀ (n : Nat) (g g' : Nat → Int32) (N : Nat), WG g N → WG g' N → N + n ≤ 1000000 → OE g g' → OE (Hn n g) (Hn n g') := by
  intro n
  induction n with
  | zero => intro g g' N _ _ _ h; exact h
  | succ n ih =>
    intro g g' N hg hg' hN h
    exact ih (H g) (H g') (N + 1) (hG_ok (by omega) hg) (hG_ok (by omega) hg') (by omega) (OE_H hg hg' h)
/-! an hour by its flags -/
def dB (g : Nat → Int32) : Bool := decide (¬ hd g = 0)
noncomputable def tB (g : Nat → Int32) : Bool := decide (¬ ht g = 0)
noncomputable def bB (g : Nat → Int32) : Bool := kif (hb g) true false
def lB (g : Nat → Int32) : Bool := decide (g 6 = 1)
def uB (g : Nat → Int32) : Bool := decide (¬ g 7 = 0)
theorem OE_fl2 {g g' : Nat → Int32} {N : Nat} (hg : WG g N) (h : OE g g') : dB g' = dB g ∧ tB g' = tB g ∧ bB g' = bB g := by
  obtain ⟨eD, eW, eT, ew, eb⟩ := OE_fl hg h
  unfold dB tB bB
  rw [eD, eT, kif_prop eb]
  exact ⟨rfl, rfl, rfl⟩
theorem dB_bB (g : Nat → Int32) (h : dB g = true) : bB g = false := by
  have h1 := of_decide_eq_true h
  unfold bB
  exact kif_neg (fun z => h1 z.2.2.2)
theorem iff_b {P : Prop} [Decidable P] {b : Bool} (h : P ↔ b = true) : decide P = b := by
  cases b with
  | true => exact decide_eq_true (h.mpr rfl)
  | false => exact decide_eq_false (fun z => absurd (h.mp z) (by decide))
theorem H_lamp {g : Nat → Int32} {N : Nat} (hg : WG g N) : lB (H g) = oL (nn (g 3)) (dB g) (tB g) (lB g) (uB g) (nn (g 4)) ∧ uB (H g) = ((oL (nn (g 3)) (dB g) (tB g) (lB g) (uB g) (nn (g 4))) && !(tB g)) ∧ nn (H g 4) = oA (nn (g 3)) (nn (g 10)) (oL (nn (g 3)) (dB g) (tB g) (lB g) (uB g) (nn (g 4))) (bB g) (nn (g 4)) ∧ H g 16 = g 16 + nI (oN (dB g && !(oL (nn (g 3)) (dB g) (tB g) (lB g) (uB g) (nn (g 4))))) ∧ H g 3 = g 3 ∧ H g 10 = g 10 := by
  obtain ⟨r3, p3, r4, r5, r6, r7, r10, r11⟩ := hg.2.2.2.2.2.2.1
  have a3 := r3.2
  have a4 := r4.2
  have a10 := r10.2
  have hlt := rg_lt r4 r3 (by omega) (by omega)
  have z4 : H g 4 = _ := hG_4 g (gk g) (nn (g 14)) (nn (g 13)) (nn (g 0)) (hw g)
  have z6 : H g 6 = _ := hG_6 g (gk g) (nn (g 14)) (nn (g 13)) (nn (g 0)) (hw g)
  have z7 : H g 7 = _ := hG_7 g (gk g) (nn (g 14)) (nn (g 13)) (nn (g 0)) (hw g)
  have z16 : H g 16 = _ := hG_16 g (gk g) (nn (g 14)) (nn (g 13)) (nn (g 0)) (hw g)
  have b1 : aB g (nn (g 0)) (aD g (nn (g 0))) (hw g) ↔ hb g := Iff.rfl
  have d1 : aD g (nn (g 0)) = hd g := rfl
  have t1 : aT g (aW g (nn (g 0))) = ht g := rfl
  rw [kif_prop b1, d1, t1] at z4
  rw [d1, t1] at z6 z7 z16
  -- lit?
  obtain ⟨L, hL⟩ : ∃ L, L = oL (nn (g 3)) (dB g) (tB g) (lB g) (uB g) (nn (g 4)) := ⟨_, rfl⟩
  rw [← hL]
  have cond : (¬ hd g = 0 ∧ (¬ ht g = 0 ∨ (g 6 = 1 ∧ g 7 = 0)) ∧ ¬ g 4 < g 3) ↔ L = true := by
    rw [hL, hlt]
    unfold oL dB tB lB uB
    by_cases c1 : hd g = 0 <;> by_cases c2 : ht g = 0 <;> by_cases c3 : g 6 = 1 <;> by_cases c4 : g 7 = 0 <;> simp [c1, c2, c3, c4]
  have eL : aL g (hd g) (ht g) = nI (oN L) := by
    unfold aL
    cases hc : L with
    | true => rw [if_pos (cond.mpr hc)]; rfl
    | false => rw [if_neg (fun z => by have y := cond.mp z; rw [hc] at y; exact absurd y (by decide))]; rfl
  refine ⟨?_, ?_, ?_, ?_, hG_same _ _ _ _ _ _ (by omega), hG_same _ _ _ _ _ _ (by omega)⟩
  · show decide (H g 6 = 1) = L
    rw [z6, eL]
    cases L <;> decide
  · show decide (¬ H g 7 = 0) = (L && !(tB g))
    rw [z7, eL]
    unfold tB
    by_cases c2 : ht g = 0
    · cases L
      · simp [c2, oN]
        decide
      · rw [if_pos ⟨by decide, c2⟩]
        simp [c2]
    · rw [if_neg (fun z => c2 z.2)]
      cases L <;> simp [c2]
  · have eO : aO g (hd g) (ht g) = nI (bif L then nn (g 4) - nn (g 3) else nn (g 4)) := by
      unfold aO
      rw [eL]
      cases hc : L with
      | false => exact r4.1
      | true =>
        have nl := (cond.mpr hc).2.2
        rw [hlt] at nl
        rw [if_neg (by decide)]
        show g 4 - g 3 = nI (nn (g 4) - nn (g 3))
        have e := (rg_sub r4 r3 (by omega)).resolve_right (by omega)
        rw [e.1.1, e.2]
    have hle : (bif L then nn (g 4) - nn (g 3) else nn (g 4)) ≤ 9999 := by
      cases L
      · exact a4
      · exact Nat.le_trans (Nat.sub_le _ _) a4
    rw [z4, eO]
    unfold oA bB
    generalize (bif L then nn (g 4) - nn (g 3) else nn (g 4)) = A at *
    by_cases hbb : hb g
    · rw [kif_pos hbb, kif_pos hbb]
      have ea := rg_add (rg_nI hle (by omega)) r10 (by omega)
      have em := rg_mn9 ea.1 (by omega)
      rw [em.2, ea.2, nn_nI (by omega)]
      show _ = min 9999 (A + nn (g 10))
      split <;> omega
    · rw [kif_neg hbb, kif_neg hbb, nn_nI (by omega)]
      rfl
  · rw [z16, eL]
    unfold dB
    by_cases c1 : hd g = 0
    · rw [if_neg (fun z => z.1 c1)]
      simp [c1, oN]
      exact (Int32.add_zero _).symm
    · cases L
      · rw [if_pos ⟨c1, by decide⟩]
        simp [c1, oN]
        rfl
      · rw [if_neg (fun z => absurd z.2 (by decide))]
        simp [c1, oN]
        exact (Int32.add_zero _).symm

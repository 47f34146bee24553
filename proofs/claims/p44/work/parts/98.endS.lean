/-! the hour's end, of the class's station, is the array's -/
theorem ehX_app (Y : kI) (o c : Nat) {t2 o2 j : Nat} (h : ¬ (t2 = 6 ∧ o2 = o ∧ j = 4)) : ehX Y o c t2 o2 j = kif (bF Y o) (mbX (shW Y o c) o c t2 o2 j) (shW Y o c t2 o2 j) := by
  unfold ehX
  rw [kw_at _ _ h]
  by_cases q : bF Y o
  · rw [kif_pos q, kif_pos q]
  · rw [kif_neg q, kif_neg q]
theorem ehX_4 (Y : kI) (o c : Nat) : ehX Y o c 6 o 4 = Y 6 o 4 + 1 := by
  unfold ehX
  rw [kw_app, if_pos ⟨rfl, rfl, rfl⟩]
theorem ehX_ne (Y : kI) (o c : Nat) {t2 o2 : Nat} (j : Nat) (h : ¬ (o2 = o ∧ (t2 = 0 ∨ t2 = 6 ∨ t2 = 22 ∨ t2 = 23 ∨ t2 = 24))) : ehX Y o c t2 o2 j = Y t2 o2 j := by
  rw [ehX_app _ _ _ (fun q => h ⟨q.2.1, by omega⟩)]
  have e1 : shW Y o c t2 o2 j = Y t2 o2 j := by
    unfold shW
    rw [shX_app, if_neg (fun q => h ⟨q.1, by omega⟩), if_neg (fun q => h ⟨q.1, by omega⟩), if_neg (fun q => h ⟨q.1, by omega⟩)]
  have e2 : mbX (shW Y o c) o c t2 o2 j = Y t2 o2 j := by
    rw [mbX_app, if_neg (fun q => h ⟨q.2.1, by omega⟩), if_neg (fun q => h ⟨q.2.1, by omega⟩), if_neg (fun q => h ⟨q.2.1, by omega⟩), if_neg (fun q => h ⟨q.2.1, by omega⟩), if_neg (fun q => h ⟨q.2.1, by omega⟩), e1]
  rw [e1, e2]
  by_cases q : bF Y o
  · rw [kif_pos q]
  · rw [kif_neg q]
theorem shW_ne (Y : kI) (o c : Nat) {t2 : Nat} (o2 j : Nat) (h1 : ¬ t2 = 22) (h2 : ¬ t2 = 23) (h3 : ¬ t2 = 24) : shW Y o c t2 o2 j = Y t2 o2 j := shX_ne _ _ _ _ _ _ _ _ h1 h2 h3
theorem kif_id {α : Type _} {P : Prop} {a : α} : kif P a a = a := by
  by_cases q : P
  · rw [kif_pos q]
  · rw [kif_neg q]
theorem kif_prop {α : Type _} {P Q : Prop} {a b : α} (h : P ↔ Q) : kif P a b = kif Q a b := by rw [propext h]
theorem nI_m1' (i : Nat) (hi : i < 2147483648) : ¬ nI i = -1 := fun q => by
  have n1 : (-1 : Int32) < 0 := by decide
  rw [← q] at n1
  exact i_nlt0 i hi n1
theorem lsum_congr {f f' : Nat → Nat} : ∀ n i, (∀ j, i ≤ j → j < i + n → f j = f' j) → lsum f i n = lsum f' i n := by
  intro n
  induction n with
  | zero => intro i _; rfl
  | succ n ih =>
    intro i h
    rw [lsum, lsum, h i (by omega) (by omega), ih (i + 1) (fun j h1 h2 => h j (by omega) (by omega))]
theorem CS_end {I Y : kI} {o : Nat} {g : Nat → Int32} {N : Nat} (hg : WG g N) (h : CS I o g) (hK : KP Y o g) (hY : ∀ t j, stT t → ¬ t = 6 → Y t o j = I t o j) : CS (ehX Y o (nn (g 13))) o (H g) := by
  have hWW := WG_W2 hg
  have h0 := hg.1
  have h12 := hg.2.1.2
  have h132 := hg.2.2.1.2
  have h142 := hg.2.2.2.1.2
  unfold stT at hY
  obtain ⟨s1, s2, s3, s4, s5, s6, s7, s8, s9⟩ := h
  obtain ⟨k1, k12, k13, k14, k15, k10, k11, k8, k9, k16⟩ := hK
  have z0 : ∀ j, j < 4 → Y 0 o j = g (8 + j) := fun j hj => by rw [hY _ _ (by omega) (by omega)]; exact s2 j hj
  have y4 : Y 6 o 4 = g 0 := k1 4 (by omega) (by omega)
  have hB : bF Y o ↔ aB g (nn (g 0)) (aD g (nn (g 0))) (hw g) := by
    unfold bF aB
    rw [z0 0 (by omega), y4, k12, k13, ← h0.1]
    exact Iff.rfl
  have sm : ∀ {j : Nat}, (1 ≤ j ∧ j < 4) ∨ (9 ≤ j ∧ j < 15) ∨ j = 19 ∨ (21 ≤ j ∧ j < 61) → H g j = g j := fun hj => hG_same _ _ _ _ _ _ hj
  have e12 : H g 12 = g 12 := sm (by omega)
  have e13 : H g 13 = g 13 := sm (by omega)
  have sh6 : ∀ j, shW Y o (nn (g 13)) 6 o j = Y 6 o j := fun j => shW_ne _ _ _ _ _ (by omega) (by omega) (by omega)
  have sh0 : ∀ j, shW Y o (nn (g 13)) 0 o j = Y 0 o j := fun j => shW_ne _ _ _ _ _ (by omega) (by omega) (by omega)
  refine ⟨fun j hj => ?_, fun j hj => ?_, ?_, ?_, ?_, ?_, ?_, ?_, ?_⟩
  · have c : j = 0 ∨ (1 ≤ j ∧ j < 4) ∨ j = 4 ∨ j = 5 ∨ j = 6 ∨ j = 7 := by omega
    rcases c with rfl | c | rfl | rfl | rfl | rfl
    · show ehX Y o (nn (g 13)) 6 o 4 = _
      have e : H g 0 = _ := hG_0 g (gk g) (nn (g 14)) (nn (g 13)) (nn (g 0)) (hw g)
      rw [ehX_4, y4, e, ← h0.1]
    · have e : H g j = g j := sm (by omega)
      rw [ehX_app _ _ _ (by omega), mbX_app, if_neg (by omega), if_neg (by omega), if_neg (by omega), if_neg (by omega), if_neg (by omega), kif_id, sh6, e, k1 (4 + j) (by omega) (by omega), show 4 + j - 4 = j by omega]
    · have e : H g 4 = _ := hG_4 g (gk g) (nn (g 14)) (nn (g 13)) (nn (g 0)) (hw g)
      show ehX Y o (nn (g 13)) 6 o 8 = _
      rw [ehX_app _ _ _ (by omega), mbX_app, if_pos ⟨rfl, rfl, rfl⟩, sh6, sh0, z0 2 (by omega), k8, e, kif_prop hB]
      simp only [hd, ht, hW]
    · have e : H g 5 = _ := hG_5 g (gk g) (nn (g 14)) (nn (g 13)) (nn (g 0)) (hw g)
      show ehX Y o (nn (g 13)) 6 o 9 = _
      rw [ehX_app _ _ _ (by omega), mbX_app, if_neg (by omega), if_pos ⟨rfl, rfl, rfl⟩, sh6, sh0, z0 3 (by omega), k9, e, kif_prop hB]
      simp only [ht, hW]
    · have e : H g 6 = _ := hG_6 g (gk g) (nn (g 14)) (nn (g 13)) (nn (g 0)) (hw g)
      show ehX Y o (nn (g 13)) 6 o 10 = _
      rw [ehX_app _ _ _ (by omega), mbX_app, if_neg (by omega), if_neg (by omega), if_neg (by omega), if_neg (by omega), if_neg (by omega), kif_id, sh6, e, k10]
      simp only [hd, ht, hW]
    · have e : H g 7 = _ := hG_7 g (gk g) (nn (g 14)) (nn (g 13)) (nn (g 0)) (hw g)
      show ehX Y o (nn (g 13)) 6 o 11 = _
      rw [ehX_app _ _ _ (by omega), mbX_app, if_neg (by omega), if_neg (by omega), if_neg (by omega), if_neg (by omega), if_neg (by omega), kif_id, sh6, e, k11]
      rfl
  · rw [ehX_app _ _ _ (by omega)]
    by_cases c : j = 0
    · subst c
      have e : H g 8 = _ := hG_8 g (gk g) (nn (g 14)) (nn (g 13)) (nn (g 0)) (hw g)
      rw [mbX_app, if_neg (by omega), if_neg (by omega), if_neg (by omega), if_pos ⟨rfl, rfl, rfl⟩, sh6, sh0, sh0, z0 0 (by omega), z0 1 (by omega), y4, e, kif_prop hB, ← h0.1]
    · have e : H g (8 + j) = g (8 + j) := sm (by omega)
      rw [mbX_app, if_neg (by omega), if_neg (by omega), if_neg (by omega), if_neg (by omega), if_neg (by omega), kif_id, sh0, e, z0 j hj]
  · have e : H g 18 = _ := hG_18 g (gk g) (nn (g 14)) (nn (g 13)) (nn (g 0)) (hw g)
    have y18 : Y 0 o 4 = g 18 := by rw [hY _ _ (by omega) (by omega)]; exact s3
    rw [ehX_app _ _ _ (by omega), mbX_app, if_neg (by omega), if_neg (by omega), if_neg (by omega), if_neg (by omega), if_pos ⟨rfl, rfl, rfl⟩, sh0, y18, e, kif_prop hB]
  · rw [ehX_ne _ _ _ _ (by omega), hY _ _ (by omega) (by omega), e12]
    exact s4
  · rw [ehX_ne _ _ _ _ (by omega), hY _ _ (by omega) (by omega), e12, s5]
    refine congrArg nI (lsum_congr _ _ (fun x _ hx => ?_))
    have e : H g (21 + 2 * x + 1) = g (21 + 2 * x + 1) := sm (by omega)
    show nn _ = nn _
    rw [e]
  · rw [e12]
    intro r hr
    have e1 : H g (21 + 2 * r) = g (21 + 2 * r) := sm (by omega)
    have e2 : H g (21 + 2 * r + 1) = g (21 + 2 * r + 1) := sm (by omega)
    rw [ehX_ne _ _ _ _ (by omega), ehX_ne _ _ _ _ (by omega), hY _ _ (by omega) (by omega), hY _ _ (by omega) (by omega), e1, e2]
    exact s6 r hr
  · rw [ehX_ne _ _ _ _ (by omega), hY _ _ (by omega) (by omega), e13]
    exact s7
  · rw [e13]
    intro i hi
    obtain ⟨c0, c1, c2, c3, c4⟩ := s8 i hi
    have e0 : H g (61 + 4 * i) = _ := hG_k0 g (gk g) (nn (g 14)) (nn (g 13)) (nn (g 0)) (hw g) (i := i) (by omega)
    have e1 : H g (61 + 4 * i + 1) = _ := hG_k1 g (gk g) (nn (g 14)) (nn (g 13)) (nn (g 0)) (hw g) hi h132
    have e2 : H g (61 + 4 * i + 2) = _ := (hG_k2 g (gk g) (nn (g 14)) (nn (g 13)) (nn (g 0)) (hw g) (i := i) (by omega)).1
    have e3 : H g (61 + 4 * i + 3) = _ := (hG_k2 g (gk g) (nn (g 14)) (nn (g 13)) (nn (g 0)) (hw g) (i := i) (by omega)).2
    have y22 : Y 22 o i = g (61 + 4 * i + 1) := by rw [hY _ _ (by omega) (by omega)]; exact c2
    have y23 : Y 23 o i = g (61 + 4 * i + 2) := by rw [hY _ _ (by omega) (by omega)]; exact c3
    have y24 : Y 24 o i = g (61 + 4 * i + 3) := by rw [hY _ _ (by omega) (by omega)]; exact c4
    have eW : hW g = aW g (nn (g 0)) := rfl
    have eT : ht g = aT g (aW g (nn (g 0))) := rfl
    rw [e0, e1, e2, e3]
    refine ⟨?_, ?_, ?_, ?_, ?_⟩
    · rw [ehX_ne _ _ _ _ (by omega), hY _ _ (by omega) (by omega)]; exact c0
    · rw [ehX_ne _ _ _ _ (by omega), hY _ _ (by omega) (by omega)]; exact c1
    · rw [ehX_app _ _ _ (by omega), mbX_app, if_neg (by omega), if_neg (by omega), if_pos ⟨rfl, rfl, hi⟩, kif_prop hB]
      have cg : ∀ (P : Prop) (x y : Int32), x = y → kif P (0 : Int32) x = kif P 0 y := fun P x y q => by rw [q]
      refine cg _ _ _ ?_
      unfold shW
      rw [shX_app, if_pos ⟨rfl, hi, rfl⟩, k14, k15, k12]
      unfold shT trV whM
      rw [y22, eW, eT]
      by_cases ht0 : aT g (aW g (nn (g 0))) = 0
      · rw [kif_pos ht0, if_neg (fun q => q.2 ht0), if_neg (nI_m1' i (by omega))]
      · rw [kif_neg ht0]
        by_cases hi2 : nI i = aW g (nn (g 0))
        · rw [if_pos ⟨hi2, ht0⟩, if_pos hi2]
          by_cases w2 : hw g = 2
          · rw [if_pos w2, if_pos w2]
          · rw [if_neg w2, if_neg w2]
        · rw [if_neg (fun q => hi2 q.1), if_neg hi2]
    · rw [ehX_app _ _ _ (by omega), mbX_app, if_neg (by omega), if_neg (by omega), if_neg (by omega), if_neg (by omega), if_neg (by omega), kif_id]
      unfold shW
      rw [shX_app, if_neg (by omega), if_pos ⟨rfl, hi, rfl⟩, k14, k15]
      unfold shN
      rw [y23]
      rfl
    · rw [ehX_app _ _ _ (by omega), mbX_app, if_neg (by omega), if_neg (by omega), if_neg (by omega), if_neg (by omega), if_neg (by omega), kif_id]
      unfold shW
      rw [shX_app, if_neg (by omega), if_neg (by omega), if_pos ⟨rfl, hi, rfl⟩, k14, k15]
      unfold shS
      rw [y24, eW, eT]
      by_cases hi2 : nI i = aW g (nn (g 0))
      · by_cases ht0 : aT g (aW g (nn (g 0))) = 0
        · rw [if_neg (fun q => q.2 ht0), if_pos hi2, if_pos ⟨hi2, ht0⟩]
        · rw [if_pos ⟨hi2, ht0⟩, if_neg (fun q => ht0 q.2)]
      · rw [if_neg (fun q => hi2 q.1), if_neg hi2, if_neg (fun q => hi2 q.1)]
        exact Int32.add_zero _
  · intro i hi
    have e : H g (85 + i) = g (85 + i) := hG_plan _ _ _ _ _ _ hWW hi h132
    rw [ehX_ne _ _ _ _ (by omega), hY _ _ (by omega) (by omega), e]
    exact s9 i hi

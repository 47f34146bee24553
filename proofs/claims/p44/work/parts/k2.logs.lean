/-! what the log holds -/
noncomputable def cl (p : Nat) : List (Int32 × Int32) → Nat
  | [] => 0
  | q :: l => kif (q.1 = nI p) 1 0 + cl p l
theorem cl_app (p : Nat) : ∀ l l' : List (Int32 × Int32), cl p (l ++ l') = cl p l + cl p l' := by
  intro l
  induction l with
  | nil => intro l'; rw [List.nil_append, cl, Nat.zero_add]
  | cons q l ih => intro l'; rw [List.cons_append, cl, cl, ih, Nat.add_assoc]
def EP (P : Int32 → Int32 → Int32 → Prop) (g : Nat → Int32) : Prop := ∀ e, e < nn (g 15) → P (g (909 + 4 * e)) (g (909 + 4 * e + 1)) (g (909 + 4 * e + 3))
theorem EP_logG {P : Int32 → Int32 → Int32 → Prop} {g : Nat → Int32} (h4 : rg (g 15) 400) (a b w : Int32) (h : EP P g) (hn : P (g 0) a w) : EP P (logG g a b w) ∧ rg (logG g a b w 15) 400 ∧ ∀ p, cS (logG g a b w) p ≤ cS g p + kif (a = nI p) 1 0 := by
  have h42 := h4.2
  by_cases hq : (400 : Int32) ≤ g 15
  · have e : logG g a b w = g := by unfold logG; rw [if_pos hq]
    rw [e]
    exact ⟨h, h4, fun p => Nat.le_add_right _ _⟩
  · have hlt : nn (g 15) < 400 := by
      rw [h4.1] at hq
      have q : ¬ nI 400 ≤ nI (nn (g 15)) := hq
      rw [i_le (by omega) (by omega)] at q
      omega
    have e : ∀ j, logG g a b w j = if j = 15 then g 15 + 1 else if j = 909 + 4 * nn (g 15) + 3 then w else if j = 909 + 4 * nn (g 15) + 2 then b else if j = 909 + 4 * nn (g 15) + 1 then a else if j = 909 + 4 * nn (g 15) then g 0 else g j := fun j => by unfold logG; rw [if_neg hq]
    have e15 : logG g a b w 15 = nI (nn (g 15) + 1) := by
      rw [e, if_pos rfl, ← nI_1, ← h4.1]
    have n0 : logG g a b w (909 + 4 * nn (g 15)) = g 0 := by rw [e, if_neg (by omega), if_neg (by omega), if_neg (by omega), if_neg (by omega), if_pos rfl]
    have n1 : logG g a b w (909 + 4 * nn (g 15) + 1) = a := by rw [e, if_neg (by omega), if_neg (by omega), if_neg (by omega), if_pos rfl]
    have n3 : logG g a b w (909 + 4 * nn (g 15) + 3) = w := by rw [e, if_neg (by omega), if_pos rfl]
    have o2 : ∀ x y, x < nn (g 15) → y < 4 → logG g a b w (909 + 4 * x + y) = g (909 + 4 * x + y) := fun x y hx hy => by
      rw [e, if_neg (by omega), if_neg (by omega), if_neg (by omega), if_neg (by omega), if_neg (by omega)]
    refine ⟨fun x hx => ?_, by rw [e15]; exact rg_nI (by omega) (by omega), fun p => ?_⟩
    · rw [e15, nn_nI (by omega)] at hx
      by_cases q : x = nn (g 15)
      · rw [q, n0, n1, n3]
        exact hn
      · have z0 := o2 x 0 (by omega) (by omega)
        rw [Nat.add_zero] at z0
        rw [z0, o2 x 1 (by omega) (by omega), o2 x 3 (by omega) (by omega)]
        exact h x (by omega)
    · unfold cS
      rw [e15, nn_nI (by omega), lsum_app, Nat.zero_add, n1]
      have c := lsum_congr (f := fun e => kif (logG g a b w (909 + 4 * e + 1) = nI p) 1 0) (f' := fun e => kif (g (909 + 4 * e + 1) = nI p) 1 0) (nn (g 15)) 0 (fun x _ hx => by
        show kif _ 1 0 = kif _ 1 0
        rw [o2 x 1 (by omega) (by omega)])
      rw [c]
      exact Nat.le_refl _
theorem EP_logL {P : Int32 → Int32 → Int32 → Prop} (w : Int32) : ∀ (l : List (Int32 × Int32)) {g : Nat → Int32}, rg (g 15) 400 → EP P g → (∀ q, q ∈ l → P (g 0) q.1 w) → EP P (logL g w l) ∧ rg (logL g w l 15) 400 ∧ ∀ p, cS (logL g w l) p ≤ cS g p + cl p l := by
  intro l
  induction l with
  | nil => intro g h4 h _; exact ⟨h, h4, fun p => Nat.le_add_right _ _⟩
  | cons q l ih =>
    intro g h4 h hl
    obtain ⟨a1, a2, a3⟩ := EP_logG h4 q.1 q.2 w h (hl q List.mem_cons_self)
    obtain ⟨b1, b2, b3⟩ := ih a2 a1 (fun x hx => by rw [logG_0]; exact hl x (List.mem_cons_of_mem _ hx))
    refine ⟨b1, b2, fun p => ?_⟩
    have c1 := a3 p
    have c2 := b3 p
    show cS (logL (logG g q.1 q.2 w) w l) p ≤ cS g p + (kif (q.1 = nI p) 1 0 + cl p l)
    omega
/-- the hour's entries -/
noncomputable def hEE (g : Nat → Int32) : List (Int32 × Int32) := hE g (gk g) (hd g) (hw g) (hW g) (ht g) (aA g (hW g)) (hl g)
theorem H_log {g : Nat → Int32} {N : Nat} (hg : WG g N) {j : Nat} (hj : j = 15 ∨ 909 ≤ j) : H g j = logL g (hW g) (hEE g) j := by
  have e := hG_log g (gk g) (nn (g 14)) (nn (g 13)) (nn (g 0)) (hw g) (WG_W2 hg) hg.2.2.2.1.2 hg.2.2.1.2 hg.1.1 hj
  rw [← hg.1.1] at e
  exact e
theorem EP_H {P : Int32 → Int32 → Int32 → Prop} {g : Nat → Int32} {N : Nat} (hg : WG g N) (h : EP P g) (hn : ∀ q, q ∈ hEE g → P (g 0) q.1 (hW g)) : EP P (H g) ∧ ∀ p, cS (H g) p ≤ cS g p + cl p (hEE g) := by
  obtain ⟨a1, a2, a3⟩ := EP_logL (hW g) (hEE g) hg.2.2.2.2.2.2.2.2.2.1 h hn
  have e15 := H_log hg (j := 15) (by omega)
  refine ⟨fun e he => ?_, fun p => ?_⟩
  · rw [e15] at he
    rw [H_log hg (by omega), H_log hg (by omega), H_log hg (by omega)]
    exact a1 e he
  · refine Nat.le_trans (Nat.le_of_eq ?_) (a3 p)
    unfold cS
    rw [e15]
    exact lsum_congr _ _ (fun x _ _ => by
      show kif _ 1 0 = kif _ 1 0
      rw [H_log hg (by omega)])
theorem cl_zero (p : Nat) : ∀ l : List (Int32 × Int32), (∀ q, q ∈ l → ¬ q.1 = nI p) → cl p l = 0 := by
  intro l
  induction l with
  | nil => intro _; rfl
  | cons q l ih =>
    intro h
    rw [cl, kif_neg (h q List.mem_cons_self), ih (fun x hx => h x (List.mem_cons_of_mem _ hx))]
theorem aT_A {g : Nat → Int32} {W : Int32} (h : ¬ aT g W = 0) : aA g W = 0 := by
  unfold aT at h
  unfold aA
  by_cases q : W < 0
  · rw [kif_pos q]
  · rw [kif_neg q] at h ⊢
    by_cases r : aR g W
    · rw [kif_pos r]
    · rw [kif_neg r] at h
      exact absurd rfl h
theorem aA_ge {g : Nat → Int32} {W : Int32} (h : ¬ aA g W = 0) : ¬ W < 0 := fun n => h (by unfold aA; rw [kif_pos n])
theorem ft_4 (k : Nat) (d l w s : Int32) : ∃ f, f ≤ 2 ∧ ft k d l w s = nI f := by
  have q := ft_rg k d l w s
  exact ⟨_, q.2, q.1⟩
/-- what an entry is -/
theorem hEE_mem {g : Nat → Int32} {q : Int32 × Int32} (h : q ∈ hEE g) : (¬ ht g = 0 ∧ ¬ hd g = 0 ∧ q.1 = (if aL g (hd g) (ht g) = 1 then 1 else 2)) ∨ q.1 = 3 ∨ (¬ aA g (hW g) = 0 ∧ g (61 + 4 * nn (hW g)) = 2 ∧ ¬ hd g = 0 ∧ q.1 = 1) ∨ ∃ f, f ≤ 2 ∧ q.1 = nI (4 + f) := by
  unfold hEE hE at h
  rcases List.mem_append.mp h with h | h
  · rcases List.mem_append.mp h with h | h
    · rcases List.mem_append.mp h with h | h
      · unfold eA at h
        split at h
        · rename_i z
          rw [List.mem_singleton.mp h]
          exact Or.inl ⟨z.1, z.2, rfl⟩
        · exact absurd h List.not_mem_nil
      · unfold eB at h
        split at h
        · exact absurd h List.not_mem_nil
        · rw [List.mem_singleton.mp h]
          exact Or.inr (Or.inl rfl)
    · unfold eC at h
      split at h
      · rename_i z
        rw [List.mem_singleton.mp h]
        exact Or.inr (Or.inr (Or.inl ⟨z.1, z.2.1, z.2.2, rfl⟩))
      · exact absurd h List.not_mem_nil
  · split at h
    · exact absurd h List.not_mem_nil
    · obtain ⟨s, _, rfl⟩ := List.mem_map.mp h
      obtain ⟨f, h1, h2⟩ := ft_4 (gk g s) (hd g) (aL g (hd g) (ht g)) (hw g) (aS g (hw g) (ht g))
      refine Or.inr (Or.inr (Or.inr ⟨f, h1, ?_⟩))
      show 4 + _ = _
      rw [h2]
      exact nI_add 4 f
theorem nI_n {a b : Nat} (ha : a < 2147483648) (hb : b < 2147483648) (h : ¬ a = b) : ¬ nI a = nI b := fun q => h (nI_inj ha hb q)
theorem cl_12 (g : Nat → Int32) : cl 1 (hEE g) + cl 2 (hEE g) ≤ nn (hd g) := by
  have dd := aD_01 g (nn (g 0))
  have z3 : ∀ p, p = 1 ∨ p = 2 → ∀ (P : Prop) [Decidable P] (l : List Nat) (f : Nat → Int32), (∀ s, ∃ x, x ≤ 2 ∧ f s = nI x) → cl p (if P then [] else l.map fun s => (4 + f s, nI s)) = 0 := fun p hp P _ l f hf => cl_zero p _ (fun q hq => by
    split at hq
    · exact absurd hq List.not_mem_nil
    · obtain ⟨s, _, rfl⟩ := List.mem_map.mp hq
      obtain ⟨x, h1, h2⟩ := hf s
      show ¬ 4 + f s = nI p
      rw [h2, show (4 : Int32) + nI x = nI (4 + x) from nI_add 4 x]
      exact nI_n (by omega) (by omega) (by omega))
  have zB : ∀ p, p = 1 ∨ p = 2 → ∀ s, cl p (eB s) = 0 := fun p hp s => cl_zero p _ (fun q hq => by
    unfold eB at hq
    split at hq
    · exact absurd hq List.not_mem_nil
    · rw [List.mem_singleton.mp hq]
      exact nI_n (a := 3) (by omega) (by omega) (by omega))
  unfold hEE hE
  rw [cl_app, cl_app, cl_app, cl_app, cl_app, cl_app, zB 1 (by omega), zB 2 (by omega), z3 1 (by omega) _ _ _ (fun s => ft_4 _ _ _ _ _), z3 2 (by omega) _ _ _ (fun s => ft_4 _ _ _ _ _)]
  have n12 : ¬ (1 : Int32) = nI 2 := by decide
  have n21 : ¬ (2 : Int32) = nI 1 := by decide
  have one : ∀ x : Int32, cl 1 [((if x = 1 then (1 : Int32) else 2), -1)] + cl 2 [((if x = 1 then (1 : Int32) else 2), -1)] = 1 := fun x => by
    rw [cl, cl, cl, cl]
    by_cases q : x = 1
    · rw [if_pos q, kif_pos (show ((1 : Int32), (-1 : Int32)).1 = nI 1 from rfl), kif_neg n12]
    · rw [if_neg q, kif_neg n21, kif_pos (show ((2 : Int32), (-1 : Int32)).1 = nI 2 from rfl)]
  have oneC : cl 1 [((1 : Int32), (-1 : Int32))] + cl 2 [((1 : Int32), (-1 : Int32))] = 1 := one 1
  by_cases d0 : hd g = 0
  · have eA0 : ∀ x t, eA x t (hd g) = [] := fun x t => by unfold eA; rw [if_neg (fun z => z.2 d0)]
    have eC0 : ∀ x a, eC x a (hd g) = [] := fun x a => by unfold eC; rw [if_neg (fun z => z.2.2 d0)]
    rw [eA0, eC0, cl, cl]
    omega
  · have d1 : nn (hd g) = 1 := by
      have := dd.resolve_left d0
      show nn (aD g (nn (g 0))) = 1
      rw [this]
      exact nn_nI (n := 1) (by omega)
    rw [d1]
    by_cases t0 : ht g = 0
    · have eA0 : ∀ x, eA x (ht g) (hd g) = [] := fun x => by unfold eA; rw [if_neg (fun z => z.1 t0)]
      rw [eA0, cl, cl]
      unfold eC
      split
      · omega
      · rw [cl, cl]; omega
    · have a0 : aA g (hW g) = 0 := aT_A t0
      have eC0 : ∀ x, eC x (aA g (hW g)) (hd g) = [] := fun x => by unfold eC; rw [if_neg (fun z => z.1 a0)]
      rw [eC0, cl, cl]
      unfold eA
      rw [if_pos ⟨t0, d0⟩]
      have := one (aL g (hd g) (ht g))
      omega
noncomputable def ctN (f : Nat → Int32) (p : Nat) : List Nat → Nat
  | [] => 0
  | s :: l => kif (f s = nI p) 1 0 + ctN f p l
theorem ctN_len (f : Nat → Int32) (p : Nat) : ∀ l : List Nat, ctN f p l ≤ l.length := by
  intro l
  induction l with
  | nil => exact Nat.le_refl _
  | cons s l ih =>
    rw [ctN, List.length_cons]
    by_cases q : f s = nI p
    · rw [kif_pos q]; omega
    · rw [kif_neg q]; omega
theorem ctL_N (f : Nat → Int32) (p : Nat) : ∀ l : List Nat, ctL f (nI p) l = nI (ctN f p l) := by
  intro l
  induction l with
  | nil => rfl
  | cons s l ih =>
    rw [ctL, ctN, ih]
    by_cases q : f s = nI p
    · rw [if_pos q, kif_pos q]
      exact nI_add 1 _
    · rw [if_neg q, kif_neg q]
      exact nI_add 0 _
theorem cB_N (f : Nat → Int32) (p : Nat) : ∀ n, cB f (nI p) n = nI (lsum (fun s => kif (f s = nI p) 1 0) 0 n) := by
  intro n
  induction n with
  | zero => rfl
  | succ n ih =>
    rw [cB, ih, lsum_app, Nat.zero_add]
    by_cases q : f n = nI p
    · rw [if_pos q, kif_pos q]
      exact nI_add _ 1
    · rw [if_neg q, kif_neg q]
      exact nI_add _ 0
theorem B_N (g : Nat → Int32) (f : Nat) : B (nI f) g = nI (cM g f) := cB_N _ _ _
theorem cM_le (g : Nat → Int32) (f : Nat) : cM g f ≤ nn (g 14) := by
  have q := lsum_le (fun s => kif (g (109 + 4 * s + 2) = nI f) 1 0) 1 (nn (g 14)) 0 (fun j _ _ => by
    by_cases q : g (109 + 4 * j + 2) = nI f
    · show kif _ 1 0 ≤ 1
      rw [kif_pos q]; omega
    · show kif _ 1 0 ≤ 1
      rw [kif_neg q]; omega)
  unfold cM
  omega
theorem cM_H {g : Nat → Int32} {N : Nat} (hN : N < 1000000) (hg : WG g N) (f : Nat) (hf2 : f ≤ 2) : cM (H g) f = cM g f + ctN (hf g) f (hl g) := by
  have e := B_H (show N < 2147483647 by omega) hg (what := nI f) (fun z => nI_m1' f (by omega) z.symm)
  rw [B_N, B_N, ctL_N, nI_add] at e
  have h142 := hg.2.2.2.1.2
  have l1 := ctN_len (hf g) f (hl g)
  have l2 := rkK_len g (g 0) (nn (g 14)) 5
  have l3 := cM_le g f
  have l4 := cM_le (H g) f
  rw [H_14] at l4
  have l5 : (hl g).length = (rkK g (g 0) (nn (g 14)) 5).length := rfl
  exact nI_inj (by omega) (by omega) e
theorem cl_f (g : Nat → Int32) (f : Nat) (hf2 : f ≤ 2) : cl (4 + f) (hEE g) ≤ ctN (hf g) f (hl g) := by
  have zA : ∀ x t d, cl (4 + f) (eA x t d) = 0 := fun x t d => cl_zero _ _ (fun q hq => by
    unfold eA at hq
    split at hq
    · rw [List.mem_singleton.mp hq]
      show ¬ (if x = 1 then (1 : Int32) else 2) = _
      split
      · exact nI_n (a := 1) (by omega) (by omega) (by omega)
      · exact nI_n (a := 2) (by omega) (by omega) (by omega)
    · exact absurd hq List.not_mem_nil)
  have zB : ∀ s, cl (4 + f) (eB s) = 0 := fun s => cl_zero _ _ (fun q hq => by
    unfold eB at hq
    split at hq
    · exact absurd hq List.not_mem_nil
    · rw [List.mem_singleton.mp hq]
      exact nI_n (a := 3) (by omega) (by omega) (by omega))
  have zC : ∀ x a d, cl (4 + f) (eC x a d) = 0 := fun x a d => cl_zero _ _ (fun q hq => by
    unfold eC at hq
    split at hq
    · rw [List.mem_singleton.mp hq]
      exact nI_n (a := 1) (by omega) (by omega) (by omega)
    · exact absurd hq List.not_mem_nil)
  unfold hEE hE
  rw [cl_app, cl_app, cl_app, zA, zB, zC]
  split
  · rw [cl]; omega
  · have go : ∀ l : List Nat, cl (4 + f) (l.map fun s => (4 + ft (gk g s) (hd g) (aL g (hd g) (ht g)) (hw g) (aS g (hw g) (ht g)), nI s)) = ctN (hf g) f l := by
      intro l
      induction l with
      | nil => rfl
      | cons s l ih =>
        rw [List.map_cons, cl, ctN, ih]
        refine congrArg (fun x => x + ctN (hf g) f l) ?_
        show kif (4 + hf g s = nI (4 + f)) 1 0 = _
        obtain ⟨x, h1, h2⟩ := ft_4 (gk g s) (hd g) (aL g (hd g) (ht g)) (hw g) (aS g (hw g) (ht g))
        have e : hf g s = nI x := h2
        rw [e, show (4 : Int32) + nI x = nI (4 + x) from nI_add 4 x]
        by_cases q : x = f
        · rw [q, kif_pos rfl, kif_pos rfl]
        · rw [kif_neg (nI_n (by omega) (by omega) (by omega)), kif_neg (nI_n (by omega) (by omega) q)]
    rw [go]
    omega

/-! an hour keeps an array well-made -/
theorem rg_sub {x y : Int32} {b b' : Nat} (hx : rg x b) (hy : rg y b') (h : nn y ≤ nn x) : rg (x - y) b ∧ nn (x - y) = nn x - nn y ∨ 2147483648 ≤ b := by
  by_cases q : b < 2147483648
  · left
    have h1 := hx.2
    have e : x - y = nI (nn x - nn y) := by
      have e2 : nI (nn x) - nI (nn y) = nI (nn x - nn y) := pk_sub h
      rw [← hx.1, ← hy.1] at e2
      exact e2
    rw [e]
    exact ⟨rg_nI (by omega) q, nn_nI (by omega)⟩
  · exact Or.inr (by omega)
theorem rg_add {x y : Int32} {b b' : Nat} (hx : rg x b) (hy : rg y b') (h : b + b' < 2147483648) : rg (x + y) (b + b') ∧ nn (x + y) = nn x + nn y := by
  have h1 := hx.2
  have h2 := hy.2
  have e : x + y = nI (nn x + nn y) := by
    have e2 : nI (nn x) + nI (nn y) = nI (nn x + nn y) := nI_add _ _
    rw [← hx.1, ← hy.1] at e2
    exact e2
  rw [e]
  exact ⟨rg_nI (by omega) h, nn_nI (by omega)⟩
theorem rg_mn9 {x : Int32} {b : Nat} (hx : rg x b) (hb : b < 2147483648) : rg (mn9 x) 9999 ∧ nn (mn9 x) = if nn x < 9999 then nn x else 9999 := by
  have h1 := hx.2
  have e : x < 9999 ↔ nn x < 9999 := by
    rw [hx.1, nn_nI (by omega)]
    exact i_lt (b := 9999) (by omega) (by omega)
  unfold mn9
  by_cases q : x < 9999
  · rw [if_pos q, if_pos (e.mp q)]
    exact ⟨⟨hx.1, by have := e.mp q; omega⟩, rfl⟩
  · rw [if_neg q, if_neg (fun z => q (e.mpr z))]
    exact ⟨rg_nI (n := 9999) (Nat.le_refl _) (by omega), nn_nI (n := 9999) (by omega)⟩
theorem rg_lt {x y : Int32} {b b' : Nat} (hx : rg x b) (hy : rg y b') (hb : b < 2147483648) (hb' : b' < 2147483648) : x < y ↔ nn x < nn y := by
  have h1 := hx.2
  have h2 := hy.2
  have e : nI (nn x) < nI (nn y) ↔ nn x < nn y := i_lt (by omega) (by omega)
  rw [← hx.1, ← hy.1] at e
  exact e
theorem aO_rg {g : Nat → Int32} (d t : Int32) (h : WO g) : rg (aO g d t) 9999 := by
  obtain ⟨h3, _, h4, _⟩ := h
  unfold aO
  by_cases q : aL g d t = 0
  · rw [if_pos q]; exact h4
  · rw [if_neg q]
    have hq : ¬ g 4 < g 3 := by
      unfold aL at q
      by_cases z : ¬ d = 0 ∧ (¬ t = 0 ∨ (g 6 = 1 ∧ g 7 = 0)) ∧ ¬ g 4 < g 3
      · exact z.2.2
      · rw [if_neg z] at q; exact absurd rfl q
    rw [rg_lt h4 h3 (by omega) (by omega)] at hq
    rcases rg_sub h4 h3 (by omega) with e | e
    · exact e.1
    · omega
theorem aC_rg {g : Nat → Int32} (w t : Int32) (h : WO g) : rg (aC g w t) 9999 := by
  obtain ⟨_, _, _, h5, _⟩ := h
  unfold aC
  by_cases q : aS g w t = 0
  · rw [if_pos q]
    have e : g 5 - 0 = g 5 := Int32.sub_zero _
    rw [e]; exact h5
  · rw [if_neg q]
    have hq : ¬ g 5 < 1 := by
      unfold aS at q
      by_cases z : w = 1 ∧ ¬ t = 0 ∧ ¬ g 5 < 1
      · exact z.2.2
      · rw [if_neg z] at q; exact absurd rfl q
    have h1 : rg (1 : Int32) 1 := rg_nI (n := 1) (Nat.le_refl _) (by omega)
    have e1 : nn (1 : Int32) = 1 := nn_nI (n := 1) (by omega)
    rw [rg_lt h5 h1 (by omega) (by omega), e1] at hq
    rcases rg_sub h5 h1 (by omega) with e | e
    · exact e.1
    · omega
theorem rg_0 (b : Nat) (hb : b < 2147483648) : rg (0 : Int32) b := rg_nI (n := 0) (Nat.zero_le _) hb
theorem rg_1 (b : Nat) (h1 : 1 ≤ b) (hb : b < 2147483648) : rg (1 : Int32) b := rg_nI (n := 1) h1 hb
theorem rg_kif {P : Prop} {a b : Int32} {n : Nat} (ha : rg a n) (hb : rg b n) : rg (kif P a b) n := by
  by_cases h : P
  · rw [kif_pos h]; exact ha
  · rw [kif_neg h]; exact hb
theorem ft_rg (k : Nat) (d l w s : Int32) : rg (ft k d l w s) 2 := by
  unfold ft
  split
  · exact rg_0 2 (by omega)
  · split
    · exact rg_1 2 (by omega) (by omega)
    · exact rg_nI (n := 2) (Nat.le_refl _) (by omega)
/-- the log -/
theorem WLb_mono {g : Nat → Int32} {n n' : Nat} (h : WLb g n) (hn : n ≤ n') : WLb g n' := ⟨h.1, fun e he => by
  have := h.2 e he
  exact ⟨this.1, by omega, this.2.2⟩⟩
theorem WLb_LQ {g g' : Nat → Int32} {n : Nat} (h : WLb g n) (hq : ∀ j, j = 15 ∨ 909 ≤ j → g' j = g j) : WLb g' n := by
  unfold WLb
  rw [hq 15 (Or.inl rfl)]
  refine ⟨h.1, fun e he => ?_⟩
  rw [hq _ (Or.inr (by omega)), hq _ (Or.inr (by omega))]
  exact h.2 e he
theorem WLb_logG {g : Nat → Int32} {n : Nat} (h : WLb g n) (a b w : Int32) (h0 : rg (g 0) 1000000) (hn : nn (g 0) < n) (ha : rg a 6) (ha1 : 1 ≤ nn a) : WLb (logG g a b w) n := by
  by_cases h4 : (400 : Int32) ≤ g 15
  · have e : logG g a b w = g := by unfold logG; rw [if_pos h4]
    rw [e]; exact h
  · have hlt : nn (g 15) < 400 := by
      rw [h.1.1] at h4
      have q : ¬ nI 400 ≤ nI (nn (g 15)) := h4
      have := h.1.2
      rw [i_le (by omega) (by omega)] at q
      omega
    have e : ∀ j, logG g a b w j = if j = 15 then g 15 + 1 else if j = 909 + 4 * nn (g 15) + 3 then w else if j = 909 + 4 * nn (g 15) + 2 then b else if j = 909 + 4 * nn (g 15) + 1 then a else if j = 909 + 4 * nn (g 15) then g 0 else g j := fun j => by unfold logG; rw [if_neg h4]
    have e15 : logG g a b w 15 = nI (nn (g 15) + 1) := by
      rw [e, if_pos rfl, ← nI_1, ← h.1.1]
    unfold WLb
    rw [e15, nn_nI (by omega)]
    refine ⟨rg_nI (by omega) (by omega), fun x hx => ?_⟩
    by_cases q : x = nn (g 15)
    · subst q
      rw [e (909 + 4 * nn (g 15)), if_neg (by omega), if_neg (by omega), if_neg (by omega), if_neg (by omega), if_pos rfl, e (909 + 4 * nn (g 15) + 1), if_neg (by omega), if_neg (by omega), if_neg (by omega), if_pos rfl]
      exact ⟨h0, hn, ha, ha1⟩
    · rw [e (909 + 4 * x), if_neg (by omega), if_neg (by omega), if_neg (by omega), if_neg (by omega), if_neg (by omega), e (909 + 4 * x + 1), if_neg (by omega), if_neg (by omega), if_neg (by omega), if_neg (by omega), if_neg (by omega)]
      exact h.2 x (by omega)
theorem logG_0 (g : Nat → Int32) (a b w : Int32) : logG g a b w 0 = g 0 := logG_lt _ _ _ _ (by omega) (by omega)
def okE (l : List (Int32 × Int32)) : Prop := ∀ q, q ∈ l → rg q.1 6 ∧ 1 ≤ nn q.1
theorem WLb_logL {n : Nat} (w : Int32) : ∀ (l : List (Int32 × Int32)) {g : Nat → Int32}, WLb g n → rg (g 0) 1000000 → nn (g 0) < n → okE l → WLb (logL g w l) n := by
  intro l
  induction l with
  | nil => intro g h _ _ _; exact h
  | cons q l ih =>
    intro g h h0 hn hl
    have hq := hl q List.mem_cons_self
    exact ih (WLb_logG h _ _ _ h0 hn hq.1 hq.2) (by rw [logG_0]; exact h0) (by rw [logG_0]; exact hn) (fun x hx => hl x (List.mem_cons_of_mem _ hx))
theorem okE_app {l1 l2 : List (Int32 × Int32)} (h1 : okE l1) (h2 : okE l2) : okE (l1 ++ l2) := fun q hq => by
  rcases List.mem_append.mp hq with e | e
  · exact h1 q e
  · exact h2 q e
theorem okE_nil : okE [] := fun q hq => by cases hq
theorem okE_1 {a b : Int32} (h : rg a 6) (h1 : 1 ≤ nn a) : okE [(a, b)] := fun q hq => by
  rcases List.mem_cons.mp hq with e | e
  · subst e; exact ⟨h, h1⟩
  · cases e
theorem n6 (n : Nat) (h : n ≤ 6) (h1 : 1 ≤ n) : rg (nI n) 6 ∧ 1 ≤ nn (nI n) := ⟨rg_nI h (by omega), by rw [nn_nI (by omega)]; exact h1⟩
theorem okE_hE (g : Nat → Int32) (kd : Nat → Nat) (d w W t a : Int32) (l : List Nat) : okE (hE g kd d w W t a l) := by
  unfold hE
  refine okE_app (okE_app (okE_app ?_ ?_) ?_) ?_
  · unfold eA
    split
    · split
      · exact okE_1 (n6 1 (by omega) (by omega)).1 (n6 1 (by omega) (by omega)).2
      · exact okE_1 (n6 2 (by omega) (by omega)).1 (n6 2 (by omega) (by omega)).2
    · exact okE_nil
  · unfold eB
    split
    · exact okE_nil
    · exact okE_1 (n6 3 (by omega) (by omega)).1 (n6 3 (by omega) (by omega)).2
  · unfold eC
    split
    · exact okE_1 (n6 1 (by omega) (by omega)).1 (n6 1 (by omega) (by omega)).2
    · exact okE_nil
  · split
    · exact okE_nil
    · intro q hq
      obtain ⟨s, _, rfl⟩ := List.mem_map.mp hq
      have h4 : rg (4 : Int32) 4 := rg_nI (n := 4) (Nat.le_refl _) (by omega)
      have e4 : nn (4 : Int32) = 4 := nn_nI (n := 4) (by omega)
      have e := rg_add h4 (ft_rg (kd s) d (aL g d t) w (aS g w t)) (by omega)
      exact ⟨e.1, by have := e.2; dsimp only; omega⟩
theorem WG_h0 {g : Nat → Int32} {N : Nat} (h : WG g N) : g 0 = nI (nn (g 0)) := h.1.1
theorem hG_ok {g : Nat → Int32} {N : Nat} (hN : N < 1000000) (h : WG g N) : WG (H g) (N + 1) := by
  have hW := WG_W2 h
  have hGF := WG_GF h
  obtain ⟨h0, h12, h13, h14, hS, hP, hO, hK, hF, hL⟩ := h
  have h02 := h0.2
  have h132 := h13.2
  have h142 := h14.2
  have e0 : H g 0 = nI (nn (g 0) + 1) := by
    unfold H
    rw [hG_0, nI_1]
  have sm : ∀ {j : Nat}, (1 ≤ j ∧ j < 4) ∨ (9 ≤ j ∧ j < 15) ∨ j = 19 ∨ (21 ≤ j ∧ j < 61) → H g j = g j := fun hj => hG_same _ _ _ _ _ _ hj
  have e12 : H g 12 = g 12 := sm (by omega)
  have e13 : H g 13 = g 13 := sm (by omega)
  have e14 : H g 14 = g 14 := sm (by omega)
  have es : ∀ {s : Nat}, s < 200 → _ := fun {s} hs => hG_s g (gk g) (nn (g 14)) (nn (g 13)) (nn (g 0)) (hw g) hW h142 h132 h0.1 hs
  unfold WG
  rw [e0, nn_nI (by omega)]
  refine ⟨rg_nI (by omega) (by omega), by rw [e12]; exact h12, by rw [e13]; exact h13, by rw [e14]; exact h14, ?_, ?_, ?_, ?_, ?_, ?_⟩
  · unfold WS
    rw [e12]
    intro i hi
    have := h12.2
    rw [sm (by omega), sm (by omega)]
    exact hS i hi
  · unfold WP
    rw [e13]
    intro i hi
    have e : H g (85 + i) = g (85 + i) := hG_plan _ _ _ _ _ _ hW hi h132
    rw [e]
    exact hP i hi
  · have ho := aO_rg (hd g) (ht g) hO
    have hc := aC_rg (hw g) (ht g) hO
    obtain ⟨q3, q31, q4, q5, q6, q7, q10, q11⟩ := hO
    refine ⟨by rw [sm (by omega)]; exact q3, by rw [sm (by omega)]; exact q31, ?_, ?_, ?_, ?_, by rw [sm (by omega)]; exact q10, by rw [sm (by omega)]; exact q11⟩
    · have e : H g 4 = _ := hG_4 g (gk g) (nn (g 14)) (nn (g 13)) (nn (g 0)) (hw g)
      rw [e]
      exact rg_kif (rg_mn9 (rg_add ho q10 (by omega)).1 (by omega)).1 ho
    · have e : H g 5 = _ := hG_5 g (gk g) (nn (g 14)) (nn (g 13)) (nn (g 0)) (hw g)
      rw [e]
      exact rg_kif (rg_mn9 (rg_add hc q11 (by omega)).1 (by omega)).1 hc
    · have e : H g 6 = _ := hG_6 g (gk g) (nn (g 14)) (nn (g 13)) (nn (g 0)) (hw g)
      rw [e]
      rcases aL_01 g (aD g (nn (g 0))) (aT g (aW g (nn (g 0)))) with q | q <;> rw [q]
      · exact rg_0 1 (by omega)
      · exact rg_1 1 (by omega) (by omega)
    · have e : H g 7 = _ := hG_7 g (gk g) (nn (g 14)) (nn (g 13)) (nn (g 0)) (hw g)
      rw [e]
      split
      · exact rg_1 1 (by omega) (by omega)
      · exact rg_0 1 (by omega)
  · unfold WK
    rw [e14]
    intro s hs
    have e := es (s := s) (by omega)
    have e1 : H g (109 + 4 * s) = _ := e.1
    have e2 : H g (109 + 4 * s + 1) = _ := e.2.1
    rw [e1, e2]
    exact hK s hs
  · unfold WF
    rw [e14, e0, nn_nI (by omega)]
    intro s hs
    have e := es (s := s) (by omega)
    have e2 : H g (109 + 4 * s + 1) = _ := e.2.1
    have e3 : H g (109 + 4 * s + 2) = _ := e.2.2.1
    have e4 : H g (109 + 4 * s + 3) = _ := e.2.2.2
    have hm := rkK_mem2 hGF (nn (g 0)) (by omega) s 5 (Nat.le_refl _)
    have hk7 := (hGF s hs).2.2.2.1
    rw [e2, e3, e4]
    by_cases q : s ∈ rkK g (nI (nn (g 0))) (nn (g 14)) 5
    · have q2 := hm.mp q
      have q3 : nn (g (109 + 4 * s + 1)) = nn (g 0) := q2.2.1
      rw [if_pos q, if_pos q, q3]
      refine ⟨fun _ => ⟨ft_rg _ _ _ _ _, ?_⟩, fun z => absurd (Nat.lt_succ_self _) z⟩
      rcases aL_01 g (aD g (nn (g 0))) (aT g (aW g (nn (g 0)))) with z | z <;> rw [z] <;> unfold psS <;> split
      · exact rg_0 3 (by omega)
      · exact rg_nI (n := 2) (by omega) (by omega)
      · exact rg_1 3 (by omega) (by omega)
      · exact rg_nI (n := 3) (by omega) (by omega)
    · have q3 : ¬ nn (g (109 + 4 * s + 1)) = nn (g 0) := fun z => q (hm.mpr ⟨hs, z, by omega⟩)
      rw [if_neg q, if_neg q]
      refine ⟨fun z => (hF s hs).1 (by omega), fun z => (hF s hs).2 (by omega)⟩
  · have hq := fun j hj => hG_log g (gk g) (nn (g 14)) (nn (g 13)) (nn (g 0)) (hw g) hW h142 h132 h0.1 (j := j) hj
    refine WLb_LQ ?_ hq
    exact WLb_logL _ _ (WLb_mono hL (Nat.le_succ _)) (rg_mono h0 (by omega)) (Nat.lt_succ_self _) (okE_hE _ _ _ _ _ _ _ _)

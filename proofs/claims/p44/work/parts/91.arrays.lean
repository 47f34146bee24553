/-! an hour of the reference as a function of its array -/
theorem upd_app (f : Nat → Int32) (k : Nat) (x : Int32) (j : Nat) : upd f k x j = if j = k then x else f j := rfl
def logL (g : Nat → Int32) (w : Int32) : List (Int32 × Int32) → Nat → Int32
  | [] => g
  | q :: l => logL (logG g q.1 q.2 w) w l
theorem logL_append (w : Int32) : ∀ (l1 l2 : List (Int32 × Int32)) (g : Nat → Int32), logL g w (l1 ++ l2) = logL (logL g w l1) w l2 := by
  intro l1
  induction l1 with
  | nil => intro l2 g; rfl
  | cons q l1 ih => intro l2 g; rw [List.cons_append, logL, logL, ih]
theorem logL_lt (w : Int32) {j : Nat} (h : j < 909) (h2 : ¬ j = 15) : ∀ (l : List (Int32 × Int32)) (g : Nat → Int32), logL g w l j = g j := by
  intro l
  induction l with
  | nil => intro g; rfl
  | cons q l ih => intro g; rw [logL, ih, logG_lt _ _ _ _ h h2]
def LQ (g g' : Nat → Int32) : Prop := ∀ j, (j = 0 ∨ j = 15 ∨ 909 ≤ j) → g j = g' j
theorem LQ_rf (g : Nat → Int32) : LQ g g := fun _ _ => rfl
theorem LQ_tr {g g' g'' : Nat → Int32} (h1 : LQ g g') (h2 : LQ g' g'') : LQ g g'' := fun j hj => (h1 j hj).trans (h2 j hj)
theorem LQ_logG {g g' : Nat → Int32} (h : LQ g g') (a b w : Int32) : LQ (logG g a b w) (logG g' a b w) := by
  intro j hj
  have h0 := h 0 (Or.inl rfl)
  have h15 := h 15 (Or.inr (Or.inl rfl))
  have hj' := h j hj
  unfold logG
  rw [h15]
  split
  · exact hj'
  · dsimp only
    rw [h0, hj']
theorem LQ_logL (w : Int32) : ∀ (l : List (Int32 × Int32)) {g g' : Nat → Int32}, LQ g g' → LQ (logL g w l) (logL g' w l) := by
  intro l
  induction l with
  | nil => intro g g' h; exact h
  | cons q l ih => intro g g' h; exact ih (LQ_logG h _ _ _)
theorem psW_LQ (g : Nat → Int32) {s : Nat} (hs : s < 200) (so sg : Int32) : LQ (psW g s so sg) g := by
  intro j hj
  unfold psW
  rw [if_neg (by omega), if_neg (by omega)]
theorem psF_log (kd : Nat → Nat) (d sg w who : Int32) (hw : ¬ who < 0) : ∀ (l : List Nat) (g : Nat → Int32), (∀ s, s ∈ l → s < 200) → LQ (psF kd d sg w who g l) (logL g who (l.map fun s => (4 + ft (kd s) d (if g 6 = 1 then 1 else 0) w sg, nI s))) := by
  intro l
  induction l with
  | nil => intro g _; exact LQ_rf g
  | cons s l ih =>
    intro g hl
    rw [psF, List.map_cons, logL]
    have hs := hl s List.mem_cons_self
    have h := ih (ps1 g kd d sg w who s) (fun x hx => hl x (List.mem_cons_of_mem _ hx))
    have e6 : ps1 g kd d sg w who s 6 = g 6 := ps1_lo _ _ _ _ _ _ _ (by omega) (by omega) (by omega) (by omega)
    rw [e6] at h
    refine LQ_tr h (LQ_logL _ _ ?_)
    unfold ps1
    rw [if_neg hw]
    exact LQ_logG (psW_LQ g hs _ _) _ _ _
theorem psF_nolog (kd : Nat → Nat) (d sg w who : Int32) (hw : who < 0) : ∀ (l : List Nat) (g : Nat → Int32), (∀ s, s ∈ l → s < 200) → LQ (psF kd d sg w who g l) g := by
  intro l
  induction l with
  | nil => intro g _; exact LQ_rf g
  | cons s l ih =>
    intro g hl
    rw [psF]
    refine LQ_tr (ih _ (fun x hx => hl x (List.mem_cons_of_mem _ hx))) ?_
    unfold ps1
    rw [if_pos hw]
    exact psW_LQ g (hl s List.mem_cons_self) _ _
theorem ps1_s (g : Nat → Int32) (kd : Nat → Nat) (d sg w who : Int32) {s : Nat} (hs : s < 200) : ps1 g kd d sg w who s (109 + 4 * s + 2) = ft (kd s) d (if g 6 = 1 then 1 else 0) w sg ∧ ps1 g kd d sg w who s (109 + 4 * s + 3) = g 6 + psS sg := by
  unfold ps1
  split
  · unfold psW
    rw [if_neg (by omega), if_pos rfl, if_pos rfl]
    exact ⟨rfl, rfl⟩
  · rw [logG_lt _ _ _ _ (by omega) (by omega), logG_lt _ _ _ _ (by omega) (by omega)]
    unfold psW
    rw [if_neg (by omega), if_pos rfl, if_pos rfl]
    exact ⟨rfl, rfl⟩
theorem psF_s (kd : Nat → Nat) (d sg w who : Int32) {s : Nat} (hs : s < 200) : ∀ (l : List Nat) (g : Nat → Int32), psF kd d sg w who g l (109 + 4 * s) = g (109 + 4 * s) ∧ psF kd d sg w who g l (109 + 4 * s + 1) = g (109 + 4 * s + 1) ∧ psF kd d sg w who g l (109 + 4 * s + 2) = (if s ∈ l then ft (kd s) d (if g 6 = 1 then 1 else 0) w sg else g (109 + 4 * s + 2)) ∧ psF kd d sg w who g l (109 + 4 * s + 3) = (if s ∈ l then g 6 + psS sg else g (109 + 4 * s + 3)) := by
  intro l
  induction l with
  | nil => intro g; simp [psF]
  | cons x l ih =>
    intro g
    have h := ih (ps1 g kd d sg w who x)
    have e6 : ps1 g kd d sg w who x 6 = g 6 := ps1_lo _ _ _ _ _ _ _ (by omega) (by omega) (by omega) (by omega)
    rw [e6, ps1_lo _ _ _ _ _ _ _ (show 109 + 4 * s < 909 by omega) (by omega) (by omega) (by omega), ps1_lo _ _ _ _ _ _ _ (show 109 + 4 * s + 1 < 909 by omega) (by omega) (by omega) (by omega)] at h
    rw [psF, h.1, h.2.1, h.2.2.1, h.2.2.2]
    refine ⟨rfl, rfl, ?_, ?_⟩
    · by_cases hm : s ∈ l
      · rw [if_pos hm, if_pos (List.mem_cons_of_mem _ hm)]
      · rw [if_neg hm]
        by_cases hx : s = x
        · subst hx
          rw [if_pos List.mem_cons_self, (ps1_s g kd d sg w who hs).1]
        · rw [if_neg (fun q => by rcases List.mem_cons.mp q with e | e; exact hx e; exact hm e)]
          exact ps1_lo _ _ _ _ _ _ _ (by omega) (by omega) (by omega) (by omega)
    · by_cases hm : s ∈ l
      · rw [if_pos hm, if_pos (List.mem_cons_of_mem _ hm)]
      · rw [if_neg hm]
        by_cases hx : s = x
        · subst hx
          rw [if_pos List.mem_cons_self, (ps1_s g kd d sg w who hs).2]
        · rw [if_neg (fun q => by rcases List.mem_cons.mp q with e | e; exact hx e; exact hm e)]
          exact ps1_lo _ _ _ _ _ _ _ (by omega) (by omega) (by omega) (by omega)
/-! the pieces, over arrays -/
def eA (x t d : Int32) : List (Int32 × Int32) := if ¬ t = 0 ∧ ¬ d = 0 then [(if x = 1 then 1 else 2, -1)] else []
def eB (s : Int32) : List (Int32 × Int32) := if s = 0 then [] else [(3, -1)]
def eC (x a d : Int32) : List (Int32 × Int32) := if ¬ a = 0 ∧ x = 2 ∧ ¬ d = 0 then [(1, -1)] else []
def aL (g : Nat → Int32) (d t : Int32) : Int32 := if ¬ d = 0 ∧ (¬ t = 0 ∨ (g 6 = 1 ∧ g 7 = 0)) ∧ ¬ g 4 < g 3 then 1 else 0
def aS (g : Nat → Int32) (w t : Int32) : Int32 := if w = 1 ∧ ¬ t = 0 ∧ ¬ g 5 < 1 then 1 else 0
def aP (g : Nat → Int32) (d t w : Int32) : Nat → Int32 := upd (plG (fun _ _ => g) d t) 5 (g 5 - (if aS g w t = 0 then 0 else 1))
noncomputable def aE (g : Nat → Int32) (d t w a w4 : Int32) : Nat → Int32 := logL (aP g d t w) w4 (eA (aL g d t) t d ++ eB (aS g w t) ++ eC (g (61 + 4 * w4.toNatClampNeg)) a d)
noncomputable def aU (g : Nat → Int32) (kd : Nat → Nat) (c k : Nat) (d t w a w4 : Int32) : Nat → Int32 := spG (aE g d t w a w4) kd c k d (aS g w t) w (whM t w4)
noncomputable def aM (g : Nat → Int32) (kd : Nat → Nat) (c k : Nat) (v1 d t w a w4 : Int32) : Nat → Int32 := upd (kif (boM (aU g kd c k d t w a w4) v1 d w) (zrG (bmG (aU g kd c k d t w a w4) v1) k) (aU g kd c k d t w a w4)) 0 (v1 + 1)
theorem lgI_41 (x w4 : Int32) (I : kI) : lgI x w4 I 41 0 = logG (I 41 0) x (-1) w4 := kx_uA_eq _ _ _ _
theorem lgA_41 (t d w4 : Int32) (I : kI) : lgA t d w4 I 41 0 = logL (I 41 0) w4 (eA (I 41 0 6) t d) := by
  unfold lgA eA
  by_cases q : ¬ t = 0 ∧ ¬ d = 0
  · rw [kif_pos q, if_pos q, lgI_41, kif_eq]
    rfl
  · rw [kif_neg q, if_neg q]
    rfl
theorem lgB_41 (s w4 : Int32) (I : kI) : lgB s w4 I 41 0 = logL (I 41 0) w4 (eB s) := by
  unfold lgB eB
  by_cases q : s = 0
  · rw [kif_pos q, if_pos q]
    rfl
  · rw [kif_neg q, if_neg q, lgI_41]
    rfl
theorem lgC_41 (a d w4 : Int32) (I : kI) : lgC a d w4 I 41 0 = logL (I 41 0) w4 (eC (I 41 0 (61 + 4 * w4.toNatClampNeg)) a d) := by
  unfold lgC eC
  by_cases q : ¬ a = 0 ∧ I 41 0 (61 + 4 * w4.toNatClampNeg) = 2 ∧ ¬ d = 0
  · rw [kif_pos q, if_pos q, lgI_41]
    rfl
  · rw [kif_neg q, if_neg q]
    rfl
theorem kw_self (I : kI) (t o j : Nat) (v : Int32) : kw I t o j v t o = upd (I t o) j v := kx_uA_eq _ _ _ _
theorem midX_41 (I : kI) (kd : Nat → Nat) (c k : Nat) (v1 d t w a w4 : Int32) (haw : ¬ a = 0 → w4.toNatClampNeg < 6) : midX I kd c k v1 d t w a w4 41 0 = aM (I 41 0) kd c k v1 d t w a w4 := by
  have hp : plX I d t 41 0 = plG (fun _ _ => I 41 0) d t := kx_uA_eq _ _ _ _
  have hp5 : plX I d t 41 0 5 = I 41 0 5 := by rw [hp, plG_ne _ _ _ (by omega) (by omega) (by omega) (by omega) (by omega)]
  have hs : sgM w t (plX I d t) = aS (I 41 0) w t := by
    unfold sgM aS
    rw [hp5]
  have hq : ∀ s, coX s (plX I d t) 41 0 = upd (plG (fun _ _ => I 41 0) d t) 5 (I 41 0 5 - (if s = 0 then 0 else 1)) := fun s => by
    unfold coX
    rw [kw_self, hp5, hp]
  have hL6 : ∀ x, upd (plG (fun _ _ => I 41 0) d t) 5 x 6 = aL (I 41 0) d t := fun x => rfl
  have he : (lgC a d w4 (lgB (aS (I 41 0) w t) w4 (lgA t d w4 (coX (aS (I 41 0) w t) (plX I d t))))) 41 0 = aE (I 41 0) d t w a w4 := by
    rw [lgC_41, lgB_41, lgA_41, hq]
    unfold aE
    rw [logL_append, logL_append, hL6]
    unfold aP
    by_cases ha : a = 0
    · have ee : ∀ x, eC x a d = [] := fun x => by unfold eC; rw [if_neg (fun q => q.1 ha)]
      rw [ee, ee]
    · have h6 := haw ha
      rw [logL_lt _ (by omega) (by omega), logL_lt _ (by omega) (by omega), upd_app, if_neg (show ¬ 61 + 4 * w4.toNatClampNeg = 5 by omega), plG_ne _ _ _ (by omega) (by omega) (by omega) (by omega) (by omega)]
  unfold midX
  rw [hs]
  generalize hZ : (lgC a d w4 (lgB (aS (I 41 0) w t) w4 (lgA t d w4 (coX (aS (I 41 0) w t) (plX I d t))))) = Z at *
  unfold hend sbX aM
  rw [kw_self, kw_row _ _ (by omega), kw_row _ _ (by omega), he]
  refine congrArg (fun f => upd f 0 (v1 + 1)) ?_
  show _ = kif (boM (spG (aE (I 41 0) d t w a w4) kd c k d (aS (I 41 0) w t) w (whM t w4)) v1 d w) (zrG (bmG (spG (aE (I 41 0) d t w a w4) kd c k d (aS (I 41 0) w t) w (whM t w4)) v1) k) (spG (aE (I 41 0) d t w a w4) kd c k d (aS (I 41 0) w t) w (whM t w4))
  generalize spG (aE (I 41 0) d t w a w4) kd c k d (aS (I 41 0) w t) w (whM t w4) = G
  by_cases hb : boM G v1 d w
  · rw [kif_pos hb, kif_pos hb]
    unfold bmX
    rw [kx_uA_eq, kx_uA_eq]
  · rw [kif_neg hb, kif_neg hb, kw_row _ _ (by omega), kx_uA_eq]

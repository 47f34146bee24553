/-! thought: what an hour adds -/
def cB (f : Nat → Int32) (what : Int32) : Nat → Int32
  | 0 => 0
  | n + 1 => cB f what n + (if f n = what then 1 else 0)
def ctL (f : Nat → Int32) (what : Int32) : List Nat → Int32
  | [] => 0
  | s :: l => (if f s = what then 1 else 0) + ctL f what l
theorem cB_congr {f f' : Nat → Int32} (what : Int32) : ∀ n, (∀ j, j < n → f j = f' j) → cB f what n = cB f' what n := by
  intro n
  induction n with
  | zero => intro _; rfl
  | succ n ih => intro h; rw [cB, cB, h n (by omega), ih (fun j hj => h j (by omega))]
theorem cB_upd {f : Nat → Int32} {what : Int32} {x : Nat} {v : Int32} (hx : ¬ f x = what) : ∀ n, x < n → cB (upd f x v) what n = cB f what n + (if v = what then 1 else 0) := by
  intro n
  induction n with
  | zero => intro h; omega
  | succ n ih =>
    intro h
    rw [cB, cB]
    by_cases q : n = x
    · subst q
      rw [cB_congr (f := upd f n v) (f' := f) what n (fun j hj => by rw [upd_app, if_neg (by omega)]), upd_app, if_pos rfl, if_neg hx, Int32.add_zero]
    · rw [ih (by omega), upd_app, if_neg q]
      grind
theorem cB_list {f f0 : Nat → Int32} {what : Int32} {n : Nat} (h1 : ¬ (-1 : Int32) = what) : ∀ l : List Nat, l.Nodup → (∀ s, s ∈ l → s < n ∧ f0 s = -1) → cB (fun s => if s ∈ l then f s else f0 s) what n = cB f0 what n + ctL f what l := by
  intro l
  induction l with
  | nil =>
    intro _ _
    rw [ctL, Int32.add_zero]
    exact cB_congr what n (fun j _ => if_neg (List.not_mem_nil))
  | cons x l ih =>
    intro hn hs
    have hx : ¬ x ∈ l := (List.nodup_cons.mp hn).1
    have e := ih (List.nodup_cons.mp hn).2 (fun s h => hs s (List.mem_cons_of_mem _ h))
    have hx2 := hs x List.mem_cons_self
    have e2 := cB_upd (f := fun s => if s ∈ l then f s else f0 s) (what := what) (x := x) (v := f x) (by show ¬ (if x ∈ l then f x else f0 x) = what; rw [if_neg hx, hx2.2]; exact h1) n hx2.1
    have e3 : cB (fun s => if s ∈ x :: l then f s else f0 s) what n = cB (upd (fun s => if s ∈ l then f s else f0 s) x (f x)) what n := cB_congr what n (fun j _ => by
      show (if j ∈ x :: l then f j else f0 j) = _
      rw [upd_app]
      by_cases q : j = x
      · rw [if_pos q, if_pos (by rw [q]; exact List.mem_cons_self), q]
      · rw [if_neg q]
        by_cases y : j ∈ l
        · rw [if_pos (List.mem_cons_of_mem _ y), if_pos y]
        · rw [if_neg (fun z => (List.mem_cons.mp z).elim q y), if_neg y])
    rw [e3, e2, e, ctL]
    grind
theorem rkK_nodup {g : Nat → Int32} {c : Nat} {kd hr : Nat → Nat} (hg : GF g c kd hr) (h : Nat) (hh : h < 2147483648) : (rkK g (nI h) c 5).Nodup := by
  refine List.Pairwise.imp (fun {a b} q => ?_) (rkK_pw hg h hh 5 (by omega))
  intro e
  subst e
  unfold bf at q
  omega
theorem rkK_all {g : Nat → Int32} {c : Nat} {kd hr : Nat → Nat} (hg : GF g c kd hr) (h : Nat) (hh : h < 2147483648) {s : Nat} (hs : s ∈ rkK g (nI h) c 5) : s < c ∧ hr s = h := by
  have q := (rkK_mem2 hg h hh s 5 (Nat.le_refl _)).mp hs
  exact ⟨q.1, q.2.1⟩
/-- the array's ships of one fate -/
def B (what : Int32) (g : Nat → Int32) : Int32 := cB (fun s => g (109 + 4 * s + 2)) what (nn (g 14))
noncomputable def hf (g : Nat → Int32) (s : Nat) : Int32 := ft (gk g s) (hd g) (aL g (hd g) (ht g)) (hw g) (aS g (hw g) (ht g))
theorem H_s {g : Nat → Int32} {N : Nat} (hg : WG g N) {s : Nat} (hs : s < nn (g 14)) : H g (109 + 4 * s) = g (109 + 4 * s) ∧ H g (109 + 4 * s + 1) = g (109 + 4 * s + 1) ∧ H g (109 + 4 * s + 2) = (if s ∈ hl g then hf g s else g (109 + 4 * s + 2)) := by
  have hWW := WG_W2 hg
  have h142 := hg.2.2.2.1.2
  have q := hG_s g (gk g) (nn (g 14)) (nn (g 13)) (nn (g 0)) (hw g) hWW h142 hg.2.2.1.2 hg.1.1 (s := s) (by omega)
  refine ⟨q.1, q.2.1, ?_⟩
  have e := q.2.2.1
  rw [← hg.1.1] at e
  exact e
theorem B_H {g : Nat → Int32} {N : Nat} (hN : N < 2147483647) (hg : WG g N) {what : Int32} (h1 : ¬ (-1 : Int32) = what) : B what (H g) = B what g + ctL (hf g) what (hl g) := by
  have hGF := WG_GF hg
  have h02 := hg.1.2
  have hF := hg.2.2.2.2.2.2.2.2.1
  have el : hl g = rkK g (nI (nn (g 0))) (nn (g 14)) 5 := by unfold hl; rw [← hg.1.1]
  have nd : (hl g).Nodup := by rw [el]; exact rkK_nodup hGF _ (by omega)
  have e := cB_list (f := hf g) (f0 := fun s => g (109 + 4 * s + 2)) (n := nn (g 14)) h1 (hl g) nd (fun s hs => by
    rw [el] at hs
    have q := rkK_all hGF _ (by omega) hs
    have z := (hF s q.1).2
    exact ⟨q.1, (z (by have := q.2; unfold gh at this; omega)).1⟩)
  unfold B
  rw [H_14, ← e]
  exact cB_congr what _ (fun j hj => (H_s hg hj).2.2)
theorem ctL_congr {f f' : Nat → Int32} (what : Int32) : ∀ l : List Nat, (∀ s, s ∈ l → f s = f' s) → ctL f what l = ctL f' what l := by
  intro l
  induction l with
  | nil => intro _; rfl
  | cons s l ih => intro h; rw [ctL, ctL, h s List.mem_cons_self, ih (fun x hx => h x (List.mem_cons_of_mem _ hx))]
/-- the thought's cells after its ships -/
theorem tcF_8 (kd : Nat → Nat) : ∀ (l : List Nat) (I : kI), tcF 0 kd I l 8 0 2 = I 8 0 2 + ctL (fun s => ft (kd s) (I 6 2 13) (I 6 2 10) (I 6 2 12) (I 6 2 16)) 1 l ∧ tcF 0 kd I l 8 0 3 = I 8 0 3 + ctL (fun s => ft (kd s) (I 6 2 13) (I 6 2 10) (I 6 2 12) (I 6 2 16)) 2 l ∧ tcF 0 kd I l 8 0 5 = I 8 0 5 + nI l.length ∧ tcF 0 kd I l 8 0 1 = I 8 0 1 ∧ tcF 0 kd I l 8 0 4 = I 8 0 4 := by
  intro l
  induction l with
  | nil => intro I; refine ⟨(Int32.add_zero _).symm, (Int32.add_zero _).symm, (Int32.add_zero _).symm, rfl, rfl⟩
  | cons s l ih =>
    intro I
    have h := ih (tc1 0 kd I s)
    have e6 : ∀ j, tc1 0 kd I s 6 2 j = I 6 2 j := fun j => tc1_ne _ _ _ _ _ _ (by omega)
    simp only [e6] at h
    have e2 : tc1 0 kd I s 8 0 2 = I 8 0 2 + (if ft (kd s) (I 6 2 13) (I 6 2 10) (I 6 2 12) (I 6 2 16) = 1 then 1 else 0) := by
      unfold tc1
      rw [kw_at _ _ (by omega), kw_at _ _ (by omega), kw_app, if_pos ⟨rfl, rfl, rfl⟩]
    have e3 : tc1 0 kd I s 8 0 3 = I 8 0 3 + (if ft (kd s) (I 6 2 13) (I 6 2 10) (I 6 2 12) (I 6 2 16) = 2 then 1 else 0) := by
      unfold tc1
      rw [kw_at _ _ (by omega), kw_app, if_pos ⟨rfl, rfl, rfl⟩]
    have e5 : tc1 0 kd I s 8 0 5 = I 8 0 5 + 1 := by
      unfold tc1
      rw [kw_app, if_pos ⟨rfl, rfl, rfl⟩]
    have e1 : tc1 0 kd I s 8 0 1 = I 8 0 1 := by
      unfold tc1
      rw [kw_at _ _ (by omega), kw_at _ _ (by omega), kw_at _ _ (by omega)]
    have e4 : tc1 0 kd I s 8 0 4 = I 8 0 4 := by
      unfold tc1
      rw [kw_at _ _ (by omega), kw_at _ _ (by omega), kw_at _ _ (by omega)]
    rw [e1, e2, e3, e4, e5] at h
    refine ⟨?_, ?_, ?_, h.2.2.2.1, h.2.2.2.2⟩
    · rw [tcF, h.1, ctL, Int32.add_assoc]
    · rw [tcF, h.2.1, ctL, Int32.add_assoc]
    · rw [tcF, h.2.2.1, List.length_cons, Int32.add_assoc, ← nI_1, Int32.add_comm 1]
/-! beyond the arrays' end -/
theorem logL_hi (w : Int32) {j : Nat} (hj : 2509 ≤ j) : ∀ (l : List (Int32 × Int32)) (g : Nat → Int32) (n : Nat), n ≤ 400 → g 15 = nI n → logL g w l j = g j := by
  intro l
  induction l with
  | nil => intro g n _ _; rfl
  | cons q l ih =>
    intro g n hn h15
    obtain ⟨n', hn', e⟩ := logG_15 g q.1 q.2 w hn h15
    rw [logL, ih _ n' hn' e]
    unfold logG
    split
    · rfl
    · rename_i h4
      have hlt : n < 400 := by
        rw [h15] at h4
        have q : ¬ nI 400 ≤ nI n := h4
        rw [i_le (by omega) (by omega)] at q
        omega
      dsimp only
      rw [h15, nI_clamp (by omega), if_neg (by omega), if_neg (by omega), if_neg (by omega), if_neg (by omega), if_neg (by omega)]
theorem H_hi {g : Nat → Int32} {N : Nat} (hg : WG g N) {j : Nat} (hj : 2509 ≤ j) : H g j = g j := by
  have hWW := WG_W2 hg
  have h15 := hg.2.2.2.2.2.2.2.2.2.1
  have e : H g j = _ := hG_log g (gk g) (nn (g 14)) (nn (g 13)) (nn (g 0)) (hw g) hWW hg.2.2.2.1.2 hg.2.2.1.2 hg.1.1 (j := j) (Or.inr (by omega))
  rw [e]
  exact logL_hi _ hj _ _ (nn (g 15)) h15.2 h15.1
theorem Hn_hi {j : Nat} (hj : 2509 ≤ j) : ∀ (n : Nat) (g : Nat → Int32) (N : Nat), WG g N → N + n ≤ 1000000 → Hn n g j = g j := by
  intro n
  induction n with
  | zero => intro g N _ _; rfl
  | succ n ih =>
    intro g N h hN
    rw [Hn, ih (H g) (N + 1) (hG_ok (by omega) h) (by omega), H_hi h hj]

/-! what is so of all hours that pass from such a start -/
def SG (g : Nat → Int32) : Prop := WG g 0 ∧ g 8 = -1 ∧ g 15 = 0 ∧ g 16 = 0 ∧ g 6 = 0 ∧ g 7 = 0 ∧ ∀ s, s < nn (g 14) → gh g s < 48
theorem hb_no {g : Nat → Int32} (h8 : g 8 = -1) : ¬ aB g (nn (g 0)) (aD g (nn (g 0))) (hw g) := fun z => z.1 h8
theorem H_k {g : Nat → Int32} {N : Nat} (hg : WG g N) (h8 : g 8 = -1) : H g 0 = nI (nn (g 0) + 1) ∧ (∀ j, (1 ≤ j ∧ j < 4) ∨ (8 ≤ j ∧ j < 15) ∨ (21 ≤ j ∧ j < 61) → H g j = g j) ∧ (∀ i, i < 6 → H g (61 + 4 * i) = g (61 + 4 * i)) ∧ (∀ i, i < 24 → H g (85 + i) = g (85 + i)) ∧ ∀ s, s < 200 → H g (109 + 4 * s) = g (109 + 4 * s) ∧ H g (109 + 4 * s + 1) = g (109 + 4 * s + 1) := by
  have h13 := hg.2.2.1.2
  have h14 := hg.2.2.2.1.2
  refine ⟨?_, fun j hj => ?_, fun i hi => hG_k0 _ _ _ _ _ _ hi, fun i hi => hG_plan _ _ _ _ _ _ (WG_W2 hg) hi h13, fun s hs => ?_⟩
  · exact (hG_0 _ _ _ _ _ _).trans (nI_1 _)
  · by_cases q : j = 8
    · rw [q]
      exact (hG_8 _ _ _ _ _ _).trans (kif_neg (hb_no h8))
    · exact hG_same _ _ _ _ _ _ (by omega)
  · have z := hG_s g (gk g) (nn (g 14)) (nn (g 13)) (nn (g 0)) (hw g) (WG_W2 hg) h14 h13 hg.1.1 hs
    exact ⟨z.1, z.2.1⟩
theorem Hn_k {g : Nat → Int32} (hg : SG g) : ∀ t, t ≤ 1000 → WG (Hn t g) t ∧ Hn t g 0 = nI t ∧ (∀ j, (1 ≤ j ∧ j < 4) ∨ (8 ≤ j ∧ j < 15) ∨ (21 ≤ j ∧ j < 61) → Hn t g j = g j) ∧ (∀ i, i < 6 → Hn t g (61 + 4 * i) = g (61 + 4 * i)) ∧ (∀ i, i < 24 → Hn t g (85 + i) = g (85 + i)) ∧ ∀ s, s < 200 → Hn t g (109 + 4 * s) = g (109 + 4 * s) ∧ Hn t g (109 + 4 * s + 1) = g (109 + 4 * s + 1) := by
  intro t
  induction t with
  | zero =>
    intro _
    have h0 := hg.1.1
    have e0 : nn (g 0) = 0 := Nat.le_zero.mp h0.2
    exact ⟨hg.1, by have := h0.1; rw [e0] at this; exact this, fun _ _ => rfl, fun _ _ => rfl, fun _ _ => rfl, fun _ _ => ⟨rfl, rfl⟩⟩
  | succ t ih =>
    intro ht
    obtain ⟨i1, i2, i3, i4, i5, i6⟩ := ih (by omega)
    obtain ⟨j2, j3, j4, j5, j6⟩ := H_k i1 ((i3 8 (by omega)).trans hg.2.1)
    rw [Hn_s]
    refine ⟨hG_ok (by omega) i1, ?_, fun j hj => (j3 j hj).trans (i3 j hj), fun i hi => (j4 i hi).trans (i4 i hi), fun i hi => (j5 i hi).trans (i5 i hi), fun s hs => ⟨(j6 s hs).1.trans (i6 s hs).1, (j6 s hs).2.trans (i6 s hs).2⟩⟩
    rw [j2, i2, nn_nI (by omega)]
/-- the lamp of an hour -/
noncomputable def hL (g : Nat → Int32) : Int32 := aL g (hd g) (ht g)
theorem H_lp {g : Nat → Int32} (h8 : g 8 = -1) : (hL g = 0 ∨ hL g = 1) ∧ (hL g = 1 → hd g = 1) ∧ H g 6 = hL g ∧ H g 4 = g 4 - hL g * g 3 ∧ H g 16 - g 16 = hd g - hL g ∧ H g 16 = g 16 + (hd g - hL g) ∧ (H g 7 = 1 ↔ (hL g = 1 ∧ ht g = 0)) ∧ (hL g = 1 → H g 7 = 1 → ¬ (g 6 = 1 ∧ g 7 = 1)) ∧ (hL g = 1 → hW g < 0 → H g 7 = 1) := by
  have hB := hb_no h8
  have a01 : hL g = 0 ∨ hL g = 1 := aL_01 _ _ _
  have d01 : hd g = 0 ∨ hd g = 1 := aD_01 _ _
  have e6 : H g 6 = hL g := hG_6 _ _ _ _ _ _
  have e4 : H g 4 = aO g (hd g) (ht g) := (hG_4 _ _ _ _ _ _).trans (kif_neg hB)
  have e16 : H g 16 = if ¬ hd g = 0 ∧ hL g = 0 then g 16 + 1 else g 16 := hG_16 _ _ _ _ _ _
  have e7 : H g 7 = if ¬ hL g = 0 ∧ ht g = 0 then 1 else 0 := hG_7 _ _ _ _ _ _
  have dl : hL g = 1 → ¬ hd g = 0 ∧ (¬ ht g = 0 ∨ (g 6 = 1 ∧ g 7 = 0)) := fun h => by
    unfold hL aL at h
    split at h
    · rename_i z
      exact ⟨z.1, z.2.1⟩
    · exact absurd h (by decide)
  have n10 : ¬ (1 : Int32) = 0 := by decide
  have e16' : H g 16 = g 16 + (hd g - hL g) := by
    rw [e16]
    rcases d01 with d | d <;> rcases a01 with a | a
    · rw [d, a, if_neg (fun z => z.1 rfl)]; exact (Int32.add_zero _).symm
    · exact absurd d (dl a).1
    · rw [d, a, if_pos ⟨n10, rfl⟩]; rfl
    · rw [d, a, if_neg (fun z => n10 z.2)]; exact (Int32.add_zero _).symm
  have i7 : H g 7 = 1 ↔ (hL g = 1 ∧ ht g = 0) := by
    rw [e7]
    constructor
    · intro h
      split at h
      · rename_i z
        exact ⟨a01.resolve_left z.1, z.2⟩
      · exact absurd h (by decide)
    · intro z
      rw [if_pos ⟨by rw [z.1]; exact n10, z.2⟩]
  refine ⟨a01, fun h => d01.resolve_left (dl h).1, e6, ?_, ?_, e16', i7, fun h1 h2 h3 => ?_, fun h1 h2 => i7.mpr ⟨h1, ?_⟩⟩
  · rw [e4]
    have z : aO g (hd g) (ht g) = if hL g = 0 then g 4 else g 4 - g 3 := rfl
    rw [z]
    rcases a01 with a | a
    · rw [a, if_pos rfl, Int32.zero_mul, Int32.sub_zero]
    · rw [a, if_neg n10, Int32.one_mul]
  · rw [e16']
    rcases d01 with d | d <;> rcases a01 with a | a <;> rw [d, a] <;> grind
  · have z := (i7.mp h2).2
    have y := (dl h1).2.resolve_left (fun q => q z)
    rw [h3.2] at y
    exact n10 y.2
  · unfold ht aT
    exact kif_pos h2
theorem aD_k {g g' : Nat → Int32} (h1 : g' 1 = g 1) (h2 : g' 2 = g 2) (h : Nat) : aD g' h = aD g h := by
  unfold aD
  rw [h1, h2]
theorem Hn_d {g : Nat → Int32} (hg : SG g) {t : Nat} (ht : t ≤ 1000) : hd (Hn t g) = aD g t ∧ ∀ h, aD (Hn t g) h = aD g h := by
  obtain ⟨i1, i2, i3, _⟩ := Hn_k hg t ht
  have q : ∀ h, aD (Hn t g) h = aD g h := fun h => aD_k (i3 1 (by omega)) (i3 2 (by omega)) h
  refine ⟨?_, q⟩
  unfold hd
  rw [i2, nn_nI (by omega), q]
theorem Hn_W {g : Nat → Int32} (hg : SG g) {t : Nat} (ht : t ≤ 1000) : hW (Hn t g) = g (85 + t % 24) := by
  obtain ⟨i1, i2, i3, i4, i5, _⟩ := Hn_k hg t ht
  show Hn t g (85 + nn (Hn t g 0) % 24) = _
  rw [i2, nn_nI (by omega)]
  exact i5 _ (Nat.mod_lt _ (by omega))
/-- dark hours -/
def dN (g : Nat → Int32) : Nat → Nat
  | 0 => 0
  | n + 1 => dN g n + nn (aD g n)
theorem nn_D (g : Nat → Int32) (n : Nat) : nI (nn (aD g n)) = aD g n ∧ nn (aD g n) ≤ 1 := by
  rcases aD_01 g n with e | e <;> rw [e]
  · exact ⟨rfl, by decide⟩
  · exact ⟨rfl, by decide⟩
theorem dN_le (g : Nat → Int32) : ∀ n, dN g n ≤ n := by
  intro n
  induction n with
  | zero => exact Nat.le_refl _
  | succ n ih =>
    have := (nn_D g n).2
    show dN g n + nn (aD g n) ≤ n + 1
    omega
theorem cS_0 {g : Nat → Int32} (h : g 15 = 0) (p : Nat) : cS g p = 0 := by
  unfold cS
  rw [h]
  rfl
theorem EP_tt (g : Nat → Int32) : EP (fun _ _ _ => True) g := fun _ _ => trivial
theorem Hn_c12 {g : Nat → Int32} (hg : SG g) : ∀ t, t ≤ 1000 → cS (Hn t g) 1 + cS (Hn t g) 2 ≤ dN g t := by
  intro t
  induction t with
  | zero =>
    intro _
    show cS g 1 + cS g 2 ≤ 0
    rw [cS_0 hg.2.2.1, cS_0 hg.2.2.1]
    exact Nat.le_refl _
  | succ t ih =>
    intro ht
    have i := ih (by omega)
    have k := Hn_k hg t (by omega)
    have e := (EP_H (P := fun _ _ _ => True) k.1 (EP_tt _) (fun _ _ => trivial)).2
    have e1 := e 1
    have e2 := e 2
    have c := cl_12 (Hn t g)
    rw [(Hn_d hg (t := t) (by omega)).1] at c
    rw [Hn_s]
    show _ ≤ dN g t + nn (aD g t)
    omega
theorem Hn_cf {g : Nat → Int32} (hg : SG g) (f : Nat) (hf2 : f ≤ 2) : ∀ t, t ≤ 1000 → cS (Hn t g) (4 + f) ≤ cM (Hn t g) f := by
  intro t
  induction t with
  | zero =>
    intro _
    show cS g (4 + f) ≤ _
    rw [cS_0 hg.2.2.1]
    exact Nat.zero_le _
  | succ t ih =>
    intro ht
    have i := ih (by omega)
    have k := Hn_k hg t (by omega)
    have e := (EP_H (P := fun _ _ _ => True) k.1 (EP_tt _) (fun _ _ => trivial)).2 (4 + f)
    have c := cl_f (Hn t g) f hf2
    rw [Hn_s, cM_H (by omega) k.1 f hf2]
    omega
theorem lsum_add (f f' : Nat → Nat) : ∀ n i, lsum f i n + lsum f' i n = lsum (fun j => f j + f' j) i n := by
  intro n
  induction n with
  | zero => intro i; rfl
  | succ n ih =>
    intro i
    have q := ih (i + 1)
    show (f i + lsum f (i + 1) n) + (f' i + lsum f' (i + 1) n) = (f i + f' i) + lsum (fun j => f j + f' j) (i + 1) n
    omega
theorem lsum_one (f : Nat → Nat) : ∀ n i, (∀ j, i ≤ j → j < i + n → f j = 1) → lsum f i n = n := by
  intro n
  induction n with
  | zero => intro i _; rfl
  | succ n ih =>
    intro i h
    have q := ih (i + 1) (fun j h1 h2 => h j (by omega) (by omega))
    have q1 := h i (by omega) (by omega)
    show f i + lsum f (i + 1) n = n + 1
    omega
theorem Hn_all {g : Nat → Int32} (hg : SG g) : cM (Hn 48 g) 0 + cM (Hn 48 g) 1 + cM (Hn 48 g) 2 = nn (g 14) := by
  obtain ⟨i1, i2, i3, i4, i5, i6⟩ := Hn_k hg 48 (by omega)
  have hF := i1.2.2.2.2.2.2.2.2.1
  have h142 := hg.1.2.2.2.1.2
  have e14 : Hn 48 g 14 = g 14 := i3 14 (by omega)
  unfold cM
  rw [lsum_add, lsum_add, e14]
  refine lsum_one _ _ _ (fun s _ hs => ?_)
  have hs' : s < nn (g 14) := by omega
  have q := (hF s (by rw [e14]; exact hs')).1 (by
    rw [(i6 s (by omega)).2, i2, nn_nI (by omega)]
    exact hg.2.2.2.2.2.2 s hs')
  have q1 := q.1.1
  have q2 := q.1.2
  show kif _ 1 0 + kif _ 1 0 + kif _ 1 0 = 1
  have c : nn (Hn 48 g (109 + 4 * s + 2)) = 0 ∨ nn (Hn 48 g (109 + 4 * s + 2)) = 1 ∨ nn (Hn 48 g (109 + 4 * s + 2)) = 2 := by omega
  rcases c with c | c | c <;> rw [c] at q1 <;> rw [q1]
  · rw [kif_pos rfl, kif_neg (nI_n (by omega) (by omega) (by omega)), kif_neg (nI_n (by omega) (by omega) (by omega))]
  · rw [kif_pos rfl, kif_neg (nI_n (by omega) (by omega) (by omega)), kif_neg (nI_n (by omega) (by omega) (by omega))]
  · rw [kif_pos rfl, kif_neg (nI_n (by omega) (by omega) (by omega)), kif_neg (nI_n (by omega) (by omega) (by omega))]
theorem cM_0 {g : Nat → Int32} (hg : SG g) (f : Nat) (hf2 : f ≤ 2) : cM g f = 0 := by
  have h0 := hg.1.1.2
  have q := lsum_le (fun s => kif (g (109 + 4 * s + 2) = nI f) 1 0) 0 (nn (g 14)) 0 (fun s _ hs => by
    have z := (hg.1.2.2.2.2.2.2.2.2.1 s (by omega)).2 (by omega)
    show kif _ 1 0 ≤ 0
    rw [z.1, kif_neg (fun y => nI_m1' f (by omega) y.symm)]
    exact Nat.le_refl _)
  unfold cM
  omega
theorem psS_1 (x s : Int32) (h : x = 0 ∨ x = 1) : (x + psS s) &&& 1 = x := by
  unfold psS
  rcases h with rfl | rfl <;> split <;> decide
/-- what ships met of the lamp -/
theorem Hn_met {g : Nat → Int32} (hg : SG g) : ∀ t, t ≤ 1000 → ∀ s, s < nn (g 14) → gh g s < t → (Hn t g (109 + 4 * s + 3)) &&& 1 = Hn (gh g s + 1) g 6 := by
  intro t
  induction t with
  | zero => intro _ s _ h; exact absurd h (Nat.not_lt_zero _)
  | succ t ih =>
    intro htt s hs h
    obtain ⟨i1, i2, i3, i4, i5, i6⟩ := Hn_k hg t (by omega)
    have h142 := hg.1.2.2.2.1.2
    have e14 : Hn t g 14 = g 14 := i3 14 (by omega)
    have e0 : nn (Hn t g 0) = t := by rw [i2, nn_nI (by omega)]
    have hl := H_lp ((i3 8 (by omega)).trans hg.2.1)
    have z := (hG_s (Hn t g) (gk (Hn t g)) (nn (Hn t g 14)) (nn (Hn t g 13)) (nn (Hn t g 0)) (hw (Hn t g)) (WG_W2 i1) (by rw [e14]; exact h142) i1.2.2.1.2 i1.1.1 (s := s) (by omega)).2.2.2
    have z' : H (Hn t g) (109 + 4 * s + 3) = _ := z
    have hgh : gh (Hn t g) s = gh g s := by
      unfold gh
      rw [(i6 s (by omega)).2]
    have mm := rkK_mem2 (WG_GF i1) (nn (Hn t g 0)) (by omega) s 5 (by omega)
    have hk := (WG_GF i1 s (by rw [e14]; exact hs)).2.2.2.1
    rw [hgh, e0] at mm
    rw [Hn_s, z']
    rw [e0]
    by_cases y : gh g s = t
    · rw [if_pos (mm.mpr ⟨by rw [e14]; exact hs, y, by omega⟩), y, Hn_s, hl.2.2.1]
      have hl1 := hl.1
      unfold hL hd ht hW at hl1 ⊢
      rw [e0] at hl1 ⊢
      exact psS_1 _ _ hl1
    · rw [if_neg (fun q => y (mm.mp q).2.1)]
      exact ih (by omega) s hs (by omega)
/-- what is written of the lamp -/
def Pw (g : Nat → Int32) : Int32 → Int32 → Int32 → Prop := fun h a w => (a = 1 → (¬ w < 0 ∧ g (61 + 4 * nn w) = 2 ∧ ¬ aD g (nn h) = 0) ∨ Hn (nn h + 1) g 6 = 1) ∧ (a = 2 → Hn (nn h + 1) g 6 = 0)
def Qw (g : Nat → Int32) : Int32 → Int32 → Int32 → Prop := fun h a w => Pw g h a w ∧ (w = -1 ∨ ∃ j, j < nn (g 13) ∧ w = nI j)
theorem Hn_wr {g : Nat → Int32} (hg : SG g) : ∀ t, t ≤ 1000 → EP (Qw g) (Hn t g) := by
  intro t
  induction t with
  | zero =>
    intro _ e he
    have he' : e < nn (g 15) := he
    rw [hg.2.2.1] at he'
    exact absurd he' (Nat.not_lt_zero _)
  | succ t ih =>
    intro ht
    obtain ⟨i1, i2, i3, i4, i5, i6⟩ := Hn_k hg t (by omega)
    have hl := H_lp ((i3 8 (by omega)).trans hg.2.1)
    have e0 : nn (Hn t g 0) = t := by rw [i2, nn_nI (by omega)]
    have eW := Hn_W hg (t := t) (by omega)
    have eD := Hn_d hg (t := t) (by omega)
    have hW6 := hg.1.2.2.2.2.2.1 (t % 24) (Nat.mod_lt _ (by omega))
    have h132 := hg.1.2.2.1.2
    have n13 : ¬ (1 : Int32) = 2 := by decide
    rw [Hn_s]
    refine (EP_H i1 (ih (by omega)) (fun q hq => ?_)).1
    refine ⟨?_, by rw [eW]; exact hW6⟩
    unfold Pw
    rw [e0, eW, Hn_s, hl.2.2.1]
    rcases hEE_mem hq with ⟨_, _, c⟩ | c | ⟨c1, c2, c3, c4⟩ | ⟨f, c1, c2⟩
    · have c' : q.1 = if hL (Hn t g) = 1 then 1 else 2 := c
      rw [c']
      rcases hl.1 with y | y
      · rw [y, if_neg (by decide)]
        exact ⟨fun z => absurd z (by decide), fun _ => rfl⟩
      · rw [y, if_pos rfl]
        exact ⟨fun _ => Or.inr rfl, fun z => absurd z (by decide)⟩
    · rw [c]
      exact ⟨fun z => absurd z (by decide), fun z => absurd z (by decide)⟩
    · rw [c4]
      have g0 := aA_ge c1
      rw [eW] at g0 c2
      refine ⟨fun _ => Or.inl ⟨g0, ?_, by rw [← eD.1]; exact c3⟩, fun z => absurd z (by decide)⟩
      rcases hW6 with y | ⟨j, hj, y⟩
      · rw [y] at g0
        exact absurd (by decide) g0
      · rw [y, nn_nI (by omega)] at c2 ⊢
        rw [← i4 j (by omega)]
        exact c2
    · rw [c2]
      exact ⟨fun z => absurd z (nI_n (b := 1) (by omega) (by omega) (by omega)), fun z => absurd z (nI_n (b := 2) (by omega) (by omega) (by omega))⟩
theorem saL_p (met : Nat → Int32) (sort : Int32) : ∀ l : List Nat, ¬ saL met sort l = -1 → ∃ s, s ∈ l ∧ saL met sort l = nI s ∧ ((met s &&& 1 = 1 ∧ sort = 2) ∨ (¬ met s &&& 1 = 1 ∧ sort = 1)) := by
  intro l
  induction l with
  | nil => intro h; exact absurd rfl h
  | cons s l ih =>
    intro h
    rw [saL] at h ⊢
    by_cases q : (met s &&& 1 = 1 ∧ sort = 2) ∨ (¬ met s &&& 1 = 1 ∧ sort = 1)
    · rw [kif_pos q]
      exact ⟨s, List.mem_cons_self, rfl, q⟩
    · rw [kif_neg q] at h ⊢
      obtain ⟨x, h1, h2, h3⟩ := ih h
      exact ⟨x, List.mem_cons_of_mem _ h1, h2, h3⟩
/-- differences are by boys alone -/
theorem Hn_diff {g : Nat → Int32} (hg : SG g) {e : Nat} (he : e < nn (Hn 48 g 15)) (hs : ¬ sa (Hn 48 g) e = -1) : ∃ j h s, j < nn (g 13) ∧ h < 48 ∧ s < nn (g 14) ∧ Hn 48 g (909 + 4 * e + 3) = nI j ∧ g (61 + 4 * j) = 2 ∧ Hn 48 g (909 + 4 * e) = nI h ∧ aD g h = 1 ∧ sa (Hn 48 g) e = nI s ∧ ¬ (Hn 48 g (109 + 4 * s + 3)) &&& 1 = 1 := by
  obtain ⟨i1, i2, i3, i4, i5, i6⟩ := Hn_k hg 48 (by omega)
  have hL := i1.2.2.2.2.2.2.2.2.2
  have hLe := hL.2 e he
  have e14 : Hn 48 g 14 = g 14 := i3 14 (by omega)
  have h142 := hg.1.2.2.2.1.2
  have w := Hn_wr hg 48 (by omega) e he
  have n12 : ¬ (1 : Int32) = 2 := by decide
  by_cases q : Hn 48 g (909 + 4 * e + 1) = 1 ∨ Hn 48 g (909 + 4 * e + 1) = 2
  · have es : sa (Hn 48 g) e = saL (fun s => Hn 48 g (109 + 4 * s + 3)) (Hn 48 g (909 + 4 * e + 1)) (rkK (Hn 48 g) (Hn 48 g (909 + 4 * e)) (nn (Hn 48 g 14)) 5) := kif_pos q
    rw [es] at hs ⊢
    obtain ⟨s, h1, h2, h3⟩ := saL_p _ _ _ hs
    obtain ⟨m1, m2, _⟩ := (rkK_mem _ _ _ _ _).mp h1
    rw [e14] at m1
    have egh : gh g s = nn (Hn 48 g (909 + 4 * e)) := by
      rw [← m2]
      unfold gh
      rw [(i6 s (by omega)).2]
    have hlt : gh g s < 48 := hg.2.2.2.2.2.2 s m1
    have em := Hn_met hg 48 (by omega) s m1 hlt
    rw [egh] at em
    have hh : Hn 48 g (909 + 4 * e) = nI (gh g s) := by rw [egh]; exact hLe.1.1
    have h3' : ((Hn 48 g (109 + 4 * s + 3)) &&& 1 = 1 ∧ Hn 48 g (909 + 4 * e + 1) = 2) ∨ (¬ (Hn 48 g (109 + 4 * s + 3)) &&& 1 = 1 ∧ Hn 48 g (909 + 4 * e + 1) = 1) := h3
    rcases h3' with ⟨y1, y2⟩ | ⟨y1, y2⟩
    · have z := w.1.2 y2
      rw [em, z] at y1
      exact absurd y1 (by decide)
    · rcases w.1.1 y2 with ⟨z1, z2, z3⟩ | z
      · rcases w.2 with y | ⟨j, hj, y⟩
        · rw [y] at z1
          exact absurd (by decide) z1
        · have h132 := hg.1.2.2.1.2
          rw [y, nn_nI (by omega)] at z2
          rw [← egh] at z3
          exact ⟨j, gh g s, s, hj, hlt, m1, y, z2, hh, (aD_01 _ _).resolve_left z3, h2, y1⟩
      · rw [em] at y1
        exact absurd z y1
  · have es : sa (Hn 48 g) e = -1 := kif_neg q
    exact absurd es hs

/-! ships meet the hour, of the reference -/
def psS (sg : Int32) : Int32 := if sg = 0 then 0 else 2
/-- a ship's fate and what it met -/
def psW (g : Nat → Int32) (s : Nat) (so sg : Int32) : Nat → Int32 := fun j => if j = 109 + 4 * s + 3 then g 6 + psS sg else if j = 109 + 4 * s + 2 then so else g j
def ps1 (g : Nat → Int32) (kd : Nat → Nat) (d sg w who : Int32) (s : Nat) : Nat → Int32 := if who < 0 then psW g s (ft (kd s) d (if g 6 = 1 then 1 else 0) w sg) sg else logG (psW g s (ft (kd s) d (if g 6 = 1 then 1 else 0) w sg) sg) (4 + ft (kd s) d (if g 6 = 1 then 1 else 0) w sg) (nI s) who
def psF (kd : Nat → Nat) (d sg w who : Int32) : (Nat → Int32) → List Nat → Nat → Int32
  | g, [] => g
  | g, s :: l => psF kd d sg w who (ps1 g kd d sg w who s) l
theorem logG_lt (g : Nat → Int32) (a b w : Int32) {j : Nat} (h : j < 909) (h2 : ¬ j = 15) : logG g a b w j = g j := by
  unfold logG
  split
  · rfl
  · dsimp only
    rw [if_neg h2, if_neg (by omega), if_neg (by omega), if_neg (by omega), if_neg (by omega)]
theorem logG_15 (g : Nat → Int32) (a b w : Int32) {n : Nat} (hn : n ≤ 400) (h : g 15 = nI n) : ∃ n', n' ≤ 400 ∧ logG g a b w 15 = nI n' := by
  unfold logG
  by_cases h4 : (400 : Int32) ≤ g 15
  · rw [if_pos h4]; exact ⟨n, hn, h⟩
  · rw [if_neg h4]
    have hlt : n < 400 := by
      rw [h] at h4
      have q : ¬ nI 400 ≤ nI n := h4
      rw [i_le (by omega) (by omega)] at q
      omega
    exact ⟨n + 1, by omega, by simp only [if_true]; rw [h, nI_1]⟩
theorem rkA_lt {l : List Nat} {i s : Nat} (h : l[i]? = some s) : rkA l i = nI s := by unfold rkA; rw [h]
theorem rkA_no {l : List Nat} {i : Nat} (h : l[i]? = none) : rkA l i = -1 := by unfold rkA; rw [h]
theorem rkI_congr {g g' : Nat → Int32} (h k : Int32) : ∀ n i, (∀ s, i ≤ s → s < i + n → g (109 + 4 * s) = g' (109 + 4 * s) ∧ g (109 + 4 * s + 1) = g' (109 + 4 * s + 1)) → rkI g h k i n = rkI g' h k i n := by
  intro n
  induction n with
  | zero => intro i _; rfl
  | succ n ih =>
    intro i hq
    rw [rkI, rkI, (hq i (by omega) (by omega)).1, (hq i (by omega) (by omega)).2, ih (i + 1) (fun s h1 h2 => hq s (by omega) (by omega))]
theorem rkK_congr {g g' : Nat → Int32} (h : Int32) (c : Nat) (hq : ∀ s, s < c → g (109 + 4 * s) = g' (109 + 4 * s) ∧ g (109 + 4 * s + 1) = g' (109 + 4 * s + 1)) : ∀ k, rkK g h c k = rkK g' h c k := by
  intro k
  induction k with
  | zero => rfl
  | succ k ih => rw [rkK, rkK, ih, rkI_congr h (nI (k + 3)) c 0 (fun s _ h2 => hq s (by omega))]

def psI (g : Nat → Int32) (c : Nat) (kd : Nat → Nat) : Prop := g 14 = nI c ∧ (∃ n, n ≤ 400 ∧ g 15 = nI n) ∧ ∀ s, s < c → g (109 + 4 * s) = nI (kd s) ∧ 3 ≤ kd s ∧ kd s ≤ 7
theorem ps1_lo (g : Nat → Int32) (kd : Nat → Nat) (d sg w who : Int32) (s : Nat) {j : Nat} (h : j < 909) (h15 : ¬ j = 15) (h2 : ¬ j = 109 + 4 * s + 2) (h3 : ¬ j = 109 + 4 * s + 3) : ps1 g kd d sg w who s j = g j := by
  unfold ps1
  split
  · unfold psW; rw [if_neg h3, if_neg h2]
  · rw [logG_lt _ _ _ _ h h15]; unfold psW; rw [if_neg h3, if_neg h2]
theorem ps1_I {g : Nat → Int32} {c : Nat} {kd : Nat → Nat} (hc : c ≤ 200) (hg : psI g c kd) (d sg w who : Int32) {s : Nat} (hs : s < c) : psI (ps1 g kd d sg w who s) c kd ∧ ∀ h k, rkK (ps1 g kd d sg w who s) h c k = rkK g h c k := by
  obtain ⟨h14, ⟨n, hn, h15⟩, hk⟩ := hg
  refine ⟨⟨?_, ?_, fun t ht => ?_⟩, fun h k => rkK_congr h c (fun t ht => ⟨?_, ?_⟩) k⟩
  · rw [ps1_lo _ _ _ _ _ _ _ (by omega) (by omega) (by omega) (by omega), h14]
  · unfold ps1
    split
    · exact ⟨n, hn, by unfold psW; rw [if_neg (by omega), if_neg (by omega), h15]⟩
    · exact logG_15 _ _ _ _ hn (by unfold psW; rw [if_neg (by omega), if_neg (by omega), h15])
  · rw [ps1_lo _ _ _ _ _ _ _ (by omega) (by omega) (by omega) (by omega)]
    exact hk t ht
  · rw [ps1_lo _ _ _ _ _ _ _ (by omega) (by omega) (by omega) (by omega)]
  · rw [ps1_lo _ _ _ _ _ _ _ (by omega) (by omega) (by omega) (by omega)]
theorem g_ps (d sg w who h : Int32) (I : kI) (J : kJ) {c : Nat} (hc : c ≤ 200) (kd : Nat → Nat) (L : List Nat) (hLc : ∀ s, s ∈ L → s < c) : ∀ (rest : List Nat) (i : Nat) (g : Nat → Int32) (m : Nat) (v7 v8 v10 s0 s1 s2 s3 : Int32), L.drop i = rest → i + rest.length < 100000 → psI g c kd → rkK g h c 5 = L → 6 * rest.length + 1 ≤ m → G_X11_passesShips d sg w who m 11 h (nI i) v7 v8 v10 s0 s1 s2 s3 (kx_uA I 41 0 g) J = some (kx_uA I 41 0 (psF kd d sg w who g rest), J) := by
  intro rest
  induction rest with
  | nil =>
    intro i g m v7 v8 v10 s0 s1 s2 s3 hd hi hg hL hm
    obtain ⟨m, rfl⟩ : ∃ m', m = m' + 1 := ⟨m - 1, by omega⟩
    have hno : L[i]? = none := by
      rw [List.getElem?_eq_none_iff]
      exact List.drop_eq_nil_iff.mp hd
    have hr := E_rankedAt h i (by omega) (kx_uA I 41 0 g) J hc (by rw [kx_uA_eq]; exact hg.1)
    rw [kx_uA_eq, hL, rkA_no hno] at hr
    rw [G_X11_passesShips_11, kbd_eq hr, kif_pos (by decide)]
    rfl
  | cons s rest ih =>
    intro i g m v7 v8 v10 s0 s1 s2 s3 hd hi hg hL hm
    rw [List.length_cons] at hm hi
    obtain ⟨m, rfl⟩ : ∃ m', m = m' + 6 := ⟨m - 6, by omega⟩
    have hyes : L[i]? = some s := by
      have e : (L.drop i)[0]? = some s := by rw [hd]; rfl
      rw [List.getElem?_drop] at e
      exact e
    have hs : s < c := hLc s (List.mem_of_getElem? hyes)
    have hr := E_rankedAt h i (by omega) (kx_uA I 41 0 g) J hc (by rw [kx_uA_eq]; exact hg.1)
    rw [kx_uA_eq, hL, rkA_lt hyes] at hr
    have hk := hg.2.2 s hs
    have o0 := ofS s 0 (kx_uA I 41 0 g) J (by omega) (by omega)
    have p0 : pre_X11_ofShip (nI s) (0 : Int32) (kx_uA I 41 0 g) J := o0.2
    have f0 : F_X11_ofShip (nI s) (0 : Int32) (kx_uA I 41 0 g) J = nI (kd s) := by
      refine o0.1.trans ?_
      rw [kx_uA_eq]
      exact hk.1
    have l6 : ((6 : Int32)).toNatClampNeg = 6 := rfl
    have v6 : vp_in (6 : Int32) 2509 := vl 6 2509 (by omega) (by omega)
    have c2 : ((109 : Int32) + 4 * nI s + 2).toNatClampNeg = 109 + 4 * s + 2 := ix3c (a := 109) (b := 4) (c := 2) (by omega)
    have c3 : ((109 : Int32) + 4 * nI s + 3).toNatClampNeg = 109 + 4 * s + 3 := ix3c (a := 109) (b := 4) (c := 3) (by omega)
    have w2 : vp_in ((109 : Int32) + 4 * nI s + 2) 2509 := ix3v (a := 109) (b := 4) (c := 2) (by omega) (by omega)
    have w3 : vp_in ((109 : Int32) + 4 * nI s + 3) 2509 := ix3v (a := 109) (b := 4) (c := 3) (by omega) (by omega)
    have hI1 := ps1_I hc hg d sg w who hs
    have hd2 : L.drop (i + 1) = rest := by
      rw [← List.drop_drop, hd]
      rfl
    have hn := fun m' (hm' : 6 * rest.length + 1 ≤ m') => ih (i + 1) (ps1 g kd d sg w who s) m' 0 0 0 0 0 0 0 hd2 (by omega) hI1.1 (by rw [hI1.2, hL]) hm'
    generalize hso : ft (kd s) d (if g 6 = 1 then 1 else 0) w sg = so
    have hW : ∀ x, x = psS sg → kw (kw (kx_uA I 41 0 g) 41 0 (109 + 4 * s + 2) so) 41 0 (109 + 4 * s + 3) (g 6 + x) = kx_uA I 41 0 (psW g s so sg) := by
      intro x hx
      rw [kw_uA, kw_uA, hx]
      refine congrArg (kx_uA I 41 0) (funext fun j => ?_)
      simp only [upd, psW]
    have h6 : (kw (kx_uA I 41 0 g) 41 0 (109 + 4 * s + 2) so) 41 0 6 = g 6 := by
      rw [kw_at _ _ (by omega), kx_uA_eq]
    have s3' : ∀ m', 6 * rest.length + 1 ≤ m' → G_X11_passesShips d sg w who (m' + 3) 100 h (nI i) (nI s) 0 0 so 0 0 0 (kx_uA I 41 0 g) J = some (kx_uA I 41 0 (psF kd d sg w who (ps1 g kd d sg w who s) rest), J) := by
      intro m' hm'
      have fin := hn m' hm'
      rw [← nI_1] at fin
      have tl : ∀ x, x = psS sg → G_X11_passesShips d sg w who (m' + 2) 147 h (nI i) (nI s) 0 so 0 ((109 : Int32) + 4 * nI s + 3) (g 6) x (kw (kx_uA I 41 0 g) 41 0 (109 + 4 * s + 2) so) J = some (kx_uA I 41 0 (psF kd d sg w who (ps1 g kd d sg w who s) rest), J) := by
        intro x hx
        rw [G_X11_passesShips_147, kif_pos w3, c3, hW x hx]
        unfold ps1 at fin ⊢
        rw [hso] at fin ⊢
        by_cases hw : who < 0
        · rw [kif_pos hw, G_X11_passesShips_166]
          rw [if_pos hw] at fin ⊢
          exact fin
        · rw [kif_neg hw]
          rw [if_neg hw] at fin ⊢
          obtain ⟨n, hn400, h15⟩ := hg.2.1
          have el := E_logs (4 + so) (nI s) who (kx_uA I 41 0 (psW g s so sg)) J hn400 (by rw [kx_uA_eq]; unfold psW; rw [if_neg (by omega), if_neg (by omega), h15])
          rw [kif_pos el.2, el.1, G_X11_passesShips_166, kx_uA_eq]
          have eu : ∀ f f2 : Nat → Int32, kx_uA (kx_uA I 41 0 f) 41 0 f2 = kx_uA I 41 0 f2 := fun f f2 => kI_ext fun t2 o2 j => by
            simp only [kx_uA_app]
            split <;> rfl
          rw [eu]
          exact fin
      rw [G_X11_passesShips_100, kif_pos w2, kif_pos v6, c2, l6, h6]
      by_cases hs0 : sg = 0
      · rw [kif_pos hs0]
        exact tl 0 (by unfold psS; rw [if_pos hs0])
      · rw [kif_neg hs0]
        exact tl 2 (by unfold psS; rw [if_neg hs0])
    have s2' : ∀ l, l = (if g 6 = 1 then (1 : Int32) else 0) → G_X11_passesShips d sg w who (m + 5) 60 h (nI i) (nI s) (nI (kd s)) 0 (nI (kd s)) d l 0 (kx_uA I 41 0 g) J = some (kx_uA I 41 0 (psF kd d sg w who (ps1 g kd d sg w who s) rest), J) := by
      intro l hl
      have hso' := hso
      rw [← hl] at hso'
      unfold ft at hso'
      rw [G_X11_passesShips_60, kbd_eq (E_lacksM (kd s) hk.2.1 hk.2.2 d l w sg _ J), m_small (kd s) hk.2.1 hk.2.2]
      by_cases q0 : lk (kd s) d l w sg = 0
      · rw [kif_pos q0]
        rw [if_pos q0] at hso'
        have e9 := s3' (m + 1) (by omega)
        rw [← hso', show m + 1 + 3 = m + 4 by omega] at e9
        exact e9
      · rw [kif_neg q0]
        rw [if_neg q0] at hso'
        have two : so = 2 → G_X11_passesShips d sg w who (m + 4) 99 h (nI i) (nI s) 0 0 0 0 0 0 (kx_uA I 41 0 g) J = some (kx_uA I 41 0 (psF kd d sg w who (ps1 g kd d sg w who s) rest), J) := fun e => by
          rw [G_X11_passesShips_99, ← e]
          exact s3' m (by omega)
        have one : so = 1 → G_X11_passesShips d sg w who (m + 4) 95 h (nI i) (nI s) 0 0 0 0 0 0 (kx_uA I 41 0 g) J = some (kx_uA I 41 0 (psF kd d sg w who (ps1 g kd d sg w who s) rest), J) := fun e => by
          rw [G_X11_passesShips_95, ← e]
          exact s3' m (by omega)
        by_cases q1 : lk (kd s) d l w sg = 1
        · rw [kif_pos q1]
          by_cases sm : kd s = 3 ∨ kd s = 4
          · rw [if_pos sm, kif_neg (by decide)]
            rw [if_pos ⟨q1, fun z => by omega⟩] at hso'
            exact one hso'.symm
          · rw [if_neg sm, kif_pos rfl]
            by_cases w2' : w = 2
            · rw [kif_pos w2']
              rw [if_neg (fun z => z.2 ⟨w2', by omega⟩)] at hso'
              exact two hso'.symm
            · rw [kif_neg w2']
              rw [if_pos ⟨q1, fun z => w2' z.1⟩] at hso'
              exact one hso'.symm
        · rw [kif_neg q1]
          rw [if_neg (fun z => q1 z.1)] at hso'
          exact two hso'.symm
    rw [G_X11_passesShips_11, kbd_eq hr, kif_neg (i_nlt0 s (by omega)), kbd_eq hr, kif_pos p0, l6, kif_pos v6, f0, kx_uA_eq]
    by_cases q6 : g 6 = 1
    · rw [kif_pos q6]
      exact s2' 1 (by rw [if_pos q6])
    · rw [kif_neg q6]
      exact s2' 0 (by rw [if_neg q6])

theorem rkI_len (g : Nat → Int32) (h k : Int32) : ∀ n i, (rkI g h k i n).length ≤ n := by
  intro n
  induction n with
  | zero => intro i; rw [rkI]; exact Nat.le_refl _
  | succ n ih =>
    intro i
    have q := ih (i + 1)
    rw [rkI]
    split
    · rw [List.length_cons]; omega
    · omega
theorem rkK_len (g : Nat → Int32) (h : Int32) (c : Nat) : ∀ k, (rkK g h c k).length ≤ k * c := by
  intro k
  induction k with
  | zero => rw [rkK, Nat.zero_mul]; exact Nat.le_refl _
  | succ k ih =>
    have q := rkI_len g h (nI (k + 3)) c 0
    rw [rkK, List.length_append, Nat.succ_mul]
    omega
theorem E_passesShips (d sg w who : Int32) (I : kI) (J : kJ) {c : Nat} (hc : c ≤ 200) (kd : Nat → Nat) (hg : psI (I 41 0) c kd) : E_X11_passesShips d sg w who I J = some (kx_uA I 41 0 (psF kd d sg w who (I 41 0) (rkK (I 41 0) (I 41 0 0) c 5)), J) := by
  have hl := rkK_len (I 41 0) (I 41 0 0) c 5
  have h := g_ps d sg w who (I 41 0 0) I J hc kd (rkK (I 41 0) (I 41 0 0) c 5) (fun s hs => ((rkK_mem _ _ _ _ _).mp hs).1) (rkK (I 41 0) (I 41 0 0) c 5) 0 (I 41 0) kfu 0 0 0 0 0 0 0 rfl (by omega) hg rfl (by unfold kfu; omega)
  rw [kx_uA_id] at h
  have l0 : ((0 : Int32)).toNatClampNeg = 0 := rfl
  unfold E_X11_passesShips
  rw [kif_pos (show vp_in (0 : Int32) 2509 from vl 0 2509 (by omega) (by omega)), l0]
  exact h

/-! a plan told by a shelf -/
def okv (c : Int32) (v : Int64) : Prop := ¬ v < -1 ∧ v < c.toInt64
theorem t32 (v : Int64) (h : -1 ≤ v.toInt ∧ v.toInt < 1000) : (Int64.toInt32 v).toInt = v.toInt := by
  rw [Int64.toInt_toInt32]
  exact Int.bmod_eq_of_le (by omega) (by omega)
theorem okv_k {c : Int32} {v : Int64} (hc : rg c 6) (h : okv c v) : Int64.toInt32 v = -1 ∨ ∃ j, j < nn c ∧ Int64.toInt32 v = nI j := by
  obtain ⟨h1, h2⟩ := h
  have hc2 := hc.2
  have hci := rg_toInt hc (by omega)
  rw [Int64.lt_iff_toInt_lt] at h1 h2
  have e1 : (-1 : Int64).toInt = -1 := rfl
  rw [e1] at h1
  rw [Int32.toInt_toInt64, hci] at h2
  have e := t32 v (by omega)
  by_cases q : v.toInt = -1
  · left
    rw [← Int32.toInt_inj, e, q]
    rfl
  · right
    refine ⟨v.toInt.toNat, by omega, ?_⟩
    rw [← Int32.toInt_inj, e, iz_nI (by omega)]
    omega
theorem okv_M {c : Int32} {v : Int64} (hc : rg c 6) (I : kI) (J : kJ) : (F_X11_in v (-1 : Int64) (Int32.toInt64 (c - 1)) I J = 0) ↔ ¬ okv c v := by
  have hc2 := hc.2
  have hci := rg_toInt hc (by omega)
  have e1 : (1 : Int32).toInt = 1 := rfl
  have e : (c - 1).toInt = c.toInt - 1 := by rw [iz_sub (by rw [e1, hci]; omega), e1]
  have i : (Int32.toInt64 (c - 1) < v) ↔ ¬ v < c.toInt64 := by
    rw [Int64.lt_iff_toInt_lt, Int64.lt_iff_toInt_lt, Int32.toInt_toInt64, Int32.toInt_toInt64, e]
    omega
  rw [F_in]
  unfold okv
  by_cases q : v < -1
  · rw [if_pos q]
    exact ⟨fun _ z => z.1 q, fun _ => rfl⟩
  · rw [if_neg q]
    by_cases q2 : Int32.toInt64 (c - 1) < v
    · rw [if_pos q2]
      exact ⟨fun _ z => (i.mp q2) z.2, fun _ => rfl⟩
    · rw [if_neg q2]
      have q3 : v < c.toInt64 := by
        by_cases z : v < c.toInt64
        · exact z
        · exact absurd (i.mpr z) q2
      exact ⟨fun z => absurd z (by decide), fun z => absurd ⟨q, q3⟩ z⟩
theorem g_against {I : kI} {J : kJ} {c s z : Nat} (hs : s ≤ 7) (hS : shl I J c s) (e3 : I 4 s 1 = nI z) (hz : 24 ≤ z) (hz2 : z ≤ 40) : ∀ n i m, i + n = 24 → n + 1 ≤ m → G_X10_againstPlanIn (nI s) m 38 (nI i) I J = some (kif (∀ x, i ≤ x → x < 24 → okv (I 1 0 5) (J 34 s x)) 0 (-102)) := by
  intro n
  induction n with
  | zero =>
    intro i m hi hm
    obtain ⟨m, rfl⟩ : ∃ m', m = m' + 1 := ⟨m - 1, by omega⟩
    obtain rfl : i = 24 := by omega
    rw [G_X10_againstPlanIn_38, kif_pos (by decide), kif_pos (fun x h1 h2 => by omega)]
  | succ n ih =>
    intro i m hi hm
    obtain ⟨m, rfl⟩ : ∃ m', m = m' + 1 := ⟨m - 1, by omega⟩
    have ci : (nI s).toNatClampNeg = s := nI_clamp (by omega)
    have cx : (nI i).toNatClampNeg = i := nI_clamp (by omega)
    have hv := valEl hS (nI i) J
    rw [e3, hasW_k (rg_nI hz2 (by omega)) (by omega) (by rw [nn_nI (by omega)]; omega), if_neg (by decide), cx] at hv
    have hn := ih (i + 1) m (by omega) (by omega)
    rw [← nI_1] at hn
    have k1 : (lg_cmp (J 34 s i) (-1 : Int64) < 0) = (J 34 s i < -1) := propext (lg_cmp_lt _ _)
    have k2 : (lg_cmp (J 34 s i) (Int32.toInt64 (I 1 0 5)) < 0) = (J 34 s i < Int32.toInt64 (I 1 0 5)) := propext (lg_cmp_lt _ _)
    rw [G_X10_againstPlanIn_38, kif_neg (by show ¬ nI 24 ≤ nI i; rw [i_le (by omega) (by omega)]; omega), ci, kif_pos hv.2, hv.1, k1, k2]
    by_cases q1 : J 34 s i < -1
    · rw [kif_pos q1, kif_neg (fun y => (y i (Nat.le_refl _) (by omega)).1 q1)]
    · rw [kif_neg q1]
      by_cases q2 : J 34 s i < Int32.toInt64 (I 1 0 5)
      · rw [kif_pos q2, hn]
        refine congrArg some (kif_prop ⟨fun y x h1 h2 => ?_, fun y x h1 h2 => y x (by omega) h2⟩)
        by_cases e : x = i
        · rw [e]; exact ⟨q1, q2⟩
        · exact y x (by omega) h2
      · rw [kif_neg q2, kif_neg (fun y => q2 (y i (Nat.le_refl _) (by omega)).2)]
theorem g_isPlan {I : kI} {J : kJ} {s z : Nat} (hs : s ≤ 7) (hc : rg (I 41 0 13) 6) (e4 : I 50 0 s = nI z) (hz : 24 ≤ z) (hz2 : z ≤ 40) : ∀ n i m, i + n = 24 → n + 1 ≤ m → G_X11_isPlan (nI s) m 27 (nI i) I J = some (kif (∀ x, i ≤ x → x < 24 → okv (I 41 0 13) (J 51 0 (40 * s + x))) 0 (-102)) := by
  intro n
  induction n with
  | zero =>
    intro i m hi hm
    obtain ⟨m, rfl⟩ : ∃ m', m = m' + 1 := ⟨m - 1, by omega⟩
    obtain rfl : i = 24 := by omega
    rw [G_X11_isPlan_27, kif_pos (by decide), kif_pos (fun x h1 h2 => by omega)]
  | succ n ih =>
    intro i m hi hm
    obtain ⟨m, rfl⟩ : ∃ m', m = m' + 1 := ⟨m - 1, by omega⟩
    have ci : (nI s).toNatClampNeg = s := nI_clamp (by omega)
    have l13 : ((13 : Int32)).toNatClampNeg = 13 := rfl
    have v13 : vp_in (13 : Int32) 2509 := vl 13 2509 (by omega) (by omega)
    have hn := ih (i + 1) m (by omega) (by omega)
    rw [← nI_1] at hn
    have hm' := okv_M (v := J 51 0 (40 * s + i)) hc I J
    rw [G_X11_isPlan_27, kif_neg (by show ¬ nI 24 ≤ nI i; rw [i_le (by omega) (by omega)]; omega), kif_pos (vl s 8 (by omega) (by omega)), ci, e4, kif_neg (by show ¬ nI z < nI 24; rw [i_lt (by omega) (by omega)]; omega), e40, kif_pos (vl _ 320 (by omega) (by omega)), kif_pos v13, nI_clamp (by omega), l13]
    by_cases q : okv (I 41 0 13) (J 51 0 (40 * s + i))
    · rw [kif_neg (fun y => hm'.mp y q), hn]
      refine congrArg some (kif_prop ⟨fun y x h1 h2 => ?_, fun y x h1 h2 => y x (by omega) h2⟩)
      by_cases e : x = i
      · rw [e]; exact q
      · exact y x (by omega) h2
    · rw [kif_pos (hm'.mpr q), kif_neg (fun y => q (y i (Nat.le_refl _) (by omega)))]
/-- what stands against a shelf's plan, both sides -/
theorem against_plan {I I' : kI} {J J' : kJ} {c s : Nat} (hs : s ≤ 7) (hc : c ≤ 200) (hS : shl I J c s) (h13 : I 1 0 5 = I 41 0 13) (hr : rg (I 41 0 13) 6) (k13 : I' 41 0 13 = I 41 0 13) (k49 : I' 49 0 s = I 49 0 s) (k50 : I' 50 0 s = I 50 0 s) (kJ51 : ∀ x, x < 40 → J' 51 0 (40 * s + x) = J 51 0 (40 * s + x)) : ∃ v, E_X10_againstPlanIn (nI s) I J = some v ∧ E_X11_isPlan (nI s) I' J' = some v ∧ ((v = 0 ∧ (∃ z, 24 ≤ z ∧ z ≤ 40 ∧ I 4 s 1 = nI z) ∧ ∀ x, x < 24 → okv (I 41 0 13) (J 34 s x)) ∨ v = -102 ∨ v = -103 ∨ v = -104) := by
  have ci : (nI s).toNatClampNeg = s := nI_clamp (by omega)
  have vs : vp_in (nI s) 8 := vl s 8 (by omega) (by omega)
  have w : (if nI s < 0 then (0 : Int32) else if 7 < nI s then 0 else 1) = 1 := in_k (lo := 0) (hi := 7) (by omega) (by omega) hs
  have z1 : ¬ (1 : Int32) = 0 := by decide
  have n102 : ¬ (-102 : Int32) = 0 := by decide
  have n103 : ¬ (-103 : Int32) = 0 := by decide
  have n104 : ¬ (-104 : Int32) = 0 := by decide
  rcases sh_cases hS with ⟨e1, e2, e3⟩ | ⟨t, z, ht, hz, e1, e2, e4, e3⟩ | ⟨x, hx, e1, e2, e3⟩
  · refine ⟨-104, ?_, ?_, Or.inr (Or.inr (Or.inr rfl))⟩
    · unfold E_X10_againstPlanIn
      rw [kbd_eq (against_E hs hS.1 e1), F_within, w, kif_neg z1, kif_neg n104]
    · unfold E_X11_isPlan
      rw [kif_pos vs, ci, k49, e1, kif_pos (by decide), kif_pos vs, kif_neg (by decide)]
  · have l4 : nI t ≤ 4 := by show nI t ≤ nI 4; rw [i_le (by omega) (by omega)]; exact ht
    have g0 : (0 : Int32) ≤ nI t := Int32.not_lt.mp (i_nlt0 t (by omega))
    have hE := hasEls s z hz 0 24 I J e3
    have hz24 : F_X4_hasElements s 0 24 I J = 0 ↔ z < 24 := by
      have s0 : nI z - 0 = nI z := Int32.sub_zero _
      rw [hE, s0]
      constructor
      · rintro (y | y | y | y)
        · exact absurd y (by decide)
        · exact absurd y (by decide)
        · have y' : nI z < nI 0 := y
          rw [i_lt (by omega) (by omega)] at y'
          omega
        · have y' : nI z < nI 24 := y
          rw [i_lt (by omega) (by omega)] at y'
          exact y'
      · intro y
        refine Or.inr (Or.inr (Or.inr ?_))
        show nI z < nI 24
        rw [i_lt (by omega) (by omega)]
        exact y
    by_cases q : z < 24
    · refine ⟨-102, ?_, ?_, Or.inr (Or.inl rfl)⟩
      · unfold E_X10_againstPlanIn
        rw [kbd_eq (against_R hs hS.1 ht e1), F_within, w, kif_neg z1, kif_pos rfl, ci, kif_pos (hz24.mpr q)]
      · obtain ⟨m, hm⟩ : ∃ m, kfu = m + 1 := ⟨kfu - 1, by unfold kfu; omega⟩
        unfold E_X11_isPlan
        rw [kif_pos vs, ci, k49, e1, kif_pos l4, kif_pos vs, kif_pos g0, hm, G_X11_isPlan_27, kif_neg (by decide), kif_pos vs, ci, k50, e4, kif_pos (by show nI z < nI 24; rw [i_lt (by omega) (by omega)]; exact q)]
    · have ga := g_against hs hS e3 (by omega) hz 24 0 kfu (by omega) (by unfold kfu; omega)
      have gi := g_isPlan (I := I') (J := J') hs (by rw [k13]; exact hr) (k50.trans e4) (by omega) hz 24 0 kfu (by omega) (by unfold kfu; omega)
      have eC : E_X10_againstPlanIn (nI s) I J = some (kif (∀ x, 0 ≤ x → x < 24 → okv (I 1 0 5) (J 34 s x)) 0 (-102)) := by
        unfold E_X10_againstPlanIn
        rw [kbd_eq (against_R hs hS.1 ht e1), F_within, w, kif_neg z1, kif_pos rfl, ci, kif_neg (fun y => q (hz24.mp y))]
        exact ga
      have eM : E_X11_isPlan (nI s) I' J' = some (kif (∀ x, 0 ≤ x → x < 24 → okv (I' 41 0 13) (J' 51 0 (40 * s + x))) 0 (-102)) := by
        unfold E_X11_isPlan
        rw [kif_pos vs, ci, k49, e1, kif_pos l4, kif_pos vs, kif_pos g0]
        exact gi
      have pp : (∀ x, 0 ≤ x → x < 24 → okv (I' 41 0 13) (J' 51 0 (40 * s + x))) ↔ (∀ x, 0 ≤ x → x < 24 → okv (I 1 0 5) (J 34 s x)) := by
        constructor
        · intro y x h1 h2
          have := y x h1 h2
          rw [k13, kJ51 x (by omega)] at this
          rw [h13, hS.2.1 x (by omega)]
          exact this
        · intro y x h1 h2
          have := y x h1 h2
          rw [h13, hS.2.1 x (by omega)] at this
          rw [k13, kJ51 x (by omega)]
          exact this
      rw [kif_prop pp] at eM
      refine ⟨_, eC, eM, ?_⟩
      by_cases y : ∀ x, 0 ≤ x → x < 24 → okv (I 1 0 5) (J 34 s x)
      · rw [kif_pos y]
        refine Or.inl ⟨rfl, ⟨z, by omega, hz, e3⟩, fun x hx => ?_⟩
        rw [← h13]
        exact y x (Nat.zero_le _) hx
      · rw [kif_neg y]
        exact Or.inr (Or.inl rfl)
  · refine ⟨-103, ?_, ?_, Or.inr (Or.inr (Or.inl rfl))⟩
    · unfold E_X10_againstPlanIn
      rw [kbd_eq (against_S hs hS.1 (by omega) e1), F_within, w, kif_neg z1, kif_neg n103]
    · unfold E_X11_isPlan
      rw [kif_pos vs, ci, k49, e1, kif_neg (by show ¬ nI (10 + x) ≤ nI 4; rw [i_le (by omega) (by omega)]; omega)]
/-- the plan is taken -/
def tpF (f : Nat → Int32) (v : Nat → Int32) (i : Nat) : Nat → Int32 := fun x => if x < i then v x else f x
theorem g_assign {I : kI} {J : kJ} {c s z o : Nat} (hS : shl I J c s) (e3 : I 4 s 1 = nI z) (hz : 24 ≤ z) (hz2 : z ≤ 40) : ∀ n i m, i + n = 24 → n + 1 ≤ m → G_X10_assignAll o s m 7 (nI i) (kx_uA I 37 o (tpF (I 37 o) (fun x => Int64.toInt32 (J 34 s x)) i)) J = some (kx_uA I 37 o (tpF (I 37 o) (fun x => Int64.toInt32 (J 34 s x)) 24), J) := by
  intro n
  induction n with
  | zero =>
    intro i m hi hm
    obtain ⟨m, rfl⟩ : ∃ m', m = m' + 1 := ⟨m - 1, by omega⟩
    obtain rfl : i = 24 := by omega
    rw [G_X10_assignAll_7, kif_pos (by decide)]
  | succ n ih =>
    intro i m hi hm
    obtain ⟨m, rfl⟩ : ∃ m', m = m' + 1 := ⟨m - 1, by omega⟩
    have cx : (nI i).toNatClampNeg = i := nI_clamp (by omega)
    obtain ⟨K, hK⟩ : ∃ K, K = kx_uA I 37 o (tpF (I 37 o) (fun x => Int64.toInt32 (J 34 s x)) i) := ⟨_, rfl⟩
    have kn : ∀ t o2 j, ¬ t = 37 → K t o2 j = I t o2 j := fun t o2 j q => by rw [hK, kx_uA_app, if_neg (fun y => q y.1)]
    have hS' : shl K J c s := shl_congr hS (Nat.le_refl _) (fun j => kn _ _ _ (by omega)) (kn _ _ _ (by omega)) (kn _ _ _ (by omega)) (fun _ _ => rfl) (fun _ _ => rfl)
    have hv := valEl hS' (nI i) J
    rw [kn _ _ _ (by omega), e3, hasW_k (rg_nI hz2 (by omega)) (by omega) (by rw [nn_nI (by omega)]; omega), if_neg (by decide), cx] at hv
    have hh : F_X10_isHourOfDay (nI i) K J = 1 := F_hourOfDay i (by omega) K J
    have z1 : ¬ (1 : Int32) = 0 := by decide
    have pa : ∀ v, pre_X6_assign o (nI i) v K J := fun v => by
      unfold pre_X6_assign pre_X10_isHourOfDay
      rw [hh, kif_neg z1]
      have e : F_X10_isWithin (nI i) 0 23 K J = 1 := hh
      exact ⟨Or.inr e, vl i 24 (by omega) (by omega), trivial⟩
    have ea : ∀ v, F_X6_assign o (nI i) v K J = (kw K 37 o i v, J) := fun v => by
      unfold F_X6_assign
      rw [hh, kif_neg z1, cx]
    have hn := ih (i + 1) m (by omega) (by omega)
    have st : upd (tpF (I 37 o) (fun x => Int64.toInt32 (J 34 s x)) i) i (Int64.toInt32 (J 34 s i)) = tpF (I 37 o) (fun x => Int64.toInt32 (J 34 s x)) (i + 1) := by
      funext x
      simp only [upd, tpF]
      by_cases q : x = i
      · rw [if_pos q, if_pos (by omega), q]
      · rw [if_neg q]
        by_cases q2 : x < i
        · rw [if_pos q2, if_pos (by omega)]
        · rw [if_neg q2, if_neg (by omega)]
    rw [← hK, G_X10_assignAll_7, kif_neg (by show ¬ nI 24 ≤ nI i; rw [i_le (by omega) (by omega)]; omega), kif_pos hv.2, hv.1, kif_pos (pa _), ea, hK, kw_uA, st, nI_1]
    exact hn
theorem tpF_0 (f v : Nat → Int32) : tpF f v 0 = f := by
  funext x
  unfold tpF
  rw [if_neg (by omega)]
theorem E_assignAll {I : kI} {J : kJ} {c s z : Nat} (o : Nat) (hS : shl I J c s) (e3 : I 4 s 1 = nI z) (hz : 24 ≤ z) (hz2 : z ≤ 40) : E_X10_assignAll o s I J = some (kx_uA I 37 o (tpF (I 37 o) (fun x => Int64.toInt32 (J 34 s x)) 24), J) := by
  have g := g_assign (o := o) hS e3 hz hz2 24 0 kfu (by omega) (by unfold kfu; omega)
  rw [tpF_0, kx_uA_id] at g
  exact g
def tpG (g : Nat → Int32) (v : Nat → Int32) (i : Nat) : Nat → Int32 := fun j => if 85 ≤ j ∧ j < 85 + i then v (j - 85) else g j
theorem tpG_0 (g v : Nat → Int32) : tpG g v 0 = g := by
  funext j
  unfold tpG
  rw [if_neg (by omega)]
theorem g_takes (s : Nat) (hs : s ≤ 7) (I : kI) (J : kJ) : ∀ n i m, i + n = 24 → n + 1 ≤ m → G_X11_takesPlan (nI s) m 2 (nI i) (kx_uA I 41 0 (tpG (I 41 0) (fun x => Int64.toInt32 (J 51 0 (40 * s + x))) i)) J = some (kx_uA I 41 0 (tpG (I 41 0) (fun x => Int64.toInt32 (J 51 0 (40 * s + x))) 24), J) := by
  intro n
  induction n with
  | zero =>
    intro i m hi hm
    obtain ⟨m, rfl⟩ : ∃ m', m = m' + 1 := ⟨m - 1, by omega⟩
    obtain rfl : i = 24 := by omega
    rw [G_X11_takesPlan_2, kif_pos (by decide)]
  | succ n ih =>
    intro i m hi hm
    obtain ⟨m, rfl⟩ : ∃ m', m = m' + 1 := ⟨m - 1, by omega⟩
    have c85 : ((85 : Int32) + nI i).toNatClampNeg = 85 + i := ix1c (a := 85) (by omega)
    have v85 : vp_in ((85 : Int32) + nI i) 2509 := ix1v (a := 85) (by omega) (by omega)
    have hn := ih (i + 1) m (by omega) (by omega)
    have st : upd (tpG (I 41 0) (fun x => Int64.toInt32 (J 51 0 (40 * s + x))) i) (85 + i) (Int64.toInt32 (J 51 0 (40 * s + i))) = tpG (I 41 0) (fun x => Int64.toInt32 (J 51 0 (40 * s + x))) (i + 1) := by
      funext j
      simp only [upd, tpG]
      by_cases q : j = 85 + i
      · rw [if_pos q, if_pos (by omega), q, show 85 + i - 85 = i by omega]
      · rw [if_neg q]
        by_cases q2 : 85 ≤ j ∧ j < 85 + i
        · rw [if_pos q2, if_pos (by omega)]
        · rw [if_neg q2, if_neg (by omega)]
    rw [G_X11_takesPlan_2, kif_neg (by show ¬ nI 24 ≤ nI i; rw [i_le (by omega) (by omega)]; omega), e40, kif_pos (vl _ 320 (by omega) (by omega)), kif_pos v85, c85, nI_clamp (by omega), kw_uA, st, nI_1]
    exact hn
theorem E_takesPlan (s : Nat) (hs : s ≤ 7) (I : kI) (J : kJ) : E_X11_takesPlan (nI s) I J = some (kx_uA I 41 0 (tpG (I 41 0) (fun x => Int64.toInt32 (J 51 0 (40 * s + x))) 24), J) := by
  have g := g_takes s hs I J 24 0 kfu (by omega) (by unfold kfu; omega)
  rw [tpG_0, kx_uA_id] at g
  exact g
theorem tpG_ne (g v : Nat → Int32) {j : Nat} (h : ¬ (85 ≤ j ∧ j < 109)) : tpG g v 24 j = g j := by
  unfold tpG
  rw [if_neg (by omega)]
theorem tpG_at (g v : Nat → Int32) {i : Nat} (h : i < 24) : tpG g v 24 (85 + i) = v i := by
  unfold tpG
  rw [if_pos (by omega), show 85 + i - 85 = i by omega]
theorem WG_plan {g v : Nat → Int32} {N : Nat} (h : WG g N) (hv : ∀ i, i < 24 → v i = -1 ∨ ∃ j, j < nn (g 13) ∧ v i = nI j) : WG (tpG g v 24) N := by
  refine WG_sc h (fun j h1 h2 h3 => tpG_ne _ _ h3) (tpG_ne _ _ (by omega)) (fun i hi => ?_) ?_
  · rw [tpG_at _ _ hi, tpG_ne _ _ (by omega)]
    exact hv i hi
  · unfold WO
    rw [tpG_ne _ _ (by omega), tpG_ne _ _ (by omega), tpG_ne _ _ (by omega), tpG_ne _ _ (by omega), tpG_ne _ _ (by omega), tpG_ne _ _ (by omega), tpG_ne _ _ (by omega)]
    exact h.2.2.2.2.2.2.1
theorem CS_plan {I : kI} {o : Nat} {g v : Nat → Int32} (h : CS I o g) (hg : rg (g 12) 20) (hk : rg (g 13) 6) : CS (kx_uA I 37 o (tpF (I 37 o) v 24)) o (tpG g v 24) := by
  have h12 := hg.2
  have h13 := hk.2
  obtain ⟨s1, s2, s3, s4, s5, s6, s7, s8, s9⟩ := h
  have e12 : tpG g v 24 12 = g 12 := tpG_ne _ _ (by omega)
  have e13 : tpG g v 24 13 = g 13 := tpG_ne _ _ (by omega)
  have kn : ∀ t j, ¬ t = 37 → (kx_uA I 37 o (tpF (I 37 o) v 24)) t o j = I t o j := fun t j q => by rw [kx_uA_app, if_neg (fun y => q y.1)]
  refine ⟨fun j hj => ?_, fun j hj => ?_, ?_, ?_, ?_, ?_, ?_, ?_, fun i hi => ?_⟩
  · rw [kn _ _ (by omega), tpG_ne _ _ (by omega)]; exact s1 j hj
  · rw [kn _ _ (by omega), tpG_ne _ _ (by omega)]; exact s2 j hj
  · rw [kn _ _ (by omega), tpG_ne _ _ (by omega)]; exact s3
  · rw [kn _ _ (by omega), e12]; exact s4
  · rw [kn _ _ (by omega), e12, s5]
    refine congrArg nI (lsum_congr _ _ (fun x _ hx => ?_))
    show nn _ = nn _
    rw [tpG_ne _ _ (by omega)]
  · rw [e12]
    intro r hr
    rw [kn _ _ (by omega), kn _ _ (by omega), tpG_ne _ _ (by omega), tpG_ne _ _ (by omega)]
    exact s6 r hr
  · rw [kn _ _ (by omega), e13]; exact s7
  · rw [e13]
    intro i hi
    rw [kn _ _ (by omega), kn _ _ (by omega), kn _ _ (by omega), kn _ _ (by omega), kn _ _ (by omega), tpG_ne _ _ (by omega), tpG_ne _ _ (by omega), tpG_ne _ _ (by omega), tpG_ne _ _ (by omega)]
    exact s8 i hi
  · rw [kx_uA_app, if_pos ⟨rfl, rfl⟩, tpG_at _ _ hi]
    unfold tpF
    rw [if_pos hi]
theorem mm_plans {N : Nat} {I : kI} {J : kJ} (h : Inv N I J) (a : Int32) : MM sp_X10_plans sp_X11_plans [kx_i a] N I J := by
  have hs := fun I J => isShelf_p a I J
  have hg := h.1
  have h13 := hg.2.2.1
  have ic : I 1 0 5 = I 41 0 13 := h.2.1.1.2.2.2.2.2.2.1
  have n102 : ¬ (-102 : Int32) = 0 := by decide
  by_cases w : (if a < 0 then (0 : Int32) else if 7 < a then 0 else 1) = 0
  · have c1 := cs_X10_plans a I J (-102, rfC 0 I, J) (by
      unfold E_X10_plans E_X10_againstPlanIn
      rw [kbd_eq (show kbd (E_X10_againstRowIn a I J) _ = some (-102 : Int32) by rw [kbd_eq (against_no w), F_within, kif_pos w, kif_neg n102]), kif_neg n102, kif_pos (rC0 I J).2, (rC0 I J).1])
    have c2 := cs_X11_plans a (rfC 0 I) J (-102, rfM 0 (rfC 0 I), J) (by unfold E_X11_plans; rw [kif_pos (hs _ _).2, (hs _ _).1, kif_pos w, kif_neg (by decide), kif_pos (rM0 _ J).2, (rM0 _ J).1])
    exact ref_both h c1 rfl c2 rfl
  · obtain ⟨s, _, hs7, rfl⟩ := in_yes (lo := 0) (hi := 7) (by omega) (by omega) w
    have ci : (nI s).toNatClampNeg = s := nI_clamp (by omega)
    have hS := h.2.2.2.1 s (by omega)
    have hc := hg.2.2.2.1.2
    have rf : ∀ k v, (∀ I J, F_X10_refuse v I J = (v, rfC k I, J) ∧ pre_X10_refuse v I J) → (∀ I J, F_X11_refused v I J = (v, rfM k I, J) ∧ pre_X11_refused v I J) → k < 5 → ¬ v = 0 → ¬ 0 ≤ v → E_X10_againstPlanIn (nI s) I J = some v → E_X11_isPlan (nI s) (rfC k I) J = some v → MM sp_X10_plans sp_X11_plans [kx_i (nI s)] N I J := fun k v y1 y2 hk v0 v1 e1 e2 => by
      have c1 := cs_X10_plans (nI s) I J (v, rfC k I, J) (by unfold E_X10_plans; rw [kbd_eq e1, kif_neg v0, kif_pos (y1 I J).2, (y1 I J).1])
      have c2 := cs_X11_plans (nI s) (rfC k I) J (v, rfM k (rfC k I), J) (by unfold E_X11_plans; rw [kif_pos (hs _ _).2, (hs _ _).1, kif_neg w, kbd_eq e2, kif_neg v1, kif_pos (y2 _ J).2, (y2 _ J).1])
      exact MM_f c1 rfl c2 rfl (Inv_ref' h k hk)
    have ap := fun k => against_plan (I' := rfC k I) (J' := J) hs7 hc hS ic h13 (rfC_at _ _ _ _ (by omega)) (rfC_at _ _ _ _ (by omega)) (rfC_at _ _ _ _ (by omega)) (fun _ _ => rfl)
    obtain ⟨v, e1, e2, hv⟩ := ap 0
    obtain ⟨v1, f1, f2, _⟩ := ap 1
    obtain ⟨v2, g1, g2, _⟩ := ap 2
    have u1 : v1 = v := Option.some.inj (f1.symm.trans e1)
    have u2 : v2 = v := Option.some.inj (g1.symm.trans e1)
    rw [u1] at f2
    rw [u2] at g2
    rcases hv with ⟨rfl, ⟨z, hz, hz2, e3⟩, ok⟩ | rfl | rfl | rfl
    · obtain ⟨I1, hI1⟩ : ∃ I1, I1 = kx_uA I 37 0 (tpF (I 37 0) (fun x => Int64.toInt32 (J 34 s x)) 24) := ⟨_, rfl⟩
      have ea := E_assignAll 0 hS e3 hz hz2
      rw [← hI1] at ea
      have k1 : ∀ t o j, ¬ t = 37 → I1 t o j = I t o j := fun t o j q => by rw [hI1, kx_uA_app, if_neg (fun y => q y.1)]
      have c1 := cs_X10_plans (nI s) I J (1, I1, J) (by unfold E_X10_plans; rw [kbd_eq e1, kif_pos rfl, F_within, kif_neg w, ci, kbd_eq ea])
      obtain ⟨v3, h1, h2, _⟩ := against_plan (I' := I1) (J' := J) hs7 hc hS ic h13 (k1 _ _ _ (by omega)) (k1 _ _ _ (by omega)) (k1 _ _ _ (by omega)) (fun _ _ => rfl)
      have u3 : v3 = 0 := Option.some.inj (h1.symm.trans e1)
      rw [u3] at h2
      have c2 := cs_X11_plans (nI s) I1 J _ (by unfold E_X11_plans; rw [kif_pos (hs _ _).2, (hs _ _).1, kif_neg w, kbd_eq h2, kif_pos (by decide), kbd_eq (E_takesPlan s hs7 I1 J)])
      have k41 : I1 41 0 = I 41 0 := funext fun j => k1 _ _ _ (by omega)
      have ev : (fun x => Int64.toInt32 (J 51 0 (40 * s + x))) = (fun x => if x < 24 then Int64.toInt32 (J 34 s x) else Int64.toInt32 (J 51 0 (40 * s + x))) := funext fun x => by
        by_cases q : x < 24
        · rw [if_pos q, hS.2.1 x (by omega)]
        · rw [if_neg q]
      have e41 : tpG (I1 41 0) (fun x => Int64.toInt32 (J 51 0 (40 * s + x))) 24 = tpG (I 41 0) (fun x => Int64.toInt32 (J 34 s x)) 24 := funext fun j => by
        rw [k41]
        unfold tpG
        by_cases q : 85 ≤ j ∧ j < 85 + 24
        · rw [if_pos q, if_pos q]
          show Int64.toInt32 (J 51 0 (40 * s + (j - 85))) = Int64.toInt32 (J 34 s (j - 85))
          rw [hS.2.1 (j - 85) (by omega)]
        · rw [if_neg q, if_neg q]
      refine MM_f c1 rfl c2 rfl ?_
      show Inv (N + 200) (kx_uA I1 41 0 (tpG (I1 41 0) (fun x => Int64.toInt32 (J 51 0 (40 * s + x))) 24)) J
      rw [e41]
      have k2 : ∀ t o j, ¬ (t = 41 ∧ o = 0) → ¬ t = 37 → (kx_uA I1 41 0 (tpG (I 41 0) (fun x => Int64.toInt32 (J 34 s x)) 24)) t o j = I t o j := fun t o j q1 q2 => by rw [kx_uA_app, if_neg q1, k1 _ _ _ q2]
      have k3 : ∀ t j, (kx_uA I1 41 0 (tpG (I 41 0) (fun x => Int64.toInt32 (J 34 s x)) 24)) t 1 j = I t 1 j := fun t j => by rw [kx_uA_app, if_neg (by omega), hI1, kx_uA_app, if_neg (by omega)]
      refine Inv_w h ⟨fun t j _ => k3 t j, fun s j => k2 _ _ _ (by omega) (by omega), fun t j q => k2 _ _ _ (by omega) (by omega), k2 _ _ _ (by omega) (by omega), k2 _ _ _ (by omega) (by omega), k2 _ _ _ (by omega) (by omega), funext fun j => k2 _ _ _ (by omega) (by omega)⟩ (Nat.le_add_right N 200) ?_ ?_ ?_
      · rw [kx_uA_eq]
        exact WG_mono (WG_plan hg (fun i hi => okv_k h13 (ok i hi))) (by omega)
      · rw [kx_uA_eq]
        have hcs := CS_plan (v := fun x => Int64.toInt32 (J 34 s x)) h.2.1.1 hg.2.1 h13
        rw [← hI1] at hcs
        exact CW_S h.2.1 (CS_congr hcs (fun t j q => by rw [kx_uA_app, if_neg (by unfold stT at q; omega)])) (fun t j q => k2 _ _ _ (by omega) (by omega)) (fun j q => tpG_ne _ _ (by omega))
      · rw [kx_uA_eq, tpG_ne _ _ (by omega)]
        exact Nat.le_refl _
    · exact rf 0 (-102) rC0 rM0 (by omega) (by decide) (by decide) e1 e2
    · exact rf 1 (-103) rC1 rM1 (by omega) (by decide) (by decide) e1 f2
    · exact rf 2 (-104) rC2 rM2 (by omega) (by decide) (by decide) e1 g2

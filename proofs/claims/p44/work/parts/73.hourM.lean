/-! an hour of the reference: the lamp, the tired -/
def plM (I : kI) (d t : Int32) : Int32 := if ¬ d = 0 ∧ (¬ t = 0 ∨ (I 41 0 6 = 1 ∧ I 41 0 7 = 0)) ∧ ¬ I 41 0 4 < I 41 0 3 then 1 else 0
def bit24 (h : Int32) : Int32 := (1 : Int32) <<< ((h - h / (24 : Int32) * (24 : Int32)) &&& 31)
def plG (I : kI) (d t : Int32) (j : Nat) : Int32 := if j = 6 then plM I d t else if j = 4 then (if plM I d t = 0 then I 41 0 4 else I 41 0 4 - I 41 0 3) else if j = 7 then (if ¬ plM I d t = 0 ∧ t = 0 then 1 else 0) else if j = 16 then (if ¬ d = 0 ∧ plM I d t = 0 then I 41 0 16 + 1 else I 41 0 16) else if j = 17 then (if ¬ d = 0 ∧ plM I d t = 0 then I 41 0 17 ||| bit24 (I 41 0 0) else I 41 0 17) else I 41 0 j
def plX (I : kI) (d t : Int32) : kI := kx_uA I 41 0 (plG I d t)
theorem plX_app (I : kI) (d t : Int32) (t2 o2 j : Nat) : plX I d t t2 o2 j = if t2 = 41 ∧ o2 = 0 then plG I d t j else I t2 o2 j := by
  unfold plX
  rw [kx_uA_app]
theorem E_passesLamp (d t : Int32) (I : kI) (J : kJ) : E_X11_passesLamp d t I J = some (plX I d t, J) := by
  obtain ⟨m, hm⟩ : ∃ m, kfu = m + 12 := ⟨kfu - 12, by unfold kfu; omega⟩
  unfold E_X11_passesLamp
  rw [hm]
  obtain ⟨Z, hZ⟩ : ∃ Z, Z = plX I d t := ⟨_, rfl⟩
  rw [← hZ]
  have e : ∀ K : kI, (∀ t2 o2 j, K t2 o2 j = plX I d t t2 o2 j) → some (K, J) = some (Z, J) := fun K hK => by rw [hZ, kI_ext hK]
  clear hZ
  have l3 : ((3 : Int32)).toNatClampNeg = 3 := rfl
  have l4 : ((4 : Int32)).toNatClampNeg = 4 := rfl
  have l6 : ((6 : Int32)).toNatClampNeg = 6 := rfl
  have l7 : ((7 : Int32)).toNatClampNeg = 7 := rfl
  have l0 : ((0 : Int32)).toNatClampNeg = 0 := rfl
  have l16 : ((16 : Int32)).toNatClampNeg = 16 := rfl
  have l17 : ((17 : Int32)).toNatClampNeg = 17 := rfl
  have v : ∀ n : Nat, n < 2509 → vp_in (nI n) 2509 := fun n h => vl n 2509 h (by omega)
  have v0 : vp_in (0 : Int32) 2509 := v 0 (by omega)
  have v3 : vp_in (3 : Int32) 2509 := v 3 (by omega)
  have v4 : vp_in (4 : Int32) 2509 := v 4 (by omega)
  have v6 : vp_in (6 : Int32) 2509 := v 6 (by omega)
  have v7 : vp_in (7 : Int32) 2509 := v 7 (by omega)
  have v16 : vp_in (16 : Int32) 2509 := v 16 (by omega)
  have v17 : vp_in (17 : Int32) 2509 := v 17 (by omega)
  by_cases hd : d = 0 <;> by_cases ht : t = 0 <;> by_cases h6 : I 41 0 6 = 1 <;> by_cases h7 : I 41 0 7 = 0 <;> by_cases h4 : I 41 0 4 < I 41 0 3 <;>
    simp only [G_X11_passesLamp_29, G_X11_passesLamp_48, G_X11_passesLamp_49, G_X11_passesLamp_65, G_X11_passesLamp_87, G_X11_passesLamp_107, G_X11_passesLamp_108, G_X11_passesLamp_128, G_X11_passesLamp_149, kif_pos v0, kif_pos v3, kif_pos v4, kif_pos v6, kif_pos v7, kif_pos v16, kif_pos v17, k24, l0, l3, l4, l6, l7, l16, l17, kif_eq, kw_app, hd, ht, h6, h7, h4, if_true, if_false, and_true, true_and, Nat.reduceEqDiff, false_and, and_false, or_true, true_or, e10, e01, or_false, false_or, not_true_eq_false, not_false_eq_true] <;>
    refine e _ (fun t2 o2 j => ?_) <;>
    simp only [plX_app, plG, plM, bit24, kw_app, hd, ht, h6, h7, h4, e10, e01] <;>
    grind
def trV (g : Nat → Int32) (w wth : Int32) (i : Nat) : Int32 := if nI i = w then (if wth = 2 then g (61 + 4 * i + 1) + 2 else g (61 + 4 * i + 1) + 1) else (if 0 < g (61 + 4 * i + 1) - 2 then g (61 + 4 * i + 1) - 2 else 0)
/-- below the i-th keeper -/
def trG (g : Nat → Int32) (w wth : Int32) (i : Nat) (j : Nat) : Int32 := if 62 ≤ j ∧ (j - 62) % 4 = 0 ∧ (j - 62) / 4 < i then trV g w wth ((j - 62) / 4) else g j
theorem trG_step (g : Nat → Int32) (w wth : Int32) (i : Nat) : upd (trG g w wth i) (61 + 4 * i + 1) (trV g w wth i) = trG g w wth (i + 1) := by
  funext j
  simp only [upd, trG]
  by_cases hj : j = 61 + 4 * i + 1
  · subst hj
    have e : (61 + 4 * i + 1 - 62) / 4 = i := by omega
    rw [if_pos rfl, if_pos ⟨by omega, by omega, by omega⟩, e]
  · rw [if_neg hj]
    by_cases hc : 62 ≤ j ∧ (j - 62) % 4 = 0 ∧ (j - 62) / 4 < i
    · rw [if_pos hc, if_pos ⟨hc.1, hc.2.1, by omega⟩]
    · rw [if_neg hc, if_neg (fun q => hc ⟨q.1, q.2.1, by omega⟩)]
theorem trG_0 (g : Nat → Int32) (w wth : Int32) : trG g w wth 0 = g := by
  funext j
  simp [trG]
theorem trG_at (g : Nat → Int32) (w wth : Int32) (i : Nat) : trG g w wth i (61 + 4 * i + 1) = g (61 + 4 * i + 1) := by
  unfold trG
  rw [if_neg (fun q => by omega)]
theorem trG_13 (g : Nat → Int32) (w wth : Int32) (i : Nat) : trG g w wth i 13 = g 13 := by
  unfold trG
  rw [if_neg (fun q => by omega)]
theorem g_tires (w wth : Int32) (I : kI) (J : kJ) {c : Nat} (hc : c ≤ 6) (hI : I 41 0 13 = nI c) : ∀ n i m, i + n = c → G_X11_tires w wth (m + n + 1) 2 (nI i) (kx_uA I 41 0 (trG (I 41 0) w wth i)) J = some (kx_uA I 41 0 (trG (I 41 0) w wth c), J) := by
  intro n
  induction n with
  | zero =>
    intro i m hi
    obtain rfl : i = c := by omega
    rw [G_X11_tires_2, kv (by decide) (by decide), kn (by decide), kx_uA_eq, trG_13, hI, kif_pos (nI_le (by omega) (by omega))]
  | succ n ih =>
    intro i m hi
    have hcl : ((61 : Int32) + 4 * nI i + 1).toNatClampNeg = 61 + 4 * i + 1 := ix3c (a := 61) (b := 4) (c := 1) (by omega)
    have hv : vp_in ((61 : Int32) + 4 * nI i + 1) 2509 := ix3v (a := 61) (b := 4) (c := 1) (by omega) (by omega)
    have hn := ih (i + 1) m (by omega)
    rw [← nI_1, ← trG_step, ← kw_uA] at hn
    rw [G_X11_tires_2, kv (by decide) (by decide), kn (by decide)]
    unfold F_X11_ofKeeper pre_X11_ofKeeper
    rw [kx_uA_eq, trG_13, hI, kif_neg (nI_ge (by omega) (by omega)), kif_pos ⟨hv, trivial⟩, hcl, trG_at]
    unfold trV at hn
    by_cases h1 : nI i = w
    · rw [kif_pos h1]
      rw [if_pos h1] at hn
      by_cases h2 : wth = 2
      · rw [kif_pos h2, kif_pos hv]
        rw [if_pos h2] at hn
        exact hn
      · rw [kif_neg h2, kif_pos hv]
        rw [if_neg h2] at hn
        exact hn
    · rw [kif_neg h1, kif_pos hv]
      rw [if_neg h1] at hn
      exact hn
theorem E_tires (w wth : Int32) (I : kI) (J : kJ) {c : Nat} (hc : c ≤ 6) (hI : I 41 0 13 = nI c) : E_X11_tires w wth I J = some (kx_uA I 41 0 (trG (I 41 0) w wth c), J) := by
  obtain ⟨m, hm⟩ : ∃ m, kfu = m + c + 1 := ⟨kfu - c - 1, by unfold kfu; omega⟩
  have h := g_tires w wth I J hc hI c 0 m (by omega)
  rw [trG_0, kx_uA_id] at h
  unfold E_X11_tires
  rw [hm]
  exact h

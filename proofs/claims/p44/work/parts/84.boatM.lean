/-! the reference's boat, and the hour's end -/
def zrG (g : Nat → Int32) (i : Nat) (j : Nat) : Int32 := if 62 ≤ j ∧ (j - 62) % 4 = 0 ∧ (j - 62) / 4 < i then 0 else g j
theorem zrG_step (g : Nat → Int32) (i : Nat) : upd (zrG g i) (61 + 4 * i + 1) 0 = zrG g (i + 1) := by
  funext j
  simp only [upd, zrG]
  by_cases hj : j = 61 + 4 * i + 1
  · rw [if_pos hj, if_pos ⟨by omega, by omega, by omega⟩]
  · rw [if_neg hj]
    by_cases hc : 62 ≤ j ∧ (j - 62) % 4 = 0 ∧ (j - 62) / 4 < i
    · rw [if_pos hc, if_pos ⟨hc.1, hc.2.1, by omega⟩]
    · rw [if_neg hc, if_neg (fun q => hc ⟨q.1, q.2.1, by omega⟩)]
theorem zrG_0 (g : Nat → Int32) : zrG g 0 = g := by
  funext j
  simp [zrG]
theorem zrG_lo (g : Nat → Int32) (i : Nat) {j : Nat} (h : j < 62) : zrG g i j = g j := by
  unfold zrG
  rw [if_neg (fun q => by omega)]
def hend (v1 v3 v6 : Int32) (I : kI) : kI := kw (kw (kw I 11 0 5 v3) 11 0 6 v6) 41 0 0 (v1 + 1)
theorem g_end (v1 v3 v6 : Int32) (h3 : v3 = 0 ∨ v3 = 1) (h6 : v6 = 0 ∨ v6 = 1) (I : kI) (J : kJ) (m : Nat) (v2 v4 v5 v7 v8 v9 s0 s1 s2 s3 : Int32) : G_X11_hourPasses (m + 1) 448 v1 v2 v3 v4 v5 v6 v7 v8 v9 s0 s1 s2 s3 I J = some (hend v1 v3 v6 I, J) := by
  have l0 : ((0 : Int32)).toNatClampNeg = 0 := rfl
  have v0 : vp_in (0 : Int32) 2509 := vl 0 2509 (by omega) (by omega)
  rw [G_X11_hourPasses_448, kif_pos h3, kif_pos h6, kif_pos v0, l0]
  rfl
theorem g_zero (v1 v3 v6 : Int32) (h3 : v3 = 0 ∨ v3 = 1) (h6 : v6 = 0 ∨ v6 = 1) (I : kI) (J : kJ) {c : Nat} (hc : c ≤ 6) (hI : I 41 0 13 = nI c) : ∀ n i m, i + n = c → n + 2 ≤ m → G_X11_hourPasses m 415 v1 0 v3 0 0 v6 0 0 (nI i) 0 0 0 0 (kx_uA I 41 0 (zrG (I 41 0) i)) J = some (hend v1 v3 v6 (kx_uA I 41 0 (zrG (I 41 0) c)), J) := by
  have l13 : ((13 : Int32)).toNatClampNeg = 13 := rfl
  have v13 : vp_in (13 : Int32) 2509 := vl 13 2509 (by omega) (by omega)
  intro n
  induction n with
  | zero =>
    intro i m hi hm
    obtain ⟨m, rfl⟩ : ∃ m', m = m' + 2 := ⟨m - 2, by omega⟩
    obtain rfl : i = c := by omega
    rw [G_X11_hourPasses_415, kif_pos v13, l13, kx_uA_eq, zrG_lo _ _ (by omega), hI, kif_pos (nI_le (by omega) (by omega))]
    exact g_end v1 v3 v6 h3 h6 _ J m _ _ _ _ _ _ _ _ _ _
  | succ n ih =>
    intro i m hi hm
    obtain ⟨m, rfl⟩ : ∃ m', m = m' + 1 := ⟨m - 1, by omega⟩
    have hcl : ((61 : Int32) + 4 * nI i + 1).toNatClampNeg = 61 + 4 * i + 1 := ix3c (a := 61) (b := 4) (c := 1) (by omega)
    have hv : vp_in ((61 : Int32) + 4 * nI i + 1) 2509 := ix3v (a := 61) (b := 4) (c := 1) (by omega) (by omega)
    have hn := ih (i + 1) m (by omega) (by omega)
    rw [← nI_1, ← zrG_step, ← kw_uA] at hn
    rw [G_X11_hourPasses_415, kif_pos v13, l13, kx_uA_eq, zrG_lo _ _ (by omega), hI, kif_neg (nI_ge (by omega) (by omega)), kif_pos hv, hcl]
    exact hn
def bmG (g : Nat → Int32) (v1 : Int32) : Nat → Int32 := fun j => if j = 18 then g 18 + 1 else if j = 8 then v1 + g 9 else if j = 5 then mn9 (g 5 + g 11) else if j = 4 then mn9 (g 4 + g 10) else g j
def bmX (I : kI) (v1 : Int32) (c : Nat) : kI := kx_uA (kw I 11 0 7 1) 41 0 (zrG (bmG (I 41 0) v1) c)
theorem g_boat (v1 v3 v6 : Int32) (h3 : v3 = 0 ∨ v3 = 1) (h6 : v6 = 0 ∨ v6 = 1) (I : kI) (J : kJ) {c : Nat} (hc : c ≤ 6) (hI : I 41 0 13 = nI c) (m : Nat) (hm : c + 4 ≤ m) (s0 s2 s3 : Int32) : G_X11_hourPasses m 323 v1 0 v3 0 0 v6 0 0 0 s0 0 s2 s3 I J = some (hend v1 v3 v6 (kw I 11 0 7 0), J) ∧ G_X11_hourPasses m 323 v1 0 v3 0 0 v6 0 0 0 s0 1 s2 s3 I J = some (hend v1 v3 v6 (bmX I v1 c), J) := by
  have l4 : ((4 : Int32)).toNatClampNeg = 4 := rfl
  have l5 : ((5 : Int32)).toNatClampNeg = 5 := rfl
  have l8 : ((8 : Int32)).toNatClampNeg = 8 := rfl
  have l9 : ((9 : Int32)).toNatClampNeg = 9 := rfl
  have l10 : ((10 : Int32)).toNatClampNeg = 10 := rfl
  have l11 : ((11 : Int32)).toNatClampNeg = 11 := rfl
  have l18 : ((18 : Int32)).toNatClampNeg = 18 := rfl
  have v4 : vp_in (4 : Int32) 2509 := vl 4 2509 (by omega) (by omega)
  have v5 : vp_in (5 : Int32) 2509 := vl 5 2509 (by omega) (by omega)
  have v8 : vp_in (8 : Int32) 2509 := vl 8 2509 (by omega) (by omega)
  have v9 : vp_in (9 : Int32) 2509 := vl 9 2509 (by omega) (by omega)
  have v10 : vp_in (10 : Int32) 2509 := vl 10 2509 (by omega) (by omega)
  have v11 : vp_in (11 : Int32) 2509 := vl 11 2509 (by omega) (by omega)
  have v18 : vp_in (18 : Int32) 2509 := vl 18 2509 (by omega) (by omega)
  obtain ⟨m, rfl⟩ : ∃ m', m = m' + 2 := ⟨m - 2, by omega⟩
  constructor
  · rw [G_X11_hourPasses_323, kif_pos (Or.inl rfl), kif_pos (by rw [kw_app, if_pos ⟨rfl, rfl, rfl⟩])]
    exact g_end v1 v3 v6 h3 h6 _ J m _ _ _ _ _ _ _ _ _ _
  · rw [G_X11_hourPasses_323, kif_pos (Or.inr rfl), kif_neg (by rw [kw_app, if_pos ⟨rfl, rfl, rfl⟩]; decide), kif_pos v4, kif_pos v10, kif_pos v4, kif_pos v5, kif_pos v11, kif_pos v5, G_X11_hourPasses_385, kif_pos v9, kif_pos v8, kif_pos v18, kif_pos v18, l4, l5, l8, l9, l10, l11, l18]
    have hz := g_zero v1 v3 v6 h3 h6 (kx_uA (kw I 11 0 7 1) 41 0 (bmG (I 41 0) v1)) J hc (by rw [kx_uA_eq]; exact hI) c 0 m (by omega) (by omega)
    rw [zrG_0, kx_uA_id, kx_uA_eq] at hz
    have eu : ∀ f f2 : Nat → Int32, kx_uA (kx_uA (kw I 11 0 7 1) 41 0 f) 41 0 f2 = kx_uA (kw I 11 0 7 1) 41 0 f2 := fun f f2 => kI_ext fun t2 o2 j => by
      simp only [kx_uA_app]
      split <;> rfl
    rw [eu] at hz
    unfold bmX
    rw [← hz]
    congr 1
    refine kI_ext fun t2 o2 j => ?_
    simp only [kw_app, kx_uA_app, bmG, mn9]
    grind

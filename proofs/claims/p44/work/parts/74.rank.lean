/-! ships by rank, of the reference -/
def rkI (g : Nat → Int32) (h k : Int32) : Nat → Nat → List Nat
  | _, 0 => []
  | i, n + 1 => if g (109 + 4 * i + 1) = h ∧ g (109 + 4 * i) = k then i :: rkI g h k (i + 1) n else rkI g h k (i + 1) n
def rkK (g : Nat → Int32) (h : Int32) (c : Nat) : Nat → List Nat
  | 0 => []
  | k + 1 => rkI g h (nI (k + 3)) 0 c ++ rkK g h c k
def rkA (l : List Nat) (i : Nat) : Int32 := match l[i]? with
  | some s => nI s
  | none => -1
theorem rkA_0 (s : Nat) (l : List Nat) : rkA (s :: l) 0 = nI s := rfl
theorem rkA_s (s : Nat) (l : List Nat) (i : Nat) : rkA (s :: l) (i + 1) = rkA l i := rfl
theorem nI_inj {a b : Nat} (ha : a < 2147483648) (hb : b < 2147483648) (h : nI a = nI b) : a = b := by
  have e := congrArg Int32.toInt h
  rw [iz_nI ha, iz_nI hb] at e
  omega
theorem nI_m1 {a : Nat} : nI (a + 1) + (-1) = nI a := by
  have e : nI (a + 1) - nI 1 = nI (a + 1 - 1) := pk_sub (by omega)
  rw [show a + 1 - 1 = a by omega] at e
  rw [← e, Int32.sub_eq_add_neg]
  rfl
theorem ofS (j w : Nat) (I : kI) (J : kJ) (hj : j < 200) (hw : w ≤ 3) : F_X11_ofShip (nI j) (nI w) I J = I 41 0 (109 + 4 * j + w) ∧ pre_X11_ofShip (nI j) (nI w) I J := by
  have hcl : ((109 : Int32) + 4 * nI j + nI w).toNatClampNeg = 109 + 4 * j + w := ix3c (a := 109) (b := 4) (c := w) (by omega)
  have hv : vp_in ((109 : Int32) + 4 * nI j + nI w) 2509 := ix3v (a := 109) (b := 4) (c := w) (by omega) (by omega)
  unfold F_X11_ofShip pre_X11_ofShip
  rw [hcl]
  exact ⟨rfl, hv, trivial⟩
theorem g_rank (h : Int32) (i : Nat) (hi : i < 2147483648) (I : kI) (J : kJ) {c : Nat} (hc : c ≤ 200) (hI : I 41 0 14 = nI c) : ∀ k, k ≤ 5 → ∀ v m x, v ≤ i → k * (c + 2) + 1 ≤ m → G_X11_rankedAt h (nI i) m 6 (nI v) (nI (k + 2)) x I J = some (rkA (rkK (I 41 0) h c k) (i - v)) := by
  intro k
  induction k with
  | zero =>
    intro _ v m x hv hm
    obtain ⟨m, rfl⟩ : ∃ m', m = m' + 1 := ⟨m - 1, by omega⟩
    rw [G_X11_rankedAt_6, kif_pos (show nI (0 + 2) < (3 : Int32) by decide)]
    rfl
  | succ k ih =>
    intro hk
    have ih := ih (by omega)
    have inner : ∀ n j v m, j + n = c → v ≤ i → n + 1 + (k * (c + 2) + 1) ≤ m → G_X11_rankedAt h (nI i) m 15 (nI v) (nI (k + 3)) (nI j) I J = some (rkA (rkI (I 41 0) h (nI (k + 3)) j n ++ rkK (I 41 0) h c k) (i - v)) := by
      intro n
      induction n with
      | zero =>
        intro j v m hj hv hm
        obtain ⟨m, rfl⟩ : ∃ m', m = m' + 1 := ⟨m - 1, by omega⟩
        rw [G_X11_rankedAt_15, kv (by decide) (by decide), kn (by decide), hI, kif_pos (nI_le (by omega) (by omega)), nI_m1]
        exact ih v m 0 hv (by omega)
      | succ n ihn =>
        intro j v m hj hv hm
        obtain ⟨m, rfl⟩ : ∃ m', m = m' + 1 := ⟨m - 1, by omega⟩
        have o1 := ofS j 1 I J (by omega) (by omega)
        have o0 := ofS j 0 I J (by omega) (by omega)
        have p1 : pre_X11_ofShip (nI j) (1 : Int32) I J := o1.2
        have p0 : pre_X11_ofShip (nI j) (0 : Int32) I J := o0.2
        have f1 : F_X11_ofShip (nI j) (1 : Int32) I J = I 41 0 (109 + 4 * j + 1) := o1.1
        have f0 : F_X11_ofShip (nI j) (0 : Int32) I J = I 41 0 (109 + 4 * j) := o0.1
        rw [G_X11_rankedAt_15, kv (by decide) (by decide), kn (by decide), hI, kif_neg (nI_ge (by omega) (by omega)), kif_pos p1, f1, kif_pos p0, f0, rkI]
        have ej : ∀ j : Nat, nI (j + 1) = nI j + 1 := fun j => by rw [nI_1]
        have hn : ∀ v, v ≤ i → G_X11_rankedAt h (nI i) m 15 (nI v) (nI (k + 3)) (nI j + 1) I J = some (rkA (rkI (I 41 0) h (nI (k + 3)) (j + 1) n ++ rkK (I 41 0) h c k) (i - v)) := fun v hv => by
          have q := ihn (j + 1) v m (by omega) hv (by omega)
          rw [ej j] at q
          exact q
        by_cases h1 : I 41 0 (109 + 4 * j + 1) = h
        · rw [kif_pos h1]
          by_cases h2 : I 41 0 (109 + 4 * j) = nI (k + 3)
          · rw [kif_pos h2, if_pos ⟨h1, h2⟩, List.cons_append]
            by_cases h3 : v = i
            · subst h3
              rw [kif_pos rfl, Nat.sub_self, rkA_0]
            · rw [kif_neg (fun q => h3 (nI_inj (by omega) (by omega) q))]
              have e : i - v = (i - (v + 1)) + 1 := by omega
              rw [e, rkA_s]
              have := hn (v + 1) (by omega)
              rw [ej v] at this
              exact this
          · rw [kif_neg h2, if_neg (fun q => h2 q.2)]
            exact hn v hv
        · rw [kif_neg h1, if_neg (fun q => h1 q.1)]
          exact hn v hv
    intro v m x hv hm
    rw [Nat.succ_mul] at hm
    obtain ⟨m, rfl⟩ : ∃ m', m = m' + 1 := ⟨m - 1, by omega⟩
    have h3 : ¬ nI (k + 1 + 2) < (3 : Int32) := by
      show ¬ nI (k + 1 + 2) < nI 3
      rw [nI_ltI (by omega) (by omega)]
      omega
    rw [G_X11_rankedAt_6, kif_neg h3]
    exact inner c 0 v m (by omega) hv (by omega)
theorem E_rankedAt (h : Int32) (i : Nat) (hi : i < 2147483648) (I : kI) (J : kJ) {c : Nat} (hc : c ≤ 200) (hI : I 41 0 14 = nI c) : E_X11_rankedAt h (nI i) I J = some (rkA (rkK (I 41 0) h c 5) i) := by
  unfold E_X11_rankedAt
  exact g_rank h i hi I J hc hI 5 (by omega) 0 kfu 0 (by omega) (by unfold kfu; omega)

/-! copy -/
def cpA (f : Nat → Int64) (S D k : Nat) : Nat → Int64 := fun y => if D ≤ y ∧ y < D + k then f (S + (y - D)) else f y
def cpD (f : Nat → Int64) (S D n k : Nat) : Nat → Int64 := fun y => if D + (n - k) ≤ y ∧ y < D + n then f (S + (y - D)) else f y
theorem cpA_0 (f : Nat → Int64) (S D : Nat) : cpA f S D 0 = f := by
  funext y
  unfold cpA
  rw [if_neg (by omega)]
theorem cpD_0 (f : Nat → Int64) (S D n : Nat) : cpD f S D n 0 = f := by
  funext y
  unfold cpD
  rw [if_neg (by omega)]
theorem cpD_n (f : Nat → Int64) (S D n : Nat) : cpD f S D n n = cpA f S D n := by
  funext y
  unfold cpD cpA
  rw [Nat.sub_self, Nat.add_zero]
theorem e40b (p i x : Nat) : (40 : Int32) * nI p + nI i + nI x = nI (40 * p + i + x) := by rw [e40, nI_add]
theorem g_copyA (p q i j n : Nat) (hp : p ≤ 7) (hq : q ≤ 7) (hi : i + n ≤ 40) (hj : j + n ≤ 40) (hji : j ≤ i) (hd : 40 * q + j ≤ 40 * p + i ∨ 40 * p + i + n ≤ 40 * q + j) (I : kI) (J : kJ) : ∀ r k m s0, k + r = n → 2 * r + 1 ≤ m → G_X11_copy (nI p) (nI q) (nI i) (nI j) (nI n) m 178 (nI k) s0 I (kx_uL J 51 0 (cpA (J 51 0) (40 * p + i) (40 * q + j) k)) = some (nI n, I, kx_uL J 51 0 (cpA (J 51 0) (40 * p + i) (40 * q + j) n)) := by
  intro r
  induction r with
  | zero =>
    intro k m s0 hk hm
    obtain ⟨m, rfl⟩ : ∃ m', m = m' + 1 := ⟨m - 1, by omega⟩
    obtain rfl : k = n := by omega
    rw [G_X11_copy_178, kif_pos (by rw [i_le (by omega) (by omega)]; omega)]
  | succ r ih =>
    intro k m s0 hk hm
    obtain ⟨m, rfl⟩ : ∃ m', m = m' + 2 := ⟨m - 2, by omega⟩
    have hn := ih (k + 1) m 0 (by omega) (by omega)
    have rd : cpA (J 51 0) (40 * p + i) (40 * q + j) k (40 * p + i + k) = J 51 0 (40 * p + i + k) := by
      unfold cpA
      rw [if_neg (by omega)]
    have st : vp_updL (cpA (J 51 0) (40 * p + i) (40 * q + j) k) (40 * q + j + k) (J 51 0 (40 * p + i + k)) = cpA (J 51 0) (40 * p + i) (40 * q + j) (k + 1) := by
      funext y
      simp only [vp_updL, cpA]
      by_cases z : y = 40 * q + j + k
      · rw [if_pos z, if_pos (by omega), z, show 40 * p + i + (40 * q + j + k - (40 * q + j)) = 40 * p + i + k by omega]
      · rw [if_neg z]
        by_cases z2 : 40 * q + j ≤ y ∧ y < 40 * q + j + k
        · rw [if_pos z2, if_pos (by omega)]
        · rw [if_neg z2, if_neg (by omega)]
    rw [G_X11_copy_178, kif_neg (by rw [i_le (by omega) (by omega)]; omega), kif_pos (by rw [i_le (by omega) (by omega)]; exact hji), G_X11_copy_203, e40b, e40b, kif_pos (vl _ 320 (by omega) (by omega)), kif_pos (vl _ 320 (by omega) (by omega)), nI_clamp (by omega), nI_clamp (by omega), uL_on, rd, kwL_uL, st, nI_1]
    exact hn
theorem g_copyD (p q i j n : Nat) (hp : p ≤ 7) (hq : q ≤ 7) (hi : i + n ≤ 40) (hj : j + n ≤ 40) (hji : ¬ j ≤ i) (hd : 40 * p + i ≤ 40 * q + j ∨ 40 * q + j + n ≤ 40 * p + i) (I : kI) (J : kJ) : ∀ r k m s0, k + r = n → 2 * r + 1 ≤ m → G_X11_copy (nI p) (nI q) (nI i) (nI j) (nI n) m 178 (nI k) s0 I (kx_uL J 51 0 (cpD (J 51 0) (40 * p + i) (40 * q + j) n k)) = some (nI n, I, kx_uL J 51 0 (cpD (J 51 0) (40 * p + i) (40 * q + j) n n)) := by
  intro r
  induction r with
  | zero =>
    intro k m s0 hk hm
    obtain ⟨m, rfl⟩ : ∃ m', m = m' + 1 := ⟨m - 1, by omega⟩
    obtain rfl : k = n := by omega
    rw [G_X11_copy_178, kif_pos (by rw [i_le (by omega) (by omega)]; omega)]
  | succ r ih =>
    intro k m s0 hk hm
    obtain ⟨m, rfl⟩ : ∃ m', m = m' + 2 := ⟨m - 2, by omega⟩
    have hn := ih (k + 1) m 0 (by omega) (by omega)
    have ex : (nI n - (1 : Int32)) - nI k = nI (n - 1 - k) := by
      have a : nI n - nI 1 = nI (n - 1) := pk_sub (by omega)
      have b : nI (n - 1) - nI k = nI (n - 1 - k) := pk_sub (by omega)
      rw [← a] at b
      exact b
    have rd : cpD (J 51 0) (40 * p + i) (40 * q + j) n k (40 * p + i + (n - 1 - k)) = J 51 0 (40 * p + i + (n - 1 - k)) := by
      unfold cpD
      rw [if_neg (by omega)]
    have st : vp_updL (cpD (J 51 0) (40 * p + i) (40 * q + j) n k) (40 * q + j + (n - 1 - k)) (J 51 0 (40 * p + i + (n - 1 - k))) = cpD (J 51 0) (40 * p + i) (40 * q + j) n (k + 1) := by
      funext y
      simp only [vp_updL, cpD]
      by_cases z : y = 40 * q + j + (n - 1 - k)
      · rw [if_pos z, if_pos (by omega), z, show 40 * p + i + (40 * q + j + (n - 1 - k) - (40 * q + j)) = 40 * p + i + (n - 1 - k) by omega]
      · rw [if_neg z]
        by_cases z2 : 40 * q + j + (n - k) ≤ y ∧ y < 40 * q + j + n
        · rw [if_pos z2, if_pos (by omega)]
        · rw [if_neg z2, if_neg (by omega)]
    rw [G_X11_copy_178, kif_neg (by rw [i_le (by omega) (by omega)]; omega), kif_neg (by rw [i_le (by omega) (by omega)]; exact hji), G_X11_copy_203, ex, e40b, e40b, kif_pos (vl _ 320 (by omega) (by omega)), kif_pos (vl _ 320 (by omega) (by omega)), nI_clamp (by omega), nI_clamp (by omega), uL_on, rd, kwL_uL, st, nI_1]
    exact hn
theorem g_copy (p q i j n : Nat) (hp : p ≤ 7) (hq : q ≤ 7) (hi : i + n ≤ 40) (hj : j + n ≤ 40) (I : kI) (J : kJ) (m : Nat) (hm : 81 ≤ m) : G_X11_copy (nI p) (nI q) (nI i) (nI j) (nI n) m 178 0 0 I J = some (nI n, I, kx_uL J 51 0 (cpA (J 51 0) (40 * p + i) (40 * q + j) n)) := by
  by_cases h : j ≤ i
  · have g := g_copyA p q i j n hp hq hi hj h (by omega) I J n 0 m 0 (by omega) (by omega)
    rw [cpA_0, kx_uL_id] at g
    exact g
  · have g := g_copyD p q i j n hp hq hi hj h (by omega) I J n 0 m 0 (by omega) (by omega)
    rw [cpD_0, kx_uL_id, cpD_n] at g
    exact g
theorem klt_eq {α β : Type _} (x : α) (f : α → Option β) : klt x f = f x := rfl
theorem hasEls (s z : Nat) (hz : z ≤ 40) (a b : Int32) (I : kI) (J : kJ) (hs : I 4 s 1 = nI z) : (F_X4_hasElements s a b I J = 0 ↔ (b < 0 ∨ a < 0 ∨ nI z < a ∨ nI z - a < b)) := by
  have z1 : ¬ (1 : Int32) = 0 := by decide
  unfold F_X4_hasElements
  rw [F_within, hs]
  by_cases q1 : b < 0
  · rw [kif_pos q1]; exact ⟨fun _ => Or.inl q1, fun _ => rfl⟩
  · rw [kif_neg q1]
    by_cases q2 : a < 0
    · rw [if_pos q2, kif_pos rfl]; exact ⟨fun _ => Or.inr (Or.inl q2), fun _ => rfl⟩
    · rw [if_neg q2]
      by_cases q3 : nI z < a
      · rw [if_pos q3, kif_pos rfl]; exact ⟨fun _ => Or.inr (Or.inr (Or.inl q3)), fun _ => rfl⟩
      · rw [if_neg q3, kif_neg z1]
        by_cases q4 : nI z - a < b
        · rw [kif_pos q4]; exact ⟨fun _ => Or.inr (Or.inr (Or.inr q4)), fun _ => rfl⟩
        · rw [kif_neg q4]
          exact ⟨fun z => absurd z z1, fun z => by
            rcases z with z | z | z | z
            · exact absurd z q1
            · exact absurd z q2
            · exact absurd z q3
            · exact absurd z q4⟩
theorem mm_copy {N : Nat} {I : kI} {J : kJ} (h : Inv N I J) (a b i j n : Int32) : MM sp_X10_copy sp_X11_copy [kx_i a, kx_i b, kx_i i, kx_i j, kx_i n] N I J := by
  have hs := fun a I J => isShelf_p a I J
  obtain ⟨m, hm⟩ : ∃ m, kfu = m + 100 := ⟨kfu - 100, by unfold kfu; omega⟩
  have z1 : ¬ (1 : Int32) = 0 := by decide
  have hc := h.1.2.2.2.1.2
  have m14 : ∀ K J m, G_X11_copy a b i j n (m + 1) 14 0 0 K J = some (-102, rfM 0 K, J) := fun K J m => by rw [G_X11_copy_14, kif_pos (rM0 _ _).2, (rM0 _ _).1]
  have m74 : ∀ K J m, G_X11_copy a b i j n (m + 1) 74 0 0 K J = some (-103, rfM 1 K, J) := fun K J m => by rw [G_X11_copy_74, kif_pos (rM1 _ _).2, (rM1 _ _).1]
  have m99 : ∀ K J m, G_X11_copy a b i j n (m + 1) 99 0 0 K J = some (-104, rfM 2 K, J) := fun K J m => by rw [G_X11_copy_99, kif_pos (rM2 _ _).2, (rM2 _ _).1]
  have m168 : ∀ K J m, G_X11_copy a b i j n (m + 1) 168 0 0 K J = some (-102, rfM 0 K, J) := fun K J m => by rw [G_X11_copy_168, kif_pos (rM0 _ _).2, (rM0 _ _).1]
  have c24 : ∀ m, G_X10_copy a b i j n (m + 1) 24 0 0 0 0 I J = some (-102, rfC 0 I, J) := fun m => by rw [G_X10_copy_24, kif_pos (rC0 _ _).2, (rC0 _ _).1]
  have c85 : ∀ m, G_X10_copy a b i j n (m + 1) 85 0 0 0 0 I J = some (-103, rfC 1 I, J) := fun m => by rw [G_X10_copy_85, kif_pos (rC1 _ _).2, (rC1 _ _).1]
  have c127 : ∀ m, G_X10_copy a b i j n (m + 1) 127 0 0 0 0 I J = some (-102, rfC 0 I, J) := fun m => by rw [G_X10_copy_127, kif_pos (rC0 _ _).2, (rC0 _ _).1]
  have r102 : E_X10_copy a b i j n I J = some (-102, rfC 0 I, J) → E_X11_copy a b i j n (rfC 0 I) J = some (-102, rfM 0 (rfC 0 I), J) → MM sp_X10_copy sp_X11_copy [kx_i a, kx_i b, kx_i i, kx_i j, kx_i n] N I J := fun y1 y2 => by
    have c1 := cs_X10_copy _ _ _ _ _ _ _ _ y1
    have c2 := cs_X11_copy _ _ _ _ _ _ _ _ y2
    exact MM_f c1 rfl c2 rfl (Inv_ref' h 0 (by omega))
  have r103 : E_X10_copy a b i j n I J = some (-103, rfC 1 I, J) → E_X11_copy a b i j n (rfC 1 I) J = some (-103, rfM 1 (rfC 1 I), J) → MM sp_X10_copy sp_X11_copy [kx_i a, kx_i b, kx_i i, kx_i j, kx_i n] N I J := fun y1 y2 => by
    have c1 := cs_X10_copy _ _ _ _ _ _ _ _ y1
    have c2 := cs_X11_copy _ _ _ _ _ _ _ _ y2
    exact MM_f c1 rfl c2 rfl (Inv_ref' h 1 (by omega))
  have r104 : E_X10_copy a b i j n I J = some (-104, rfC 2 I, J) → E_X11_copy a b i j n (rfC 2 I) J = some (-104, rfM 2 (rfC 2 I), J) → MM sp_X10_copy sp_X11_copy [kx_i a, kx_i b, kx_i i, kx_i j, kx_i n] N I J := fun y1 y2 => by
    have c1 := cs_X10_copy _ _ _ _ _ _ _ _ y1
    have c2 := cs_X11_copy _ _ _ _ _ _ _ _ y2
    exact MM_f c1 rfl c2 rfl (Inv_ref' h 2 (by omega))
  by_cases w : (if a < 0 then (0 : Int32) else if 7 < a then 0 else 1) = 0
  · refine r102 ?_ ?_
    · unfold E_X10_copy
      rw [F_within, kif_pos w, hm, klt_eq, c24]
      exact kif_id
    · unfold E_X11_copy
      rw [kif_pos (hs _ _ _).2, (hs _ _ _).1, kif_pos w, hm, m14]
  · by_cases w2 : (if b < 0 then (0 : Int32) else if 7 < b then 0 else 1) = 0
    · refine r102 ?_ ?_
      · unfold E_X10_copy
        rw [F_within a, kif_neg w, klt_eq, F_within b, kif_pos w2, hm, c24]
      · unfold E_X11_copy
        rw [kif_pos (hs _ _ _).2, (hs _ _ _).1, kif_neg w, kif_pos (hs _ _ _).2, (hs _ _ _).1, kif_pos w2, hm, m14]
    · obtain ⟨s, _, hs7, rfl⟩ := in_yes (lo := 0) (hi := 7) (by omega) (by omega) w
      obtain ⟨t, _, ht7, rfl⟩ := in_yes (lo := 0) (hi := 7) (by omega) (by omega) w2
      have ci : (nI s).toNatClampNeg = s := nI_clamp (by omega)
      have ct : (nI t).toNatClampNeg = t := nI_clamp (by omega)
      have vs : vp_in (nI s) 8 := vl s 8 (by omega) (by omega)
      have vt : vp_in (nI t) 8 := vl t 8 (by omega) (by omega)
      have hS := h.2.2.2.1 s (by omega)
      have hT := h.2.2.2.1 t (by omega)
      have r49 : ∀ k x, (rfC k I) 49 0 x = I 49 0 x := fun k x => rfC_at _ _ _ _ (by omega)
      have r50 : ∀ k x, (rfC k I) 50 0 x = I 50 0 x := fun k x => rfC_at _ _ _ _ (by omega)
      have eC : ∀ R, (E_X10_copy (nI s) (nI t) i j n I J = R) ↔ (kif (F_X4_isEmpty s I J = 0) (kif (F_X4_isEmpty t I J = 0) (G_X10_copy (nI s) (nI t) i j n kfu 52 s t 0 1 I J) (G_X10_copy (nI s) (nI t) i j n kfu 51 s t 0 0 I J)) (G_X10_copy (nI s) (nI t) i j n kfu 51 s t 0 0 I J) = R) := fun R => by
        unfold E_X10_copy
        rw [F_within (nI s), kif_neg w, klt_eq, F_within (nI t), kif_neg w2, klt_eq, ci, ct]
      have em : ∀ x, F_X4_isEmpty x I J = kif (I 4 x 2 = -1) 1 0 := fun x => rfl
      have shp : ∀ x, F_X4_isShip x I J = kif (I 4 x 2 < 10) 0 1 := fun x => rfl
      -- one of them is a ship
      have big : ∀ {x : Nat}, x < 1000 → ¬ nI (10 + x) < 10 ∧ (4 : Int32) < nI (10 + x) ∧ ¬ nI (10 + x) = -1 := fun {x} hx => ⟨by show ¬ nI (10 + x) < nI 10; rw [i_lt (by omega) (by omega)]; omega, by show nI 4 < nI (10 + x); rw [i_lt (by omega) (by omega)]; omega, nI_m1' _ (by omega)⟩
      have sml : ∀ {x : Nat}, x ≤ 4 → nI x < 10 ∧ ¬ (4 : Int32) < nI x ∧ ¬ nI x < 0 ∧ ¬ nI x = -1 ∧ 0 ≤ nI x := fun {x} hx => ⟨by show nI x < nI 10; rw [i_lt (by omega) (by omega)]; omega, by show ¬ nI 4 < nI x; rw [i_lt (by omega) (by omega)]; omega, i_nlt0 x (by omega), nI_m1' x (by omega), Int32.not_lt.mp (i_nlt0 x (by omega))⟩
      have m1s : (-1 : Int32) < 10 ∧ ¬ (4 : Int32) < -1 ∧ (-1 : Int32) < 0 ∧ ¬ (0 : Int32) ≤ -1 := ⟨by decide, by decide, by decide, by decide⟩
      have ship52 : (F_X4_isShip s I J = 1 ∨ (F_X4_isShip s I J = 0 ∧ F_X4_isShip t I J = 1)) → ∀ m v8 s0, G_X10_copy (nI s) (nI t) i j n (m + 2) 52 s t v8 s0 I J = some (-103, rfC 1 I, J) := fun q m v8 s0 => by
        rw [G_X10_copy_52]
        rcases q with q | ⟨q1, q2⟩
        · rw [q, kif_neg z1, c85]
        · rw [q1, kif_pos rfl, q2, kif_neg z1, c85]
      have shipC : (F_X4_isShip s I J = 1 ∨ (F_X4_isShip s I J = 0 ∧ F_X4_isShip t I J = 1)) → E_X10_copy (nI s) (nI t) i j n I J = some (-103, rfC 1 I, J) := fun q => by
        refine (eC _).mpr ?_
        rw [hm, ship52 q, G_X10_copy_51, ship52 q, kif_id, kif_id]
      have mod0 : ∀ K J, E_X11_copy (nI s) (nI t) i j n K J = (kif ((4 : Int32) < K 49 0 s) (G_X11_copy (nI s) (nI t) i j n kfu 74 0 0 K J) (kif ((4 : Int32) < K 49 0 t) (G_X11_copy (nI s) (nI t) i j n kfu 74 0 0 K J) (kif (K 49 0 s < 0) (G_X11_copy (nI s) (nI t) i j n kfu 81 0 0 K J) (kif (K 49 0 t < 0) (G_X11_copy (nI s) (nI t) i j n kfu 81 0 0 K J) (kif (K 49 0 s = K 49 0 t) (G_X11_copy (nI s) (nI t) i j n kfu 81 0 0 K J) (G_X11_copy (nI s) (nI t) i j n kfu 74 0 0 K J)))))) := fun K J => by
        unfold E_X11_copy
        rw [kif_pos (hs _ _ _).2, (hs _ _ _).1, kif_neg w, kif_pos (hs _ _ _).2, (hs _ _ _).1, kif_neg w2, kif_pos vs, kif_pos vt, kif_pos vs, kif_pos vt, kif_pos vs, kif_pos vt, ci, ct]
      -- one of them holds nothing
      have none92 : ∀ m, G_X10_copy (nI s) (nI t) i j n (m + 1) 92 s t 0 0 I J = some (-104, rfC 2 I, J) := fun m => by rw [G_X10_copy_92, kif_pos rfl, kif_pos (rC2 _ _).2, (rC2 _ _).1]
      have noneC : F_X4_isShip s I J = 0 → F_X4_isShip t I J = 0 → (F_X4_isEmpty s I J = 1 ∨ (F_X4_isEmpty s I J = 0 ∧ F_X4_isEmpty t I J = 1)) → E_X10_copy (nI s) (nI t) i j n I J = some (-104, rfC 2 I, J) := fun a1 a2 q => by
        refine (eC _).mpr ?_
        have e51 : ∀ m, G_X10_copy (nI s) (nI t) i j n (m + 3) 51 s t 0 0 I J = some (-104, rfC 2 I, J) := fun m => by
          rw [G_X10_copy_51, G_X10_copy_52, a1, kif_pos rfl, a2, kif_pos rfl, kif_pos rfl, none92]
        rcases q with q | ⟨q1, q2⟩
        · rw [q, kif_neg z1, hm, e51]
        · rw [q1, kif_pos rfl, q2, kif_neg z1, hm, e51]
      have noneM : ∀ K J m, (K 49 0 s < 0 ∨ (¬ K 49 0 s < 0 ∧ ¬ 0 ≤ K 49 0 t)) → G_X11_copy (nI s) (nI t) i j n (m + 2) 81 0 0 K J = some (-104, rfM 2 K, J) := fun K J m q => by
        rw [G_X11_copy_81, kif_pos vs, ci, ct]
        rcases q with q | ⟨q1, q2⟩
        · rw [kif_pos q, m99]
        · rw [kif_neg q1, kif_pos vt, kif_neg q2, m99]
      rcases sh_cases hS with ⟨e1, e2, e3⟩ | ⟨u, y, hu, hy, e1, e2, e4, e3⟩ | ⟨x, hx, e1, e2, e3⟩
      · rcases sh_cases hT with ⟨f1, f2, f3⟩ | ⟨u', y', hu', hy', f1, f2, f4, f3⟩ | ⟨x', hx', f1, f2, f3⟩
        · refine r104 (noneC (by rw [shp, e2, kif_pos m1s.1]) (by rw [shp, f2, kif_pos m1s.1]) (Or.inl (by rw [em, e2, kif_pos rfl]))) ?_
          rw [mod0, r49, r49, e1, f1, kif_neg m1s.2.1, kif_neg m1s.2.1, kif_pos m1s.2.2.1, hm]
          exact noneM _ _ _ (Or.inl (by rw [r49, e1]; exact m1s.2.2.1))
        · refine r104 (noneC (by rw [shp, e2, kif_pos m1s.1]) (by rw [shp, f2, kif_pos (sml hu').1]) (Or.inl (by rw [em, e2, kif_pos rfl]))) ?_
          rw [mod0, r49, r49, e1, f1, kif_neg m1s.2.1, kif_neg (sml hu').2.1, kif_pos m1s.2.2.1, hm]
          exact noneM _ _ _ (Or.inl (by rw [r49, e1]; exact m1s.2.2.1))
        · have bb := big (show x' < 1000 by omega)
          refine r103 (shipC (Or.inr ⟨by rw [shp, e2, kif_pos m1s.1], by rw [shp, f2, kif_neg bb.1]⟩)) ?_
          rw [mod0, r49, r49, e1, f1, kif_neg m1s.2.1, kif_pos bb.2.1, hm, m74]
      · rcases sh_cases hT with ⟨f1, f2, f3⟩ | ⟨u', y', hu', hy', f1, f2, f4, f3⟩ | ⟨x', hx', f1, f2, f3⟩
        · refine r104 (noneC (by rw [shp, e2, kif_pos (sml hu).1]) (by rw [shp, f2, kif_pos m1s.1]) (Or.inr ⟨by rw [em, e2, kif_neg (sml hu).2.2.2.1], by rw [em, f2, kif_pos rfl]⟩)) ?_
          rw [mod0, r49, r49, e1, f1, kif_neg (sml hu).2.1, kif_neg m1s.2.1, kif_neg (sml hu).2.2.1, kif_pos m1s.2.2.1, hm]
          exact noneM _ _ _ (Or.inr ⟨by rw [r49, e1]; exact (sml hu).2.2.1, by rw [r49, f1]; exact m1s.2.2.2⟩)
        · have a1 : F_X4_isShip s I J = 0 := by rw [shp, e2, kif_pos (sml hu).1]
          have a2 : F_X4_isShip t I J = 0 := by rw [shp, f2, kif_pos (sml hu').1]
          have b1 : F_X4_isEmpty s I J = 0 := by rw [em, e2, kif_neg (sml hu).2.2.2.1]
          have b2 : F_X4_isEmpty t I J = 0 := by rw [em, f2, kif_neg (sml hu').2.2.2.1]
          by_cases same : u = u'
          · have so : F_X4_isOfSameSort s t I J = 1 := by unfold F_X4_isOfSameSort; rw [e2, f2, same, kif_pos rfl]
            have cC : ∀ R, G_X10_copy (nI s) (nI t) i j n (m + 99) 92 s t 1 0 I J = R → E_X10_copy (nI s) (nI t) i j n I J = R := fun R q => by
              refine (eC _).mpr ?_
              rw [b1, kif_pos rfl, b2, kif_pos rfl, hm, G_X10_copy_52, a1, kif_pos rfl, a2, kif_pos rfl, kif_neg z1, so, kif_neg z1]
              exact q
            have mM : ∀ K R J, K 49 0 s = I 49 0 s → K 49 0 t = I 49 0 t → G_X11_copy (nI s) (nI t) i j n (m + 100) 81 0 0 K J = R → E_X11_copy (nI s) (nI t) i j n K J = R := fun K R J k1 k2 q => by
              rw [mod0, k1, k2, e1, f1, kif_neg (sml hu).2.1, kif_neg (sml hu').2.1, kif_neg (sml hu).2.2.1, kif_neg (sml hu').2.2.1, kif_pos (by rw [same]), hm]
              exact q
            have hE1 := hasEls s y hy i n I J e3
            have hE2 := hasEls t y' hy' j n I J f3
            by_cases bad : F_X4_hasElements s i n I J = 0 ∨ F_X4_hasElements t j n I J = 0
            · refine r102 (cC _ ?_) (mM _ _ _ (r49 _ _) (r49 _ _) ?_)
              · rw [G_X10_copy_92, kif_neg z1]
                by_cases q : F_X4_hasElements s i n I J = 0
                · rw [kif_pos q, c127]
                · rw [kif_neg q, kif_pos (bad.resolve_left q), c127]
              · rw [G_X11_copy_81, kif_pos vs, ci, ct, r49, r49, r50, r50, e1, f1, e4, f4, kif_neg (sml hu).2.2.1, kif_pos vt, kif_pos (sml hu').2.2.2.2]
                by_cases d1 : i < 0
                · rw [kif_pos d1, m168]
                · rw [kif_neg d1]
                  by_cases d2 : j < 0
                  · rw [kif_pos d2, m168]
                  · rw [kif_neg d2]
                    by_cases d3 : n < 0
                    · rw [kif_pos d3, m168]
                    · rw [kif_neg d3, kif_pos vs]
                      by_cases d4 : nI y < i
                      · rw [kif_pos d4, m168]
                      · rw [kif_neg d4, kif_pos vt]
                        by_cases d5 : nI y' < j
                        · rw [kif_pos d5, m168]
                        · rw [kif_neg d5, kif_pos vs]
                          by_cases d6 : nI y - i < n
                          · rw [kif_pos d6, m168]
                          · rw [kif_neg d6, kif_pos vt]
                            have d7 : ¬ n ≤ nI y' - j := by
                              rcases bad with q | q
                              · rcases hE1.mp q with z | z | z | z
                                · exact absurd z d3
                                · exact absurd z d1
                                · exact absurd z d4
                                · exact absurd z d6
                              · rcases hE2.mp q with z | z | z | z
                                · exact absurd z d3
                                · exact absurd z d2
                                · exact absurd z d5
                                · exact Int32.not_le.mpr z
                            rw [kif_neg d7, m168]
            · have g1 : ¬ F_X4_hasElements s i n I J = 0 := fun q => bad (Or.inl q)
              have g2 : ¬ F_X4_hasElements t j n I J = 0 := fun q => bad (Or.inr q)
              have d1 : ¬ i < 0 := fun q => g1 (hE1.mpr (Or.inr (Or.inl q)))
              have d2 : ¬ j < 0 := fun q => g2 (hE2.mpr (Or.inr (Or.inl q)))
              have d3 : ¬ n < 0 := fun q => g1 (hE1.mpr (Or.inl q))
              have d4 : ¬ nI y < i := fun q => g1 (hE1.mpr (Or.inr (Or.inr (Or.inl q))))
              have d5 : ¬ nI y' < j := fun q => g2 (hE2.mpr (Or.inr (Or.inr (Or.inl q))))
              have d6 : ¬ nI y - i < n := fun q => g1 (hE1.mpr (Or.inr (Or.inr (Or.inr q))))
              have d7 : n ≤ nI y' - j := Int32.not_lt.mp (fun q => g2 (hE2.mpr (Or.inr (Or.inr (Or.inr q)))))
              obtain ⟨i', hi', rfl⟩ := iz_ofN (Int32.not_lt.mp d1) (Int32.not_lt.mp d4) (by omega)
              obtain ⟨j', hj', rfl⟩ := iz_ofN (Int32.not_lt.mp d2) (Int32.not_lt.mp d5) (by omega)
              have e6 : nI y - nI i' = nI (y - i') := pk_sub hi'
              have e7 : nI y' - nI j' = nI (y' - j') := pk_sub hj'
              have d6' := Int32.not_lt.mp d6
              rw [e6] at d6'
              obtain ⟨n', hn', rfl⟩ := iz_ofN (Int32.not_lt.mp d3) d6' (by omega)
              rw [e7, i_le (by omega) (by omega)] at d7
              have cI : (nI i').toNatClampNeg = i' := nI_clamp (by omega)
              have cJ : (nI j').toNatClampNeg = j' := nI_clamp (by omega)
              have cN : (nI n').toNatClampNeg = n' := nI_clamp (by omega)
              have pt : pre_X4_takeElements t (nI j') s (nI i') (nI n') I J := by
                unfold pre_X4_takeElements
                rw [kif_neg g2, kif_neg g1, cI, cJ, cN]
                exact ⟨⟨d1, d2, d3, by omega, by omega⟩, trivial⟩
              have et : F_X4_takeElements t (nI j') s (nI i') (nI n') I J = (I, kcL J 34 s 34 t i' j' n') := by
                unfold F_X4_takeElements
                rw [kif_neg g2, kif_neg g1, cI, cJ, cN]
              have y1 : E_X10_copy (nI s) (nI t) (nI i') (nI j') (nI n') I J = some (nI n', I, kcL J 34 s 34 t i' j' n') := cC _ (by rw [G_X10_copy_92, kif_neg z1, kif_neg g1, kif_neg g2, kif_pos pt, et])
              obtain ⟨J1, hJ1⟩ : ∃ J1, J1 = kcL J 34 s 34 t i' j' n' := ⟨_, rfl⟩
              rw [← hJ1] at y1
              have y2 := mM I (some (nI n', I, kx_uL J1 51 0 (cpA (J1 51 0) (40 * s + i') (40 * t + j') n'))) J1 rfl rfl (by
                rw [G_X11_copy_81, kif_pos vs, ci, ct, e1, f1, e4, f4, kif_neg (sml hu).2.2.1, kif_pos vt, kif_pos (sml hu').2.2.2.2, kif_neg d1, kif_neg d2, kif_neg d3, kif_pos vs, kif_neg d4, kif_pos vt, kif_neg d5, kif_pos vs, kif_neg d6, kif_pos vt, e7, kif_pos (by rw [i_le (by omega) (by omega)]; exact d7)]
                exact g_copy s t i' j' n' hs7 ht7 (by omega) (by omega) I J1 _ (by omega))
              have c1 := cs_X10_copy _ _ _ _ _ _ _ _ y1
              have c2 := cs_X11_copy _ _ _ _ _ _ _ _ y2
              refine MM_f c1 rfl c2 rfl (Inv_sh h (fun _ _ _ _ _ _ => rfl) (fun s2 hs2 => ?_))
              have z := h.2.2.2.1 s2 hs2
              unfold shl at z ⊢
              refine ⟨z.1, fun j2 hj2 => ?_, z.2.2⟩
              have j51 : ∀ x, J1 51 0 x = J 51 0 x := fun x => by rw [hJ1, kcL_app, if_neg (by omega)]
              rw [uL_at _ _ _ _ _ (by omega), uL_on, hJ1, kcL_app, ← hJ1]
              unfold cpA
              by_cases q : s2 = t ∧ j' ≤ j2 ∧ j2 < j' + n'
              · rw [if_pos ⟨rfl, q.1, q.2⟩, if_pos (by omega), j51]
                have z2 := hS.2.1 (i' + (j2 - j')) (by omega)
                rw [z2, q.1]
                congr 1
                omega
              · rw [if_neg (by omega), if_neg (by omega), j51]
                exact z.2.1 j2 hj2
          · have so : F_X4_isOfSameSort s t I J = 0 := by unfold F_X4_isOfSameSort; rw [e2, f2, kif_neg (fun q => same (nI_inj (by omega) (by omega) q))]
            refine r103 ((eC _).mpr ?_) ?_
            · rw [b1, kif_pos rfl, b2, kif_pos rfl, hm, G_X10_copy_52, a1, kif_pos rfl, a2, kif_pos rfl, kif_neg z1, so, kif_pos rfl, c85]
            · rw [mod0, r49, r49, e1, f1, kif_neg (sml hu).2.1, kif_neg (sml hu').2.1, kif_neg (sml hu).2.2.1, kif_neg (sml hu').2.2.1, kif_neg (fun q => same (nI_inj (by omega) (by omega) q)), hm, m74]
        · have bb := big (show x' < 1000 by omega)
          refine r103 (shipC (Or.inr ⟨by rw [shp, e2, kif_pos (sml hu).1], by rw [shp, f2, kif_neg bb.1]⟩)) ?_
          rw [mod0, r49, r49, e1, f1, kif_neg (sml hu).2.1, kif_pos bb.2.1, hm, m74]
      · have bb := big (show x < 1000 by omega)
        refine r103 (shipC (Or.inl (by rw [shp, e2, kif_neg bb.1]))) ?_
        rw [mod0, r49, r49, e1, kif_pos bb.2.1, hm, m74]

/-! the tape is read: bytes and numbers -/
def TP (I : kI) (z : Nat) (T : Nat → Nat) : Prop := I 7 0 1 = nI z ∧ z ≤ 250 ∧ ∀ k, k < z → I 38 0 k = nI (T k) ∧ T k ≤ 255
def TQ (K : kI) (z : Nat) (T : Nat → Nat) : Prop := K 11 0 9 = nI z ∧ z ≤ 250 ∧ ∀ k, k < z → K 43 0 k = nI (T k) ∧ T k ≤ 255
def bt (z : Nat) (T : Nat → Nat) (k : Nat) : Int32 := if k < z then nI (T k) else -1
def dgt (z : Nat) (T : Nat → Nat) (k : Nat) : Prop := k < z ∧ 48 ≤ T k ∧ T k ≤ 57
theorem byteC {I : kI} {z : Nat} {T : Nat → Nat} (h : TP I z T) (k : Nat) (hk : k < 1000) (J : kJ) : F_X7_byteAt 0 (nI k) I J = bt z T k ∧ pre_X7_byteAt 0 (nI k) I J := by
  obtain ⟨h1, h2, h3⟩ := h
  have rz : rg (nI z) 250 := rg_nI h2 (by omega)
  have z1 : ¬ (1 : Int32) = 0 := by decide
  unfold F_X7_byteAt pre_X7_byteAt bt
  rw [F_within, h1, has_m1 rz (by omega)]
  by_cases q : k < z
  · rw [hasW_k rz (by omega) (by rw [nn_nI (by omega)]; exact q), kif_neg z1, kif_neg z1, if_pos q, nI_clamp (by omega)]
    exact ⟨(h3 k q).1, vl k 250 (by omega) (by omega), trivial⟩
  · have w : hasW (nI z) (nI k) = 0 := by
      rcases hasW_01 (nI z) (nI k) with y | y
      · exact y
      · obtain ⟨j, hj, ej⟩ := hasW_yes rz (by omega) (by rw [y]; exact z1)
        rw [nn_nI (by omega)] at hj
        have := nI_inj (by omega) (by omega) ej
        omega
    rw [w, kif_pos rfl, kif_pos rfl, if_neg q]
    exact ⟨rfl, trivial⟩
theorem byteM {K : kI} {z : Nat} {T : Nat → Nat} (h : TQ K z T) (k : Nat) (hk : k < 1000) (J : kJ) : F_X11_byteAt (nI k) K J = bt z T k ∧ pre_X11_byteAt (nI k) K J := by
  obtain ⟨h1, h2, h3⟩ := h
  unfold F_X11_byteAt pre_X11_byteAt bt
  rw [h1]
  by_cases q : k < z
  · have n : ¬ nI z ≤ nI k := by rw [i_le (by omega) (by omega)]; omega
    rw [kif_neg n, kif_neg n, if_pos q, nI_clamp (by omega)]
    exact ⟨(h3 k q).1, vl k 250 (by omega) (by omega), trivial⟩
  · have n : nI z ≤ nI k := by rw [i_le (by omega) (by omega)]; omega
    rw [kif_pos n, kif_pos n, if_neg q]
    exact ⟨rfl, trivial⟩
theorem dgt_W {z : Nat} {T : Nat → Nat} (hT : ∀ k, k < z → T k ≤ 255) (k : Nat) : (if bt z T k < 48 then (0 : Int32) else if 57 < bt z T k then 0 else 1) = kif (dgt z T k) 1 0 := by
  unfold bt dgt
  by_cases q : k < z
  · have := hT k q
    rw [if_pos q]
    have e1 : (nI (T k) < 48) ↔ T k < 48 := by
      show nI _ < nI 48 ↔ _
      exact i_lt (by omega) (by omega)
    have e2 : ((57 : Int32) < nI (T k)) ↔ 57 < T k := by
      show nI 57 < nI _ ↔ _
      exact i_lt (by omega) (by omega)
    by_cases a : T k < 48
    · rw [if_pos (e1.mpr a), kif_neg (by omega)]
    · rw [if_neg (fun y => a (e1.mp y))]
      by_cases b : 57 < T k
      · rw [if_pos (e2.mpr b), kif_neg (by omega)]
      · rw [if_neg (fun y => b (e2.mp y)), kif_pos ⟨q, by omega, by omega⟩]
  · rw [if_neg q, kif_neg (fun y => q y.1)]
    decide
noncomputable def ndg (z : Nat) (T : Nat → Nat) (a : Nat) : Nat := kif (dgt z T a) (kif (dgt z T (a + 1)) 2 1) 0
noncomputable def num (z : Nat) (T : Nat → Nat) (a : Nat) : Nat := kif (dgt z T a) (kif (dgt z T (a + 1)) (10 * (T a - 48) + T (a + 1) - 48) (T a - 48)) 0
theorem bt_d {z : Nat} {T : Nat → Nat} {k : Nat} (h : dgt z T k) : bt z T k = nI (T k) := by
  unfold bt
  rw [if_pos h.1]
theorem dig1 (p t : Nat) (h : 48 ≤ t) (ht : t ≤ 57) (hp : p ≤ 9) : nI p * (10 : Int32) + nI t - 48 = nI (10 * p + t - 48) ∧ (10 : Int32) * nI p + nI t - 48 = nI (10 * p + t - 48) := by
  have e1 : nI p * (10 : Int32) = nI (p * 10) := pk_mul p 10
  have e2 : (10 : Int32) * nI p = nI (10 * p) := pk_mul 10 p
  have e3 : nI (10 * p + t) - nI 48 = nI (10 * p + t - 48) := pk_sub (by omega)
  rw [e1, e2, nI_add, nI_add, show p * 10 = 10 * p by omega]
  exact ⟨e3, e3⟩
theorem E_countD {I : kI} {z : Nat} {T : Nat → Nat} (h : TP I z T) (a : Nat) (ha : a < 900) (J : kJ) : E_X7_countDigits 0 (nI a) I J = some (nI (ndg z T a)) := by
  obtain ⟨m, hm⟩ : ∃ m, kfu = m + 3 := ⟨kfu - 3, by unfold kfu; omega⟩
  have hT : ∀ k, k < z → T k ≤ 255 := fun k hk => (h.2.2 k hk).2
  have b0 := byteC h a (by omega) J
  have b1 := byteC h (a + 1) (by omega) J
  have z1 : ¬ (1 : Int32) = 0 := by decide
  have pd : ∀ k, pre_X7_isDigit (bt z T k) I J := fun k => by
    unfold pre_X7_isDigit
    rw [F_within]
    exact in_01 _ _ _
  have fd : ∀ k, F_X7_isDigit (bt z T k) I J = kif (dgt z T k) 1 0 := fun k => by
    unfold F_X7_isDigit
    rw [F_within, dgt_W hT]
  unfold E_X7_countDigits ndg
  rw [kif_pos b0.2, b0.1, kif_pos (pd _), fd, hm, G_X7_countDigits_8]
  by_cases q : dgt z T a
  · rw [kif_pos q, kif_neg z1, kif_pos q, G_X7_countDigits_13, nI_1, kif_pos b1.2, b1.1, kif_pos (pd _), fd, G_X7_countDigits_23]
    by_cases q2 : dgt z T (a + 1)
    · rw [kif_pos q2, kif_neg z1, kif_pos q2]
      rfl
    · rw [kif_neg q2, kif_pos rfl, kif_neg q2]
      rfl
  · rw [kif_neg q, kif_pos rfl, kif_neg q]
    rfl
theorem E_numAt {I : kI} {z : Nat} {T : Nat → Nat} (h : TP I z T) (a : Nat) (ha : a < 900) (J : kJ) : E_X7_numberAt 0 (nI a) (nI (ndg z T a)) I J = some (nI (num z T a)) := by
  obtain ⟨m, hm⟩ : ∃ m, kfu = m + 3 := ⟨kfu - 3, by unfold kfu; omega⟩
  have b0 := byteC h a (by omega) J
  have b1 := byteC h (a + 1) (by omega) J
  have a0 : nI a + 0 = nI a := Int32.add_zero _
  have d0 : (0 : Int32) * 10 = 0 := by decide
  have z01 : (0 : Int32) + 1 = 1 := by decide
  have z12 : (1 : Int32) + 1 = 2 := by decide
  unfold E_X7_numberAt ndg num
  rw [hm]
  by_cases q : dgt z T a
  · have e0 : (0 : Int32) * 10 + nI (T a) - 48 = nI (T a - 48) := by
      have e := (dig1 0 (T a) q.2.1 q.2.2 (by omega)).1
      rw [show 10 * 0 + T a - 48 = T a - 48 by omega] at e
      exact e
    rw [kif_pos q, kif_pos q]
    by_cases q2 : dgt z T (a + 1)
    · have e1 := (dig1 (T a - 48) (T (a + 1)) q2.2.1 q2.2.2 (by have := q.2.2; omega)).1
      rw [kif_pos q2, kif_pos q2, G_X7_numberAt_5, kif_neg (by decide), a0, kif_pos b0.2, b0.1, bt_d q, e0, z01, G_X7_numberAt_5, kif_neg (by decide), nI_1, kif_pos b1.2, b1.1, bt_d q2, e1, z12, G_X7_numberAt_5, kif_pos (by decide)]
    · rw [kif_neg q2, kif_neg q2, G_X7_numberAt_5, kif_neg (by decide), a0, kif_pos b0.2, b0.1, bt_d q, e0, z01, G_X7_numberAt_5, kif_pos (by decide)]
  · rw [kif_neg q, kif_neg q, G_X7_numberAt_5, kif_pos (by decide)]
    rfl
theorem num_le {z : Nat} {T : Nat → Nat} (a : Nat) : num z T a ≤ 99 ∧ (¬ num z T a = 0 → ¬ ndg z T a = 0) ∧ ndg z T a ≤ 2 ∧ (a ≤ z → a + ndg z T a ≤ z) := by
  unfold num ndg
  by_cases q : dgt z T a
  · rw [kif_pos q, kif_pos q]
    have q1 := q.2
    have q0 := q.1
    by_cases q2 : dgt z T (a + 1)
    · rw [kif_pos q2, kif_pos q2]
      have q3 := q2.2
      have q4 := q2.1
      exact ⟨by omega, fun _ => by omega, by omega, fun _ => by omega⟩
    · rw [kif_neg q2, kif_neg q2]
      exact ⟨by omega, fun _ => by omega, by omega, fun _ => by omega⟩
  · rw [kif_neg q, kif_neg q]
    exact ⟨by omega, fun y => absurd rfl y, by omega, fun y => by omega⟩
/-- the model's run, from its letter on -/
def rnX (K : kI) (pl r : Nat) (w : Int32) (v : Nat) : kI := kw (kw (kw (kw K 11 0 10 (nI pl)) 44 0 (2 * r) w) 44 0 (2 * r + 1) (nI v)) 11 0 12 (nI (r + 1))
def wlt (c : Int32) : Int32 := if c = 99 then 0 else if c = 102 then 1 else 2
theorem run_end {K : kI} {z : Nat} {T : Nat → Nat} (h : TQ K z T) (J : kJ) (c : Int32) (a r d v : Nat) (ha : a < 900) (hr : r < 20) (h10 : K 11 0 10 = nI a) (h12 : K 11 0 12 = nI r) (hd : d ≤ 2) (hv : v ≤ 99) (hstop : d = 2 ∨ ¬ dgt z T (a + d)) (m : Nat) : (d = 0 ∨ v = 0 → G_X11_isRun (m + 2) 52 c (nI v) (nI d) K J = some (0, K, J)) ∧ (¬ (d = 0 ∨ v = 0) → G_X11_isRun (m + 2) 52 c (nI v) (nI d) K J = some (1, rnX K (a + d) r (wlt c) v, J)) := by
  have hT : ∀ k, k < z → T k ≤ 255 := fun k hk => (h.2.2 k hk).2
  have z1 : ¬ (1 : Int32) = 0 := by decide
  have b := byteM h (a + d) (by omega) J
  have e2r : (2 : Int32) * nI r = nI (2 * r) := pk_mul 2 r
  have c2r : (nI (2 * r)).toNatClampNeg = 2 * r := nI_clamp (by omega)
  have c2r1 : (nI (2 * r) + 1).toNatClampNeg = 2 * r + 1 := by rw [nI_1, nI_clamp (by omega)]
  have v2r : vp_in (nI (2 * r)) 40 := vl _ 40 (by omega) (by omega)
  have v2r1 : vp_in (nI (2 * r) + 1) 40 := by rw [nI_1]; exact vl _ 40 (by omega) (by omega)
  obtain ⟨K1, hK1⟩ : ∃ K1, K1 = kw K 11 0 10 (nI (a + d)) := ⟨_, rfl⟩
  have k12 : K1 11 0 12 = nI r := by rw [hK1, kw_at _ _ (by omega), h12]
  have k12b : ∀ w, (kw K1 44 0 (2 * r) w) 11 0 12 = nI r := fun w => by rw [kw_at _ _ (by omega), k12]
  have k12c : ∀ w, (kw (kw K1 44 0 (2 * r) w) 44 0 (2 * r + 1) (nI v)) 11 0 12 = nI r := fun w => by rw [kw_at _ _ (by omega), k12b]
  have fin : ∀ w, kw (kw (kw K1 44 0 (2 * r) w) 44 0 (2 * r + 1) (nI v)) 11 0 12 (nI (r + 1)) = rnX K (a + d) r w v := fun w => by rw [hK1]; rfl
  have d0 : (nI d = 0) ↔ d = 0 := ⟨fun y => nI_inj (b := 0) (by omega) (by omega) y, fun y => by rw [y]; rfl⟩
  have v0 : (nI v = 0) ↔ v = 0 := ⟨fun y => nI_inj (b := 0) (by omega) (by omega) y, fun y => by rw [y]; rfl⟩
  have step : ∀ R, (kif (nI d = 0) (some ((0 : Int32), K, J)) (kif (nI v = 0) (some ((0 : Int32), K, J)) (some ((1 : Int32), rnX K (a + d) r (wlt c) v, J)))) = R → G_X11_isRun (m + 2) 52 c (nI v) (nI d) K J = R := by
    intro R hR
    rw [G_X11_isRun_52, h10, nI_add, ← hK1, k12, e2r, kif_pos v2r, c2r, kif_pos v2r, kif_pos v2r, k12b, k12b, k12b, e2r, kif_pos v2r1, kif_pos v2r1, kif_pos v2r1, c2r1, k12c, k12c, k12c, nI_1, fin, fin, fin, G_X11_isRun_181, G_X11_isRun_181, G_X11_isRun_181]
    have wl : kif (c = 99) (some ((1 : Int32), rnX K (a + d) r 0 v, J)) (kif (c = 102) (some ((1 : Int32), rnX K (a + d) r 1 v, J)) (some ((1 : Int32), rnX K (a + d) r 2 v, J))) = some ((1 : Int32), rnX K (a + d) r (wlt c) v, J) := by
      unfold wlt
      by_cases y1 : c = 99
      · rw [kif_pos y1, if_pos y1]
      · rw [kif_neg y1, if_neg y1]
        by_cases y2 : c = 102
        · rw [kif_pos y2, if_pos y2]
        · rw [kif_neg y2, if_neg y2]
    rw [wl]
    by_cases q2 : d = 2
    · rw [kif_pos (by rw [q2]; decide)]
      exact hR
    · rw [kif_neg (by show ¬ nI 2 ≤ nI d; rw [i_le (by omega) (by omega)]; omega), kif_pos b.2, b.1, in_48_57, dgt_W hT, kif_neg (hstop.resolve_left q2), kif_pos rfl]
      exact hR
  constructor
  · intro q
    refine step _ ?_
    by_cases y : d = 0
    · rw [kif_pos (d0.mpr y)]
    · rw [kif_neg (fun x => y (d0.mp x)), kif_pos (v0.mpr (q.resolve_left y))]
  · intro q
    refine step _ ?_
    rw [kif_neg (fun x => q (Or.inl (d0.mp x))), kif_neg (fun x => q (Or.inr (v0.mp x)))]
theorem run_dig {K : kI} {z : Nat} {T : Nat → Nat} (h : TQ K z T) (J : kJ) (c : Int32) (a d v : Nat) (ha : a < 900) (h10 : K 11 0 10 = nI a) (hd : d < 2) (hv : v ≤ 9) (hg : dgt z T (a + d)) (m : Nat) : G_X11_isRun (m + 1) 52 c (nI v) (nI d) K J = G_X11_isRun m 52 c (nI (10 * v + T (a + d) - 48)) (nI (d + 1)) K J := by
  have hT : ∀ k, k < z → T k ≤ 255 := fun k hk => (h.2.2 k hk).2
  have z1 : ¬ (1 : Int32) = 0 := by decide
  have b := byteM h (a + d) (by omega) J
  rw [G_X11_isRun_52, kif_neg (by show ¬ nI 2 ≤ nI d; rw [i_le (by omega) (by omega)]; omega), h10, nI_add, kif_pos b.2, b.1, in_48_57, dgt_W hT, kif_pos hg, kif_neg z1, kif_pos b.2, bt_d hg, (dig1 v (T (a + d)) hg.2.1 hg.2.2 hv).2, nI_1]
theorem run52 {K : kI} {z : Nat} {T : Nat → Nat} (h : TQ K z T) (J : kJ) (c : Int32) (a r : Nat) (ha : a < 900) (hr : r < 20) (h10 : K 11 0 10 = nI a) (h12 : K 11 0 12 = nI r) : (num z T a = 0 → G_X11_isRun kfu 52 c 0 0 K J = some (0, K, J)) ∧ (¬ num z T a = 0 → G_X11_isRun kfu 52 c 0 0 K J = some (1, rnX K (a + ndg z T a) r (wlt c) (num z T a), J)) := by
  obtain ⟨m, hm⟩ : ∃ m, kfu = m + 4 := ⟨kfu - 4, by unfold kfu; omega⟩
  rw [hm]
  unfold num ndg
  by_cases q : dgt z T a
  · have q1 := q.2
    rw [kif_pos q, kif_pos q]
    have s1 := run_dig h J c a 0 0 ha h10 (by omega) (by omega) q (m + 3)
    rw [show 10 * 0 + T (a + 0) - 48 = T a - 48 by rw [Nat.add_zero]; omega] at s1
    have s1' : G_X11_isRun (m + 4) 52 c 0 0 K J = G_X11_isRun (m + 3) 52 c (nI (T a - 48)) (nI 1) K J := s1
    rw [s1']
    by_cases q2 : dgt z T (a + 1)
    · have q3 := q2.2
      rw [kif_pos q2, kif_pos q2]
      have s2 := run_dig h J c a 1 (T a - 48) ha h10 (by omega) (by omega) q2 (m + 2)
      rw [s2]
      have e := run_end h J c a r 2 (10 * (T a - 48) + T (a + 1) - 48) ha hr h10 h12 (by omega) (by omega) (Or.inl rfl) m
      exact ⟨fun y => e.1 (Or.inr y), fun y => e.2 (fun x => x.elim (by omega) y)⟩
    · rw [kif_neg q2, kif_neg q2]
      have e := run_end h J c a r 1 (T a - 48) ha hr h10 h12 (by omega) (by omega) (Or.inr q2) (m + 1)
      exact ⟨fun y => e.1 (Or.inr y), fun y => e.2 (fun x => x.elim (by omega) y)⟩
  · rw [kif_neg q, kif_neg q]
    have e := run_end h J c a r 0 0 ha hr h10 h12 (by omega) (by omega) (Or.inr (by rw [Nat.add_zero]; exact q)) (m + 2)
    exact ⟨fun _ => e.1 (Or.inl rfl), fun y => absurd rfl y⟩

/-! the pure part: helpers, the sky -/
theorem kv {α : Type _} {n N : Nat} {a : Option α} (h : n < N) (hN : N < 2147483648) : kif (vp_in (@OfNat.ofNat Int32 n _) N) a none = a := kif_pos (vl n N h hN)
theorem kn {n : Nat} (h : n < 2147483648) : (@OfNat.ofNat Int32 n _).toNatClampNeg = n := nI_clamp h
theorem k24 {α : Type _} {a : Option α} : kif (¬ (24 : Int32) = 0) a none = a := kif_pos (by decide)
theorem kT {α : Type _} {a b : α} : kif True a b = a := kif_pos trivial
theorem kF {α : Type _} {a b : α} : kif False a b = b := kif_neg id
/-- the sum of lengths, as a number -/
def lsum (ln : Nat → Nat) : Nat → Nat → Nat
  | _, 0 => 0
  | i, n + 1 => ln i + lsum ln (i + 1) n
theorem lsum_ls (h : Nat → Int32) (ln : Nat → Nat) : ∀ n i (acc : Nat), (∀ j, i ≤ j → j < i + n → h j = nI (ln j)) → ls h i n (nI acc) = nI (acc + lsum ln i n) := by
  intro n
  induction n with
  | zero => intro i acc _; rfl
  | succ n ih =>
    intro i acc hh
    rw [ls, lsum, hh i (by omega) (by omega), nI_add, ih (i + 1) _ (fun j h1 h2 => hh j (by omega) (by omega)), Nat.add_assoc]
theorem lsum_le (ln : Nat → Nat) (b : Nat) : ∀ n i, (∀ j, i ≤ j → j < i + n → ln j ≤ b) → lsum ln i n ≤ n * b := by
  intro n
  induction n with
  | zero => intro i _; simp [lsum]
  | succ n ih =>
    intro i h
    have h1 := ih (i + 1) (fun j a b => h j (by omega) (by omega))
    have h2 := h i (by omega) (by omega)
    rw [lsum, Nat.add_mul]
    omega
theorem gw1 (a0 : Int32) (I : kI) (J : kJ) {c : Nat} (hc : c ≤ 20) (hI : I 41 0 12 = nI c) (tot : Int32) : ∀ n i acc m, i + n = c → ls (fun r => I 41 0 (21 + 2 * r + 1)) i n acc = tot → G_X11_weatherOf a0 (m + n + 1) 4 acc (nI i) 0 I J = kif (tot = 0) (some 0) (kif (¬ tot = 0) (G_X11_weatherOf a0 m 50 0 (a0 - a0 / tot * tot) 0 I J) none) := by
  intro n
  induction n with
  | zero =>
    intro i acc m hi hr
    rw [ls] at hr
    subst hr
    rw [G_X11_weatherOf_4, kv (by decide) (by decide), kn (by decide), hI, kif_pos (nI_le (by omega) (by omega))]
  | succ n ih =>
    intro i acc m hi hr
    have hcl : ((21 : Int32) + 2 * nI i + 1).toNatClampNeg = 21 + 2 * i + 1 := ix3c (a := 21) (b := 2) (c := 1) (by omega)
    have hv : vp_in ((21 : Int32) + 2 * nI i + 1) 2509 := ix3v (a := 21) (b := 2) (c := 1) (by omega) (by omega)
    rw [ls] at hr
    rw [G_X11_weatherOf_4, kv (by decide) (by decide), kn (by decide), hI, kif_neg (nI_ge (by omega) (by omega)), kif_pos hv, hcl]
    have hn := ih (i + 1) _ m (by omega) hr
    rw [← nI_1] at hn
    exact hn
theorem gw2 (a0 : Int32) (I : kI) (J : kJ) {c : Nat} (hc : c ≤ 20) (ln : Nat → Nat) (hln : ∀ r, r < c → I 41 0 (21 + 2 * r + 1) = nI (ln r) ∧ ln r ≤ 99) : ∀ n i left m, i + n = c → left < lsum ln i n → G_X11_weatherOf a0 (m + n + 1) 50 0 (nI left) (nI i) I J = some (wAt (fun r => I 41 0 (21 + 2 * r)) (fun r => I 41 0 (21 + 2 * r + 1)) n i (nI left)) := by
  intro n
  induction n with
  | zero =>
    intro i left m hi hl
    rw [lsum] at hl
    omega
  | succ n ih =>
    intro i left m hi hl
    have hb := lsum_le ln 99 (n + 1) i (fun j a b => (hln j (by omega)).2)
    have hcl : ((21 : Int32) + 2 * nI i + 1).toNatClampNeg = 21 + 2 * i + 1 := ix3c (a := 21) (b := 2) (c := 1) (by omega)
    have hcl2 : ((21 : Int32) + 2 * nI i).toNatClampNeg = 21 + 2 * i := ix2c (a := 21) (b := 2) (by omega)
    have hv : vp_in ((21 : Int32) + 2 * nI i + 1) 2509 := ix3v (a := 21) (b := 2) (c := 1) (by omega) (by omega)
    have hv2 : vp_in ((21 : Int32) + 2 * nI i) 2509 := ix2v (a := 21) (b := 2) (by omega) (by omega)
    obtain ⟨e1, e2⟩ := hln i (by omega)
    rw [G_X11_weatherOf_50, wAt, hcl, hcl2, e1, kif_pos hv]
    by_cases h : nI left < nI (ln i)
    · rw [kif_pos h, if_pos h, kif_pos hv2]
    · rw [kif_neg h, if_neg h, kif_pos hv]
      have hle : ln i ≤ left := by
        rw [nI_ltI (by omega) (by omega)] at h
        omega
      rw [lsum] at hl
      have hn := ih (i + 1) (left - ln i) m (by omega) (by omega)
      rw [← nI_1] at hn
      rw [pk_sub hle]
      exact hn

theorem iz_0 : (0 : Int32).toInt = 0 := rfl
theorem iz_pos {n : Nat} (h0 : 0 < n) (h : n < 2147483648) : ¬ nI n = 0 := by
  intro q
  have h2 := congrArg Int32.toInt q
  rw [iz_nI h, iz_0] at h2
  omega
theorem iz_modN {a n : Nat} (ha : a < 2147483648) (h0 : 0 < n) (h : n < 2147483648) : nI a - nI a / nI n * nI n = nI (a % n) := by
  have e := iz_rem (x := nI a) (y := nI n) (by rw [iz_nI ha]; omega) (by rw [iz_nI h]; omega)
  have hm := Nat.mod_lt a h0
  rw [← Int32.toInt_inj, e.1, iz_nI ha, iz_nI h, iz_nI (by omega)]
  rfl
/-- the reference's weather -/
theorem E_weatherOf (a : Nat) (ha : a < 2147483648) (I : kI) (J : kJ) {c : Nat} (hc : c ≤ 20) (hI : I 41 0 12 = nI c) (ln : Nat → Nat) (hln : ∀ r, r < c → I 41 0 (21 + 2 * r + 1) = nI (ln r) ∧ 1 ≤ ln r ∧ ln r ≤ 99) : E_X11_weatherOf (nI a) I J = some (if c = 0 then 0 else wAt (fun r => I 41 0 (21 + 2 * r)) (fun r => I 41 0 (21 + 2 * r + 1)) c 0 (nI (a % lsum ln 0 c))) := by
  have hs : ls (fun r => I 41 0 (21 + 2 * r + 1)) 0 c 0 = nI (lsum ln 0 c) := by
    have e := lsum_ls (fun r => I 41 0 (21 + 2 * r + 1)) ln c 0 0 (fun j _ h2 => (hln j (by omega)).1)
    rw [Nat.zero_add] at e
    exact e
  have hle := lsum_le ln 99 c 0 (fun j _ h2 => (hln j (by omega)).2.2)
  obtain ⟨m, hm⟩ : ∃ m, kfu = (m + c + 1) + c + 1 := ⟨kfu - c - c - 2, by unfold kfu; omega⟩
  have h1 := gw1 (nI a) I J hc hI (nI (lsum ln 0 c)) c 0 0 (m + c + 1) (by omega) hs
  unfold E_X11_weatherOf
  rw [hm]
  refine h1.trans ?_
  by_cases h0 : c = 0
  · subst h0
    rw [kif_pos (show nI (lsum ln 0 0) = 0 from rfl), if_pos rfl]
  · have hp : 0 < lsum ln 0 c := by
      obtain ⟨k, rfl⟩ : ∃ k, c = k + 1 := ⟨c - 1, by omega⟩
      rw [lsum]
      have := (hln 0 (by omega)).2.1
      omega
    rw [kif_neg (iz_pos hp (by omega)), kif_pos (iz_pos hp (by omega)), if_neg h0, iz_modN ha hp (by omega)]
    exact gw2 (nI a) I J hc ln (fun r hr => ⟨(hln r hr).1, (hln r hr).2.2⟩) c 0 _ m (by omega) (Nat.mod_lt _ hp)

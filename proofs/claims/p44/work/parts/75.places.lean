/-! the class's ships in their places -/
def bf (kd hr : Nat → Nat) (s t : Nat) : Prop := hr s < hr t ∨ (hr s = hr t ∧ (kd t < kd s ∨ (kd s = kd t ∧ s < t)))
def FL (I : kI) (o c : Nat) (kd hr p : Nat → Nat) : Prop := c ≤ 200 ∧ I 2 o 5 = nI c ∧ (∀ s, s < c → I 25 o s = nI (kd s) ∧ 3 ≤ kd s ∧ kd s ≤ 7 ∧ I 26 o s = nI (hr s) ∧ hr s < 1000000000) ∧ (∀ a, a < c → I 29 o a = nI (p a) ∧ p a < c) ∧ (∀ s, s < c → ∃ a, a < c ∧ p a = s) ∧ (∀ a b, a < b → b < c → bf kd hr (p a) (p b))
theorem i_lt {a b : Nat} (ha : a < 2147483648) (hb : b < 2147483648) : (nI a < nI b) ↔ a < b := nI_ltI (by omega) (by omega)
theorem i_nlt0 (a : Nat) (ha : a < 2147483648) : ¬ nI a < 0 := by
  show ¬ nI a < nI 0
  rw [i_lt ha (by omega)]
  omega
theorem i_le {a b : Nat} (ha : a < 2147483648) (hb : b < 2147483648) : (nI a ≤ nI b) ↔ a ≤ b := by
  rw [Int32.le_iff_toInt_le, iz_nI ha, iz_nI hb]
  omega
theorem F_has2 {I : kI} {o c : Nat} (hc : c ≤ 200) (hI : I 2 o 5 = nI c) (s : Nat) (hs : s < 2147483648) (J : kJ) : F_X2_has o (nI s) I J = if s < c then 1 else 0 := by
  unfold F_X2_has
  rw [kif_neg (i_nlt0 s hs), hI]
  by_cases h : s < c
  · rw [if_pos h, kif_neg (by rw [i_le (by omega) hs]; omega)]
  · rw [if_neg h, kif_pos (by rw [i_le (by omega) hs]; omega)]
theorem F_has2m {I : kI} {o : Nat} (J : kJ) : F_X2_has o (-1) I J = 0 := by
  unfold F_X2_has
  rw [kif_pos (by decide)]
theorem F_hourOf2 {I : kI} {o c : Nat} (hc : c ≤ 200) (hI : I 2 o 5 = nI c) {s : Nat} (hs : s < c) (J : kJ) : F_X2_hourOf o (nI s) I J = I 26 o s ∧ pre_X2_hourOf o (nI s) I J := by
  unfold F_X2_hourOf pre_X2_hourOf
  rw [F_has2 hc hI s (by omega), if_pos hs, kif_neg (by decide), kif_neg (by decide), nI_clamp (by omega)]
  exact ⟨rfl, vl s 200 (by omega) (by omega), trivial⟩
theorem F_kindOf2 {I : kI} {o c : Nat} (hc : c ≤ 200) (hI : I 2 o 5 = nI c) {s : Nat} (hs : s < c) (J : kJ) : F_X2_kindOf o (nI s) I J = I 25 o s ∧ pre_X2_kindOf o (nI s) I J := by
  unfold F_X2_kindOf pre_X2_kindOf
  rw [F_has2 hc hI s (by omega), if_pos hs, kif_neg (by decide), kif_neg (by decide), nI_clamp (by omega)]
  exact ⟨rfl, vl s 200 (by omega) (by omega), trivial⟩
theorem F_fateOf2 {I : kI} {o c : Nat} (hc : c ≤ 200) (hI : I 2 o 5 = nI c) {s : Nat} (hs : s < c) (J : kJ) : F_X2_fateOf o (nI s) I J = I 27 o s ∧ pre_X2_fateOf o (nI s) I J := by
  unfold F_X2_fateOf pre_X2_fateOf
  rw [F_has2 hc hI s (by omega), if_pos hs, kif_neg (by decide), kif_neg (by decide), nI_clamp (by omega)]
  exact ⟨rfl, vl s 200 (by omega) (by omega), trivial⟩
theorem F_metOf2 {I : kI} {o c : Nat} (hc : c ≤ 200) (hI : I 2 o 5 = nI c) {s : Nat} (hs : s < c) (J : kJ) : F_X2_metOf o (nI s) I J = I 28 o s ∧ pre_X2_metOf o (nI s) I J := by
  unfold F_X2_metOf pre_X2_metOf
  rw [F_has2 hc hI s (by omega), if_pos hs, kif_neg (by decide), kif_neg (by decide), nI_clamp (by omega)]
  exact ⟨rfl, vl s 200 (by omega) (by omega), trivial⟩
theorem F_placed {I : kI} {o c : Nat} (hc : c ≤ 200) (hI : I 2 o 5 = nI c) {s : Nat} (hs : s < c) (J : kJ) : F_X2_shipInPlace o (nI s) I J = I 29 o s ∧ pre_X2_shipInPlace o (nI s) I J := by
  have e1 : nI c - nI 1 = nI (c - 1) := pk_sub (by omega)
  have e : nI c - (1 : Int32) = nI (c - 1) := e1
  have h : F_X10_isWithin (nI s) (0 : Int32) ((I 2 o 5) - (1 : Int32)) I J = 1 := by
    rw [F_within, if_neg (i_nlt0 s (by omega)), hI, e, if_neg (by rw [i_lt (by omega) (by omega)]; omega)]
  unfold F_X2_shipInPlace pre_X2_shipInPlace
  rw [h, kif_neg (by decide), kif_neg (by decide), nI_clamp (by omega)]
  exact ⟨rfl, vl s 200 (by omega) (by omega), trivial⟩
theorem F_placed0 {I : kI} {o c : Nat} (hc : c ≤ 200) (hI : I 2 o 5 = nI c) {s : Nat} (hs : c ≤ s) (h31 : s < 2147483648) (J : kJ) : F_X2_shipInPlace o (nI s) I J = -1 ∧ pre_X2_shipInPlace o (nI s) I J := by
  have h : F_X10_isWithin (nI s) (0 : Int32) ((I 2 o 5) - (1 : Int32)) I J = 0 := by
    rw [F_within, if_neg (i_nlt0 s (by omega)), hI]
    rw [if_pos]
    rw [Int32.lt_iff_toInt_lt, iz_sub (by rw [iz_nI (by omega), show (1 : Int32).toInt = 1 from rfl]; omega), iz_nI (by omega), iz_nI (by omega), show (1 : Int32).toInt = 1 from rfl]
    omega
  unfold F_X2_shipInPlace pre_X2_shipInPlace
  rw [h, kif_pos rfl, kif_pos rfl]
  exact ⟨rfl, trivial⟩
theorem g_first {I : kI} {o c : Nat} {kd hr p : Nat → Nat} (hF : FL I o c kd hr p) (h : Nat) (hh : h < 2147483648) (J : kJ) : ∀ n lo hi st m, hi < lo + 2 ^ n → lo ≤ hi → hi ≤ c → st + n ≤ 31 → n + 1 ≤ m → (∀ a, a < lo → hr (p a) < h) → (∀ a, hi ≤ a → a < c → h ≤ hr (p a)) → ∃ f, f ≤ c ∧ G_X2_firstPlaceOf o (nI h) m 10 (nI lo) (nI hi) (nI st) I J = some (nI f) ∧ (∀ a, a < f → hr (p a) < h) ∧ (∀ a, f ≤ a → a < c → h ≤ hr (p a)) := by
  obtain ⟨hc, hI, hK, hP, _, hS⟩ := hF
  intro n
  induction n with
  | zero =>
    intro lo hi st m h1 h2 h3 h4 h5 ha hb
    obtain ⟨m, rfl⟩ : ∃ m', m = m' + 1 := ⟨m - 1, by omega⟩
    rw [Nat.pow_zero] at h1
    obtain rfl : lo = hi := by omega
    refine ⟨lo, h3, ?_, ha, hb⟩
    rw [G_X2_firstPlaceOf_10, kif_neg (by show ¬ nI 32 ≤ nI st; rw [i_le (by omega) (by omega)]; omega), kif_pos (by rw [i_le (by omega) (by omega)]; omega)]
  | succ n ih =>
    intro lo hi st m h1 h2 h3 h4 h5 ha hb
    obtain ⟨m, rfl⟩ : ∃ m', m = m' + 1 := ⟨m - 1, by omega⟩
    rw [Nat.pow_succ] at h1
    rw [G_X2_firstPlaceOf_10, kif_neg (by show ¬ nI 32 ≤ nI st; rw [i_le (by omega) (by omega)]; omega)]
    by_cases he : hi ≤ lo
    · obtain rfl : lo = hi := by omega
      rw [kif_pos (by rw [i_le (by omega) (by omega)]; omega)]
      exact ⟨lo, h3, rfl, ha, hb⟩
    · have hd : (nI lo + nI hi) / (2 : Int32) = nI ((lo + hi) / 2) := by
        rw [nI_add]
        exact pk_div (d := 2) (by omega) (by omega) (by omega)
      have hm : (lo + hi) / 2 < c := by omega
      have e1 := F_placed (s := (lo + hi) / 2) hc hI hm J
      have e2 := F_hourOf2 (s := p ((lo + hi) / 2)) hc hI (hP _ hm).2 J
      have ek := hK _ (hP _ hm).2
      rw [kif_neg (by rw [i_le (by omega) (by omega)]; omega), kif_pos (by decide), hd, kif_pos e1.2, e1.1, (hP _ hm).1, kif_pos e2.2, e2.1, ek.2.2.2.1, nI_1, nI_1]
      by_cases hq : h ≤ hr (p ((lo + hi) / 2))
      · rw [kif_pos (by rw [i_le (by omega) (by omega)]; exact hq)]
        refine ih lo ((lo + hi) / 2) (st + 1) m (by omega) (by omega) (by omega) (by omega) (by omega) ha (fun a h6 h7 => ?_)
        by_cases h8 : a = (lo + hi) / 2
        · subst h8; exact hq
        · have := hS ((lo + hi) / 2) a (by omega) h7
          unfold bf at this
          omega
      · rw [kif_neg (by rw [i_le (by omega) (by omega)]; exact hq)]
        refine ih ((lo + hi) / 2 + 1) hi (st + 1) m (by omega) (by omega) (by omega) (by omega) (by omega) (fun a h6 => ?_) hb
        by_cases h8 : a = (lo + hi) / 2
        · subst h8; omega
        · have := hS a ((lo + hi) / 2) (by omega) hm
          unfold bf at this
          omega
theorem E_firstPlaceOf {I : kI} {o c : Nat} {kd hr p : Nat → Nat} (hF : FL I o c kd hr p) (h : Nat) (hh : h < 2147483648) (J : kJ) : ∃ f, f ≤ c ∧ E_X2_firstPlaceOf o (nI h) I J = some (nI f) ∧ (∀ a, a < f → hr (p a) < h) ∧ (∀ a, f ≤ a → a < c → h ≤ hr (p a)) := by
  unfold E_X2_firstPlaceOf
  rw [hF.2.1]
  exact g_first hF h hh J 8 0 c 0 kfu (by have := hF.1; omega) (by omega) (Nat.le_refl _) (by omega) (by unfold kfu; omega) (fun a h => absurd h (by omega)) (fun a h1 h2 => absurd h2 (by omega))

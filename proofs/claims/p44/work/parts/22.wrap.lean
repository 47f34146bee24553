/-! the reference's loops, one by one -/
theorem ix3 (a b c i : Nat) : nI a + nI b * nI i + nI c = nI (a + b * i + c) := by rw [pk_mul, nI_add, nI_add]
theorem ix3c {a b c i : Nat} (h : a + b * i + c < 2147483648) : (nI a + nI b * nI i + nI c).toNatClampNeg = a + b * i + c := by rw [ix3, nI_clamp (by omega)]
theorem ix3v {a b c i N : Nat} (h : a + b * i + c < N) (hN : N < 2147483648) : vp_in (nI a + nI b * nI i + nI c) N := by rw [ix3]; exact vp_in_nI h (by omega)
theorem ix2 (a b i : Nat) : nI a + nI b * nI i = nI (a + b * i) := by rw [pk_mul, nI_add]
theorem ix2c {a b i : Nat} (h : a + b * i < 2147483648) : (nI a + nI b * nI i).toNatClampNeg = a + b * i := by rw [ix2, nI_clamp (by omega)]
theorem ix2v {a b i N : Nat} (h : a + b * i < N) (hN : N < 2147483648) : vp_in (nI a + nI b * nI i) N := by rw [ix2]; exact vp_in_nI h (by omega)
theorem ix1c {a i : Nat} (h : a + i < 2147483648) : (nI a + nI i).toNatClampNeg = a + i := by rw [nI_add, nI_clamp (by omega)]
theorem ix1v {a i N : Nat} (h : a + i < N) (hN : N < 2147483648) : vp_in (nI a + nI i) N := by rw [nI_add]; exact vp_in_nI h (by omega)
theorem vl (n N : Nat) (h : n < N) (hN : N < 2147483648) : vp_in (nI n) N := vp_in_nI h (by omega)
def sp_X11_copies : kx_Sp := fun av0 S0 r0 S1 => ∃ (o1 o2 : Nat) (ho : o1 ≠ o2) (I : kI) (J : kJ), av0 = [kx_r 41 o1, kx_r 41 o2] ∧ S0 = (I, J, none) ∧ r0 = none ∧ S1 = (kx_uA I 41 o2 (fun k => if k < 2509 then I 41 o1 k else I 41 o2 k), J, none)
theorem cs_X11_copies (o1 o2 : Nat) (ho : o1 ≠ o2) (I : kI) (J : kJ) : sp_X11_copies [kx_r 41 o1, kx_r 41 o2] (I, J, none) none (kx_uA I 41 o2 (fun k => if k < 2509 then I 41 o1 k else I 41 o2 k), J, none) := ⟨o1, o2, ho, I, J, rfl, rfl, rfl, rfl⟩
/-! functions that may fail, and the loops of 21 as functions -/
def kfu : Nat := 100000
theorem kif_some {β : Type _} {c : Prop} {a : Option β} {b : β} (h : kif c a none = some b) : c ∧ a = some b := by
  by_cases hc : c
  · rw [kif_pos hc] at h; exact ⟨hc, h⟩
  · rw [kif_neg hc] at h; cases h
def kbd {α β : Type _} (x : Option α) (f : α → Option β) : Option β := match x with
  | none => none
  | some a => f a
theorem kbd_some {α β : Type _} {x : Option α} {f : α → Option β} {b : β} (h : kbd x f = some b) : ∃ a, x = some a ∧ f a = some b := by
  cases x with
  | none => cases h
  | some a => exact ⟨a, rfl, h⟩
theorem kbd_eq {α β : Type _} {x : Option α} {f : α → Option β} {a : α} (h : x = some a) : kbd x f = f a := by rw [h]; rfl
def F_X3_countOf (o : Nat) (a0 : Int32) (I : kI) (_J : kJ) : Int32 := ls (fun j => if I 31 o j = a0 then 1 else 0) 0 (I 3 o 4).toNatClampNeg 0
def pre_X3_countOf (o : Nat) (_a0 : Int32) (I : kI) (_J : kJ) : Prop := ∃ c, c ≤ 400 ∧ I 3 o 4 = nI c
theorem ct_X3_countOf (o : Nat) (a0 : Int32) (I : kI) (J : kJ) (hp : pre_X3_countOf o a0 I J) : sp_X3_countOf [kx_r 3 o, kx_i a0] (I, J, none) (some (kx_i (F_X3_countOf o a0 I J))) (I, J, none) := by
  obtain ⟨c, hc, hI⟩ := hp
  unfold F_X3_countOf
  rw [hI, nI_clamp (by omega)]
  exact cs_X3_countOf o a0 I J hc hI
def F_X6_hoursPlannedFor (o : Nat) (a0 : Int32) (I : kI) (_J : kJ) : Int32 := ls (fun j => if I 37 o j = a0 then 1 else 0) 0 24 0
theorem ct_X6_hoursPlannedFor (o : Nat) (a0 : Int32) (I : kI) (J : kJ) : sp_X6_hoursPlannedFor [kx_r 6 o, kx_i a0] (I, J, none) (some (kx_i (F_X6_hoursPlannedFor o a0 I J))) (I, J, none) := cs_X6_hoursPlannedFor o a0 I J
def F_X6_relieve (o : Nat) (a0 : Int32) (I : kI) (J : kJ) : kI × kJ := (kx_uA I 37 o (fun k => if k < 24 then (if I 37 o k = a0 then -1 else I 37 o k) else I 37 o k), J)
theorem ct_X6_relieve (o : Nat) (a0 : Int32) (I : kI) (J : kJ) : sp_X6_relieve [kx_r 6 o, kx_i a0] (I, J, none) none ((F_X6_relieve o a0 I J).1, (F_X6_relieve o a0 I J).2, none) := cs_X6_relieve o a0 I J
def F_X1_restAll (o : Nat) (I : kI) (J : kJ) : kI × kJ := (kx_uA I 22 o (fun k => if k < (I 1 o 5).toNatClampNeg then 0 else I 22 o k), J)
def pre_X1_restAll (o : Nat) (I : kI) (_J : kJ) : Prop := ∃ c, c ≤ 6 ∧ I 1 o 5 = nI c
theorem ct_X1_restAll (o : Nat) (I : kI) (J : kJ) (hp : pre_X1_restAll o I J) : sp_X1_restAll [kx_r 1 o] (I, J, none) none ((F_X1_restAll o I J).1, (F_X1_restAll o I J).2, none) := by
  obtain ⟨c, hc, hI⟩ := hp
  unfold F_X1_restAll
  rw [hI, nI_clamp (by omega)]
  exact cs_X1_restAll o I J hc hI
def F_J7_fill_d0a16 (o : Nat) (v : Int64) (I : kI) (J : kJ) : kI × kJ := (I, kx_uL J 34 o (fun k => if k < 40 then v else J 34 o k))
theorem ct_J7_fill_d0a16 (o : Nat) (v : Int64) (I : kI) (J : kJ) : sp_J7_fill_d0a16 [kx_r 34 o, kx_l v] (I, J, none) none ((F_J7_fill_d0a16 o v I J).1, (F_J7_fill_d0a16 o v I J).2, none) := cs_J7_fill_d0a16 o v I J
def F_X5_weatherAt (o : Nat) (a0 : Int32) (I : kI) (_J : kJ) : Int32 := if 0 < I 5 o 3 then wAt (I 35 o) (I 36 o) (I 5 o 2).toNatClampNeg 0 (a0 - a0 / I 5 o 3 * I 5 o 3) else 0
def pre_X5_weatherAt (o : Nat) (a0 : Int32) (I : kI) (_J : kJ) : Prop := (∃ c, c ≤ 20 ∧ I 5 o 2 = nI c) ∧ 0 ≤ a0.toInt
theorem ct_X5_weatherAt (o : Nat) (a0 : Int32) (I : kI) (J : kJ) (hp : pre_X5_weatherAt o a0 I J) : sp_X5_weatherAt [kx_r 5 o, kx_i a0] (I, J, none) (some (kx_i (F_X5_weatherAt o a0 I J))) (I, J, none) := by
  obtain ⟨⟨c, hc, hI⟩, h0⟩ := hp
  unfold F_X5_weatherAt
  rw [hI, nI_clamp (by omega)]
  exact cs_X5_weatherAt o a0 I J hc hI h0 _ rfl
def F_X10_isUnder (a0 a1 : Int32) (_I : kI) (_J : kJ) : Int32 := uLp a1 8 a0
theorem ct_X10_isUnder (a0 a1 : Int32) (I : kI) (J : kJ) : sp_X10_isUnder [kx_i a0, kx_i a1] (I, J, none) (some (kx_i (F_X10_isUnder a0 a1 I J))) (I, J, none) := cs_X10_isUnder a0 a1 I J
def F_X2_countFates (o : Nat) (a0 a1 : Int32) (I : kI) (_J : kJ) : Int32 := ls (fun j => if I 27 o j = a1 ∧ ¬ uLp a0 8 (I 25 o j) = 0 then 1 else 0) 0 (I 2 o 5).toNatClampNeg 0
def pre_X2_countFates (o : Nat) (_a0 _a1 : Int32) (I : kI) (_J : kJ) : Prop := ∃ c, c ≤ 200 ∧ I 2 o 5 = nI c
theorem ct_X2_countFates (o : Nat) (a0 a1 : Int32) (I : kI) (J : kJ) (hp : pre_X2_countFates o a0 a1 I J) : sp_X2_countFates [kx_r 2 o, kx_i a0, kx_i a1] (I, J, none) (some (kx_i (F_X2_countFates o a0 a1 I J))) (I, J, none) := by
  obtain ⟨c, hc, hI⟩ := hp
  unfold F_X2_countFates
  rw [hI, nI_clamp (by omega)]
  exact cs_X2_countFates o a0 a1 I J hc hI
def F_X1_spendHour (o : Nat) (w a k : Int32) (I : kI) (J : kJ) : kI × kJ := (shX I o w a k (I 1 o 5).toNatClampNeg, J)
def pre_X1_spendHour (o : Nat) (_w _a _k : Int32) (I : kI) (_J : kJ) : Prop := ∃ c, c ≤ 6 ∧ I 1 o 5 = nI c
theorem ct_X1_spendHour (o : Nat) (w a k : Int32) (I : kI) (J : kJ) (hp : pre_X1_spendHour o w a k I J) : sp_X1_spendHour [kx_r 1 o, kx_i w, kx_i a, kx_i k] (I, J, none) none ((F_X1_spendHour o w a k I J).1, (F_X1_spendHour o w a k I J).2, none) := by
  obtain ⟨c, hc, hI⟩ := hp
  unfold F_X1_spendHour
  rw [hI, nI_clamp (by omega)]
  exact cs_X1_spendHour o w a k I J hc hI
def F_X11_copies (o1 o2 : Nat) (I : kI) (J : kJ) : kI × kJ := (kx_uA I 41 o2 (fun k => if k < 2509 then I 41 o1 k else I 41 o2 k), J)
def pre_X11_copies (o1 o2 : Nat) (_I : kI) (_J : kJ) : Prop := o1 ≠ o2
theorem ct_X11_copies (o1 o2 : Nat) (I : kI) (J : kJ) (hp : pre_X11_copies o1 o2 I J) : sp_X11_copies [kx_r 41 o1, kx_r 41 o2] (I, J, none) none ((F_X11_copies o1 o2 I J).1, (F_X11_copies o1 o2 I J).2, none) := cs_X11_copies o1 o2 hp I J
theorem F_isWithin_ge {a b c : Int32} {I : kI} {J : kJ} (h : ¬ (F_X10_isWithin a b c I J) = 0) : ¬ a < b ∧ ¬ c < a := by
  unfold F_X10_isWithin at h
  by_cases h1 : a < b
  · rw [kif_pos h1] at h; exact absurd rfl h
  · rw [kif_neg h1] at h
    by_cases h2 : c < a
    · rw [kif_pos h2] at h; exact absurd rfl h
    · exact ⟨h1, h2⟩
theorem cs_X10_shelfAt0 (a : Int32) (I : kI) (J : kJ) (h : (F_X10_isWithin a 0 7 I J) = 0) : sp_X10_shelfAt [kx_r 10 0, kx_i a] (I, J, none) (some kx_n) (I, J, none) := by
  refine kx_start [] 20 ?_
  refine ⟨_, _, cs_X10_isWithin a 0 7 I J, rfl, ?_⟩
  refine ⟨fun _ => ?_, fun h2 => absurd h h2⟩
  exact ⟨rfl, rfl⟩
theorem cs_X10_shelfAt1 (a : Int32) (I : kI) (J : kJ) (h : ¬ (F_X10_isWithin a 0 7 I J) = 0) : sp_X10_shelfAt [kx_r 10 0, kx_i a] (I, J, none) (some (kx_r 4 a.toNatClampNeg)) (I, J, none) := by
  have h2 := F_isWithin_ge h
  refine kx_start [] 20 ?_
  refine ⟨_, _, cs_X10_isWithin a 0 7 I J, rfl, ?_⟩
  refine ⟨fun h3 => absurd h3 h, fun _ => ?_⟩
  obtain ⟨k, hk, rfl⟩ := iz_ofN (x := a) (n := 7) (Int32.not_lt.mp h2.1) (Int32.not_lt.mp h2.2) (by omega)
  refine ⟨vp_in_nI (by omega) (by omega), ?_⟩
  exact ⟨rfl, rfl⟩
def klt {α β : Type _} (x : α) (f : α → Option β) : Option β := f x
theorem klt_some {α β : Type _} {x : α} {f : α → Option β} {r : Option β} (h : klt x f = r) : ∃ p, x = p ∧ f p = r := ⟨x, rfl, h⟩
theorem cs_X10_shelfAt2 (a : Int32) (I : kI) (J : kJ) (h : ¬ (F_X10_isWithin a 0 7 I J) = 0) {p : Nat} (hp : a.toNatClampNeg = p) : sp_X10_shelfAt [kx_r 10 0, kx_i a] (I, J, none) (some (kx_r 4 p)) (I, J, none) := by
  subst hp
  exact cs_X10_shelfAt1 a I J h

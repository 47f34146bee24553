/-! the class's loops, one by one -/
set_option maxRecDepth 20000 in
theorem lp_X3_countOf (o : Nat) (a0 : Int32) (I : kI) (J : kJ) {c : Nat} (hc : c ≤ 400) (hI : I 3 o 4 = nI c) (r : Int32) : ∀ n i acc, i + n = c → ls (fun j => if I 31 o j = a0 then 1 else 0) i n acc = r →
    kx_Run tb_X3_countOf (kx_cnt (I, J, none), fun r' S'' => r' = some (kx_i r) ∧ S'' = (I, J, none)) 4 [some (kx_r 3 o), some (kx_i a0), some (kx_i acc), some (kx_i (nI i))] [] (I, J, none) := by
  intro n
  induction n with
  | zero =>
    intro i acc hi hr
    refine kx_start [4] 40 ?_
    refine ⟨fun _ => ⟨by rw [← hr]; rfl, rfl⟩, fun h => absurd (show I 3 o 4 ≤ nI i by rw [hI]; exact nI_le (by omega) (by omega)) h⟩
  | succ n ih =>
    intro i acc hi hr
    have hcl : (nI i).toNatClampNeg = i := nI_clamp (by omega)
    refine kx_start [4] 40 ?_
    refine ⟨fun h => absurd h (show ¬ I 3 o 4 ≤ nI i by rw [hI]; exact nI_ge (by omega) (by omega)), fun _ => ?_⟩
    refine ⟨vp_in_nI (by omega) (by omega), ?_⟩
    rw [ls] at hr
    refine ⟨fun h => ?_, fun h => ?_⟩
    · replace h : ¬ I 31 o (nI i).toNatClampNeg = a0 := h
      rw [hcl] at h
      simp only [h, ↓reduceIte] at hr
      have := ih (i + 1) _ (by omega) hr
      rw [← nI_1] at this
      exact this
    · replace h : I 31 o (nI i).toNatClampNeg = a0 := h
      rw [hcl] at h
      simp only [h, ↓reduceIte] at hr
      have := ih (i + 1) _ (by omega) hr
      rw [← nI_1] at this
      exact this
theorem cs_X3_countOf (o : Nat) (a0 : Int32) (I : kI) (J : kJ) {c : Nat} (hc : c ≤ 400) (hI : I 3 o 4 = nI c) : sp_X3_countOf [kx_r 3 o, kx_i a0] (I, J, none) (some (kx_i (ls (fun j => if I 31 o j = a0 then 1 else 0) 0 c 0))) (I, J, none) := by
  refine kx_start [4] 40 ?_
  exact lp_X3_countOf o a0 I J hc hI _ c 0 0 (by omega) rfl
def sp_X6_hoursPlannedFor : kx_Sp := fun av0 S0 r0 S1 => ∃ (o : Nat) (a0 : Int32) (I : kI) (J : kJ), av0 = [kx_r 6 o, kx_i a0] ∧ S0 = (I, J, none) ∧ r0 = (some (kx_i (ls (fun j => if I 37 o j = a0 then 1 else 0) 0 24 0))) ∧ S1 = (I, J, none)
theorem cs_X6_hoursPlannedFor (o : Nat) (a0 : Int32) (I : kI) (J : kJ) : sp_X6_hoursPlannedFor [kx_r 6 o, kx_i a0] (I, J, none) (some (kx_i (ls (fun j => if I 37 o j = a0 then 1 else 0) 0 24 0))) (I, J, none) := ⟨o, a0, I, J, rfl, rfl, rfl, rfl⟩
def sp_X6_relieve : kx_Sp := fun av0 S0 r0 S1 => ∃ (o : Nat) (a0 : Int32) (I : kI) (J : kJ), av0 = [kx_r 6 o, kx_i a0] ∧ S0 = (I, J, none) ∧ r0 = none ∧ S1 = (kx_uA I 37 o (fun k => if k < 24 then (if I 37 o k = a0 then -1 else I 37 o k) else I 37 o k), J, none)
theorem cs_X6_relieve (o : Nat) (a0 : Int32) (I : kI) (J : kJ) : sp_X6_relieve [kx_r 6 o, kx_i a0] (I, J, none) none (kx_uA I 37 o (fun k => if k < 24 then (if I 37 o k = a0 then -1 else I 37 o k) else I 37 o k), J, none) := ⟨o, a0, I, J, rfl, rfl, rfl, rfl⟩
set_option maxRecDepth 20000 in
theorem lp_X1_restAll (o : Nat) (I : kI) (J : kJ) {c : Nat} (hc : c ≤ 6) (hI : I 1 o 5 = nI c) : ∀ n i, i + n = c →
    kx_Run tb_X1_restAll (kx_cnt (I, J, none), fun r' S'' => r' = none ∧ S'' = (kx_uA I 22 o (fun k => if k < c then 0 else I 22 o k), J, none)) 2 [some (kx_r 1 o), some (kx_i (nI i))] [] (kx_uA I 22 o (fun k => if k < i then 0 else I 22 o k), J, none) := by
  intro n
  induction n with
  | zero =>
    intro i hi
    obtain rfl : i = c := by omega
    refine kx_start [2] 40 ?_
    refine ⟨fun _ => ⟨rfl, rfl⟩, fun h => absurd (show I 1 o 5 ≤ nI i by rw [hI]; exact nI_le (by omega) (by omega)) h⟩
  | succ n ih =>
    intro i hi
    have hcl : (nI i).toNatClampNeg = i := nI_clamp (by omega)
    have hu := kz_upd (fun k => 0) (I 22 o) i
    refine kx_start [2] 40 ?_
    refine ⟨fun h => absurd h (show ¬ I 1 o 5 ≤ nI i by rw [hI]; exact nI_ge (by omega) (by omega)), fun _ => ?_⟩
    refine ⟨vp_in_nI (by omega) (by omega), ?_⟩
    have hn := ih (i + 1) (by omega)
    rw [← nI_1, ← hu, ← kw_uA] at hn
    rw [hcl]
    exact hn
theorem cs_X1_restAll (o : Nat) (I : kI) (J : kJ) {c : Nat} (hc : c ≤ 6) (hI : I 1 o 5 = nI c) : sp_X1_restAll [kx_r 1 o] (I, J, none) none (kx_uA I 22 o (fun k => if k < c then 0 else I 22 o k), J, none) := by
  have h := lp_X1_restAll o I J hc hI c 0 (by omega)
  rw [kz_0, kx_uA_id] at h
  refine kx_start [2] 40 ?_
  exact h
def sp_J7_fill_d0a16 : kx_Sp := fun av0 S0 r0 S1 => ∃ (o : Nat) (v : Int64) (I : kI) (J : kJ), av0 = [kx_r 34 o, kx_l v] ∧ S0 = (I, J, none) ∧ r0 = none ∧ S1 = (I, kx_uL J 34 o (fun k => if k < 40 then v else J 34 o k), none)
theorem cs_J7_fill_d0a16 (o : Nat) (v : Int64) (I : kI) (J : kJ) : sp_J7_fill_d0a16 [kx_r 34 o, kx_l v] (I, J, none) none (I, kx_uL J 34 o (fun k => if k < 40 then v else J 34 o k), none) := ⟨o, v, I, J, rfl, rfl, rfl, rfl⟩
set_option maxRecDepth 20000 in
theorem lp_J7_fill_53178 (o : Nat) (v : Int32) (I : kI) (J : kJ) (md : Option Nat) : ∀ n i, i + n = 24 →
    kx_Run tb_J7_fill_53178 (kx_cnt (I, J, md), fun r' S'' => r' = none ∧ S'' = (kx_uA I 37 o (fun k => if k < 24 then v else I 37 o k), J, md)) 5 [some (kx_r 37 o), some (kx_i v), some (kx_i (nI i)), some (kx_i (nI 24))] [] (kx_uA I 37 o (fun k => if k < i then v else I 37 o k), J, md) := by
  intro n
  induction n with
  | zero =>
    intro i hi
    obtain rfl : i = 24 := by omega
    refine kx_start [5] 40 ?_
    refine ⟨fun _ => ⟨rfl, rfl⟩, fun h => absurd (show nI 24 ≤ nI 24 from nI_le (by omega) (by omega)) h⟩
  | succ n ih =>
    intro i hi
    have hcl : (nI i).toNatClampNeg = i := nI_clamp (by omega)
    have hu := kz_upd (fun _ => v) (I 37 o) i
    refine kx_start [5] 40 ?_
    refine ⟨fun h => absurd h (show ¬ nI 24 ≤ nI i from nI_ge (by omega) (by omega)), fun _ => ?_⟩
    refine ⟨vp_in_nI (by omega) (by omega), ?_⟩
    have hn := ih (i + 1) (by omega)
    rw [← nI_1, ← hu, ← kw_uA] at hn
    rw [hcl]
    exact hn
theorem cs_J7_fill_53178 (o : Nat) (v : Int32) (I : kI) (J : kJ) (md : Option Nat) : sp_J7_fill_53178 [kx_r 37 o, kx_i v] (I, J, md) none (kx_uA I 37 o (fun k => if k < 24 then v else I 37 o k), J, md) := by
  have h := lp_J7_fill_53178 o v I J md 24 0 (by omega)
  rw [kz_0, kx_uA_id] at h
  refine kx_start [5] 40 ?_
  exact h
/-- a sky's weather: the run in which an hour lies, from run i on -/
def wAt (w ln : Nat → Int32) : Nat → Nat → Int32 → Int32
  | 0, _, _ => 0
  | n + 1, i, left => if left < ln i then w i else wAt w ln n (i + 1) (left - ln i)
set_option maxRecDepth 20000 in
theorem lp_X5_weatherAt (o : Nat) (a0 : Int32) (I : kI) (J : kJ) {c : Nat} (hc : c ≤ 20) (hI : I 5 o 2 = nI c) (r : Int32) : ∀ n i left, i + n = c → wAt (I 35 o) (I 36 o) n i left = r →
    kx_Run tb_X5_weatherAt (kx_cnt (I, J, none), fun r' S'' => r' = some (kx_i r) ∧ S'' = (I, J, none)) 20 [some (kx_r 5 o), some (kx_i a0), some (kx_i left), some (kx_i (nI i))] [] (I, J, none) := by
  intro n
  induction n with
  | zero =>
    intro i left hi hr
    refine kx_start [20] 40 ?_
    refine ⟨fun _ => ⟨by rw [← hr]; rfl, rfl⟩, fun h => absurd (show I 5 o 2 ≤ nI i by rw [hI]; exact nI_le (by omega) (by omega)) h⟩
  | succ n ih =>
    intro i left hi hr
    have hcl : (nI i).toNatClampNeg = i := nI_clamp (by omega)
    refine kx_start [20] 40 ?_
    refine ⟨fun h => absurd h (show ¬ I 5 o 2 ≤ nI i by rw [hI]; exact nI_ge (by omega) (by omega)), fun _ => ?_⟩
    refine ⟨vp_in_nI (by omega) (by omega), ?_⟩
    rw [wAt] at hr
    refine ⟨fun h => ?_, fun h => ?_⟩
    · replace h : I 36 o (nI i).toNatClampNeg ≤ left := h
      rw [hcl] at h
      refine ⟨vp_in_nI (by omega) (by omega), ?_⟩
      rw [if_neg (Int32.not_lt.mpr h)] at hr
      have := ih (i + 1) _ (by omega) hr
      rw [← nI_1] at this
      rw [hcl]
      exact this
    · replace h : ¬ I 36 o (nI i).toNatClampNeg ≤ left := h
      rw [hcl] at h
      rw [if_pos (Int32.not_le.mp h)] at hr
      refine ⟨vp_in_nI (by omega) (by omega), ?_⟩
      rw [hcl]
      exact ⟨by rw [← hr], rfl⟩
/-- floorMod of numbers that are not below 0, by one above 0 -/
theorem iz_rem {x y : Int32} (hx : 0 ≤ x.toInt) (hy : 0 < y.toInt) : (x - x / y * y).toInt = x.toInt % y.toInt ∧ 0 ≤ (x - x / y * y).toInt ∧ (x - x / y * y).toInt < y.toInt := by
  have h1 := iz_hi x
  have h2 := iz_hi y
  have e1 : (nI x.toInt.toNat) = x := (iz_of hx).symm
  have e2 : (nI y.toInt.toNat) = y := (iz_of (by omega)).symm
  have h3 := pk_rem (a := x.toInt.toNat) (d := y.toInt.toNat) (by omega) (by omega) (by omega)
  rw [e1, e2] at h3
  have h4 : x.toInt.toNat % y.toInt.toNat < y.toInt.toNat := Nat.mod_lt _ (by omega)
  rw [h3, iz_nI (by omega)]
  refine ⟨?_, by omega, by omega⟩
  rw [Int.natCast_emod]
  have e3 : ((x.toInt.toNat : Nat) : Int) = x.toInt := by omega
  have e4 : ((y.toInt.toNat : Nat) : Int) = y.toInt := by omega
  rw [e3, e4]
theorem kz_xor {x y : Int32} (hx : 0 ≤ x.toInt) (hy : 0 ≤ y.toInt) : 0 ≤ (x ^^^ y) := by
  have e1 := iz_of hx
  have e2 := iz_of hy
  have h1 := iz_hi x
  have h2 := iz_hi y
  rw [e1, e2]
  have e : nI x.toInt.toNat ^^^ nI y.toInt.toNat = nI (x.toInt.toNat ^^^ y.toInt.toNat) := by
    apply Int32.toBitVec_inj.1
    show BitVec.ofNat 32 _ ^^^ BitVec.ofNat 32 _ = BitVec.ofNat 32 _
    apply BitVec.eq_of_getLsbD_eq
    intro i hi
    simp [BitVec.getLsbD_ofNat, hi]
  rw [e]
  exact nI_pos' (Nat.xor_lt_two_pow (n := 31) (by omega) (by omega))
theorem F_floorMod {x y : Int32} (I : kI) (J : kJ) (hx : 0 ≤ x.toInt) (hy : 0 ≤ y.toInt) : F_J9_floorMod_7cf53 x y I J = x - x / y * y := by
  unfold F_J9_floorMod_7cf53
  rw [kif_pos (kz_xor hx hy)]
theorem cs_X5_weatherAt (o : Nat) (a0 : Int32) (I : kI) (J : kJ) {c : Nat} (hc : c ≤ 20) (hI : I 5 o 2 = nI c) (h0 : 0 ≤ a0.toInt) (r : Int32) (hr : (if 0 < I 5 o 3 then wAt (I 35 o) (I 36 o) c 0 (a0 - a0 / I 5 o 3 * I 5 o 3) else 0) = r) : sp_X5_weatherAt [kx_r 5 o, kx_i a0] (I, J, none) (some (kx_i r)) (I, J, none) := by
  refine kx_start [20] 40 ?_
  refine ⟨fun h => ?_, fun h => ?_⟩
  · replace h : 0 < I 5 o 3 := h
    have h2 : (0 : Int32).toInt < (I 5 o 3).toInt := Int32.lt_iff_toInt_lt.mp h
    have h3 : (0 : Int32).toInt = 0 := rfl
    have hne : ¬ I 5 o 3 = 0 := fun q => by rw [q] at h2; omega
    refine ⟨_, _, cs_J9_floorMod_7cf53 a0 (I 5 o 3) I J ⟨hne, trivial⟩, rfl, ?_⟩
    rw [if_pos h, ← F_floorMod I J h0 (by omega)] at hr
    exact lp_X5_weatherAt o a0 I J hc hI r c 0 _ (by omega) hr
  · replace h : ¬ 0 < I 5 o 3 := h
    rw [if_neg h] at hr
    exact ⟨by rw [← hr], rfl⟩
/-- kinds: whether one is another, or stands under it -/
def upK (a : Int32) : Int32 := if a = 1 then 0 else if a = 2 then 0 else if a = 3 then 1 else if a = 4 then 1 else if a = 5 then 2 else if a = 6 then 2 else if a = 7 then 6 else -1
theorem F_kindAbove (a : Int32) (I : kI) (J : kJ) : F_X10_kindAbove a I J = upK a := by
  unfold F_X10_kindAbove upK
  simp only [kif_eq]
def uLp (t : Int32) : Nat → Int32 → Int32
  | 0, _ => 0
  | n + 1, a => if a = -1 then 0 else if a = t then 1 else uLp t n (upK a)
set_option maxRecDepth 20000 in
theorem lp_X10_isUnder (a0 a1 : Int32) (I : kI) (J : kJ) (r : Int32) : ∀ n i a, i + n = 8 → uLp a1 n a = r →
    kx_Run tb_X10_isUnder (kx_cnt (I, J, none), fun r' S'' => r' = some (kx_i r) ∧ S'' = (I, J, none)) 4 [some (kx_i a0), some (kx_i a1), some (kx_i a), some (kx_i (nI i))] [] (I, J, none) := by
  intro n
  induction n with
  | zero =>
    intro i a hi hr
    obtain rfl : i = 8 := by omega
    refine kx_start [4] 40 ?_
    refine ⟨fun _ => ⟨Or.inl rfl, by rw [← hr]; rfl, rfl⟩, fun h => absurd (show nI 7 < nI 8 from nI_lt (by omega) (by omega)) h⟩
  | succ n ih =>
    intro i a hi hr
    refine kx_start [4] 40 ?_
    refine ⟨fun h => absurd h (show ¬ nI 7 < nI i from nI_nlt (by omega) (by omega)), fun _ => ?_⟩
    rw [uLp] at hr
    refine ⟨fun h => ?_, fun h => ?_⟩
    · replace h : a = -1 := h
      rw [if_pos h] at hr
      exact ⟨Or.inl rfl, by rw [← hr], rfl⟩
    · replace h : ¬ a = -1 := h
      rw [if_neg h] at hr
      refine ⟨fun h2 => ?_, fun h2 => ?_⟩
      · replace h2 : ¬ a = a1 := h2
        rw [if_neg h2] at hr
        refine ⟨_, _, cs_X10_kindAbove a I J, rfl, ?_⟩
        have := ih (i + 1) _ (by omega) hr
        rw [← nI_1, ← F_kindAbove a I J] at this
        exact this
      · replace h2 : a = a1 := h2
        rw [if_pos h2] at hr
        exact ⟨Or.inr rfl, by rw [← hr], rfl⟩
theorem cs_X10_isUnder (a0 a1 : Int32) (I : kI) (J : kJ) : sp_X10_isUnder [kx_i a0, kx_i a1] (I, J, none) (some (kx_i (uLp a1 8 a0))) (I, J, none) := by
  refine kx_start [4] 40 ?_
  exact lp_X10_isUnder a0 a1 I J _ 8 0 a0 (by omega) rfl
/-- the kinds of ships, by number -/
def uK (k : Nat) (t : Int32) : Int32 := if nI k = t then 1 else if k = 7 ∧ t = 6 then 1 else if (k = 3 ∨ k = 4) ∧ t = 1 then 1 else if (5 ≤ k) ∧ t = 2 then 1 else if t = 0 then 1 else 0
theorem uLp_uK (t : Int32) {k : Nat} (h3 : 3 ≤ k) (h7 : k ≤ 7) : uLp t 8 (nI k) = uK k t := by
  have e : k = 3 ∨ k = 4 ∨ k = 5 ∨ k = 6 ∨ k = 7 := by omega
  have hk : ∀ x : Int32, uLp x 8 3 = uK 3 x ∧ uLp x 8 4 = uK 4 x ∧ uLp x 8 5 = uK 5 x ∧ uLp x 8 6 = uK 6 x ∧ uLp x 8 7 = uK 7 x := by
    intro x
    simp only [uLp, uK, upK, show nI 3 = 3 from rfl, show nI 4 = 4 from rfl, show nI 5 = 5 from rfl, show nI 6 = 6 from rfl, show nI 7 = 7 from rfl]
    refine ⟨?_, ?_, ?_, ?_, ?_⟩ <;> simp <;> grind
  rcases e with rfl | rfl | rfl | rfl | rfl
  · exact (hk t).1
  · exact (hk t).2.1
  · exact (hk t).2.2.1
  · exact (hk t).2.2.2.1
  · exact (hk t).2.2.2.2
set_option maxRecDepth 20000 in
theorem lp_X2_countFates (o : Nat) (a0 a1 : Int32) (I : kI) (J : kJ) {c : Nat} (hc : c ≤ 200) (hI : I 2 o 5 = nI c) (r : Int32) : ∀ n i acc, i + n = c → ls (fun j => if I 27 o j = a1 ∧ ¬ uLp a0 8 (I 25 o j) = 0 then 1 else 0) i n acc = r →
    kx_Run tb_X2_countFates (kx_cnt (I, J, none), fun r' S'' => r' = some (kx_i r) ∧ S'' = (I, J, none)) 5 [some (kx_r 2 o), some (kx_i a0), some (kx_i a1), some (kx_i acc), some (kx_i (nI i))] [] (I, J, none) := by
  intro n
  induction n with
  | zero =>
    intro i acc hi hr
    refine kx_start [5] 40 ?_
    refine ⟨fun _ => ⟨by rw [← hr]; rfl, rfl⟩, fun h => absurd (show I 2 o 5 ≤ nI i by rw [hI]; exact nI_le (by omega) (by omega)) h⟩
  | succ n ih =>
    intro i acc hi hr
    have hcl : (nI i).toNatClampNeg = i := nI_clamp (by omega)
    refine kx_start [5] 40 ?_
    refine ⟨fun h => absurd h (show ¬ I 2 o 5 ≤ nI i by rw [hI]; exact nI_ge (by omega) (by omega)), fun _ => ?_⟩
    refine ⟨vp_in_nI (by omega) (by omega), ?_⟩
    rw [ls] at hr
    refine ⟨fun h => ?_, fun h => ?_⟩
    · replace h : ¬ I 27 o (nI i).toNatClampNeg = a1 := h
      rw [hcl] at h
      simp only [h, false_and, ↓reduceIte, Int32.add_zero] at hr
      have := ih (i + 1) _ (by omega) hr
      rw [← nI_1] at this
      exact this
    · replace h : I 27 o (nI i).toNatClampNeg = a1 := h
      rw [hcl] at h
      refine ⟨vp_in_nI (by omega) (by omega), ?_⟩
      refine ⟨_, _, cs_X10_isUnder _ _ I J, rfl, ?_⟩
      refine ⟨fun h2 => ?_, fun h2 => ?_⟩
      · replace h2 : uLp a0 8 (I 25 o (nI i).toNatClampNeg) = 0 := h2
        rw [hcl] at h2
        simp only [h2, not_true_eq_false, and_false, ↓reduceIte, Int32.add_zero] at hr
        have := ih (i + 1) _ (by omega) hr
        rw [← nI_1] at this
        exact this
      · replace h2 : ¬ uLp a0 8 (I 25 o (nI i).toNatClampNeg) = 0 := h2
        rw [hcl] at h2
        simp only [h, h2, not_false_eq_true, and_self, ↓reduceIte] at hr
        have := ih (i + 1) _ (by omega) hr
        rw [← nI_1] at this
        exact this
theorem cs_X2_countFates (o : Nat) (a0 a1 : Int32) (I : kI) (J : kJ) {c : Nat} (hc : c ≤ 200) (hI : I 2 o 5 = nI c) : sp_X2_countFates [kx_r 2 o, kx_i a0, kx_i a1] (I, J, none) (some (kx_i (ls (fun j => if I 27 o j = a1 ∧ ¬ uLp a0 8 (I 25 o j) = 0 then 1 else 0) 0 c 0))) (I, J, none) := by
  refine kx_start [5] 40 ?_
  exact lp_X2_countFates o a0 a1 I J hc hI _ c 0 0 (by omega) rfl
/-- an hour goes by for a crew -/
def shT (I : kI) (o : Nat) (w a k : Int32) : Nat → Int32 := fun i => if nI i = w ∧ ¬ a = 0 then I 22 o i + k else (if 0 < I 22 o i - 2 then I 22 o i - 2 else 0)
def shN (I : kI) (o : Nat) (w a : Int32) : Nat → Int32 := fun i => if nI i = w ∧ ¬ a = 0 then I 23 o i + 1 else I 23 o i
def shS (I : kI) (o : Nat) (w a : Int32) : Nat → Int32 := fun i => if nI i = w ∧ ¬ a = 0 then I 24 o i else I 24 o i + (if nI i = w then 1 else 0)
def shX (I : kI) (o : Nat) (w a k : Int32) (i : Nat) : kI := kx_uA (kx_uA (kx_uA I 22 o (fun j => if j < i then shT I o w a k j else I 22 o j)) 23 o (fun j => if j < i then shN I o w a j else I 23 o j)) 24 o (fun j => if j < i then shS I o w a j else I 24 o j)
theorem shX_app (I : kI) (o : Nat) (w a k : Int32) (i t2 o2 j : Nat) : shX I o w a k i t2 o2 j = if o2 = o ∧ j < i ∧ t2 = 22 then shT I o w a k j else if o2 = o ∧ j < i ∧ t2 = 23 then shN I o w a j else if o2 = o ∧ j < i ∧ t2 = 24 then shS I o w a j else I t2 o2 j := by
  simp only [shX, kx_uA_app]
  grind
theorem shX_step (I : kI) (o : Nat) (w a k : Int32) (i : Nat) : (nI i = w ∧ ¬ a = 0 → kw (kw (shX I o w a k i) 22 o i (I 22 o i + k)) 23 o i (I 23 o i + 1) = shX I o w a k (i + 1)) ∧ (¬ (nI i = w ∧ ¬ a = 0) → kw (kw (shX I o w a k i) 22 o i (if 0 < I 22 o i - 2 then I 22 o i - 2 else 0)) 24 o i (I 24 o i + (if nI i = w then 1 else 0)) = shX I o w a k (i + 1)) := by
  constructor
  · intro h
    refine kI_ext fun t2 o2 j => ?_
    simp only [kw_app, shX_app]
    by_cases ho : o2 = o
    · subst ho
      by_cases hj : j = i
      · subst hj
        have e1 : shT I o2 w a k j = I 22 o2 j + k := by unfold shT; rw [if_pos h]
        have e2 : shN I o2 w a j = I 23 o2 j + 1 := by unfold shN; rw [if_pos h]
        have e3 : shS I o2 w a j = I 24 o2 j := by unfold shS; rw [if_pos h]
        rw [e1, e2, e3]
        by_cases h2 : t2 = 22
        · subst h2; simp
        · by_cases h3 : t2 = 23
          · subst h3; simp
          · by_cases h4 : t2 = 24
            · subst h4; simp
            · simp [h2, h3, h4]
      · have e : (j < i + 1) = (j < i) := by apply propext; omega
        simp only [hj, and_false, if_false, e]
    · simp [ho]
  · intro h
    refine kI_ext fun t2 o2 j => ?_
    simp only [kw_app, shX_app]
    by_cases ho : o2 = o
    · subst ho
      by_cases hj : j = i
      · subst hj
        have e1 : shT I o2 w a k j = (if 0 < I 22 o2 j - 2 then I 22 o2 j - 2 else 0) := by unfold shT; rw [if_neg h]
        have e2 : shN I o2 w a j = I 23 o2 j := by unfold shN; rw [if_neg h]
        have e3 : shS I o2 w a j = I 24 o2 j + (if nI j = w then 1 else 0) := by unfold shS; rw [if_neg h]
        rw [e1, e2, e3]
        by_cases h2 : t2 = 22
        · subst h2; simp
        · by_cases h3 : t2 = 23
          · subst h3; simp
          · by_cases h4 : t2 = 24
            · subst h4; simp
            · simp [h2, h3, h4]
      · have e : (j < i + 1) = (j < i) := by apply propext; omega
        simp only [hj, and_false, if_false, e]
    · simp [ho]
set_option maxRecDepth 20000 in
theorem lp_X1_spendHour (o : Nat) (w a k : Int32) (I : kI) (J : kJ) {c : Nat} (hc : c ≤ 6) (hI : I 1 o 5 = nI c) : ∀ n i, i + n = c →
    kx_Run tb_X1_spendHour (kx_cnt (I, J, none), fun r' S'' => r' = none ∧ S'' = (shX I o w a k c, J, none)) 3 [some (kx_r 1 o), some (kx_i w), some (kx_i a), some (kx_i k), some (kx_i (nI i))] [] (shX I o w a k i, J, none) := by
  intro n
  induction n with
  | zero =>
    intro i hi
    obtain rfl : i = c := by omega
    refine kx_start [3] 60 ?_
    refine ⟨fun _ => ⟨rfl, rfl⟩, fun h => absurd (show shX I o w a k i 1 o 5 ≤ nI i by rw [shX_app]; simp; rw [hI]; exact nI_le (by omega) (by omega)) h⟩
  | succ n ih =>
    intro i hi
    have hcl : (nI i).toNatClampNeg = i := nI_clamp (by omega)
    have hn := ih (i + 1) (by omega)
    rw [← nI_1] at hn
    have h22 : shX I o w a k i 22 o i = I 22 o i := by rw [shX_app]; simp
    have h23 : shX I o w a k i 23 o i = I 23 o i := by rw [shX_app]; simp
    have h24 : shX I o w a k i 24 o i = I 24 o i := by rw [shX_app]; simp
    refine kx_start [3, 47] 60 ?_
    refine ⟨fun h => absurd h (show ¬ shX I o w a k i 1 o 5 ≤ nI i by rw [shX_app]; simp only [show ¬ (1 = 22) by decide, show ¬ (1 = 23) by decide, show ¬ (1 = 24) by decide, and_false, ↓reduceIte]; rw [hI]; exact nI_ge (by omega) (by omega)), fun _ => ?_⟩
    have key := shX_step I o w a k i
    have tl : ¬ (nI i = w ∧ ¬ a = 0) → kx_Run tb_X1_spendHour (kx_cnt (I, J, none), fun r' S'' => r' = none ∧ S'' = (shX I o w a k c, J, none)) 47 [some (kx_r 1 o), some (kx_i w), some (kx_i a), some (kx_i k), some (kx_i (nI i))] [] (shX I o w a k i, J, none) := by
      intro hq
      rw [← key.2 hq] at hn
      refine kx_start [3] 60 ?_
      refine ⟨vp_in_nI (by omega) (by omega), ?_⟩
      refine ⟨vp_in_nI (by omega) (by omega), ?_⟩
      refine ⟨vp_in_nI (by omega) (by omega), ?_⟩
      refine ⟨fun h => ?_, fun h => ?_⟩
      · replace h : ¬ nI i = w := h
        rw [if_neg h] at hn
        refine ⟨vp_in_nI (by omega) (by omega), ?_⟩
        show kx_Run _ _ 3 _ [] (kw (kw (shX I o w a k i) 22 o (nI i).toNatClampNeg (if 0 < shX I o w a k i 22 o (nI i).toNatClampNeg - 2 then shX I o w a k i 22 o (nI i).toNatClampNeg - 2 else 0)) 24 o (nI i).toNatClampNeg (kw (shX I o w a k i) 22 o (nI i).toNatClampNeg (if 0 < shX I o w a k i 22 o (nI i).toNatClampNeg - 2 then shX I o w a k i 22 o (nI i).toNatClampNeg - 2 else 0) 24 o (nI i).toNatClampNeg + 0), J, none)
        rw [hcl, h22, kw_app]
        simp only [show ¬ (24 = 22) by decide, false_and, ↓reduceIte]
        rw [h24]
        exact hn
      · replace h : nI i = w := h
        rw [if_pos h] at hn
        refine ⟨vp_in_nI (by omega) (by omega), ?_⟩
        show kx_Run _ _ 3 _ [] (kw (kw (shX I o w a k i) 22 o (nI i).toNatClampNeg (if 0 < shX I o w a k i 22 o (nI i).toNatClampNeg - 2 then shX I o w a k i 22 o (nI i).toNatClampNeg - 2 else 0)) 24 o (nI i).toNatClampNeg (kw (shX I o w a k i) 22 o (nI i).toNatClampNeg (if 0 < shX I o w a k i 22 o (nI i).toNatClampNeg - 2 then shX I o w a k i 22 o (nI i).toNatClampNeg - 2 else 0) 24 o (nI i).toNatClampNeg + 1), J, none)
        rw [hcl, h22, kw_app]
        simp only [show ¬ (24 = 22) by decide, false_and, ↓reduceIte]
        rw [h24]
        exact hn
    refine ⟨fun h => ?_, fun h => ?_⟩
    · exact (tl (fun q => h q.1))
    · refine ⟨fun h2 => ?_, fun h2 => ?_⟩
      · exact (tl (fun q => q.2 h2))
      · replace h : nI i = w := h
        replace h2 : ¬ a = 0 := h2
        rw [← key.1 ⟨h, h2⟩] at hn
        refine ⟨vp_in_nI (by omega) (by omega), ?_⟩
        refine ⟨vp_in_nI (by omega) (by omega), ?_⟩
        refine ⟨vp_in_nI (by omega) (by omega), ?_⟩
        refine ⟨vp_in_nI (by omega) (by omega), ?_⟩
        show kx_Run _ _ 3 _ [] (kw (kw (shX I o w a k i) 22 o (nI i).toNatClampNeg (shX I o w a k i 22 o (nI i).toNatClampNeg + k)) 23 o (nI i).toNatClampNeg (kw (shX I o w a k i) 22 o (nI i).toNatClampNeg (shX I o w a k i 22 o (nI i).toNatClampNeg + k) 23 o (nI i).toNatClampNeg + 1), J, none)
        rw [hcl, h22, kw_app]
        simp only [show ¬ (23 = 22) by decide, false_and, ↓reduceIte]
        rw [h23]
        exact hn
theorem cs_X1_spendHour (o : Nat) (w a k : Int32) (I : kI) (J : kJ) {c : Nat} (hc : c ≤ 6) (hI : I 1 o 5 = nI c) : sp_X1_spendHour [kx_r 1 o, kx_i w, kx_i a, kx_i k] (I, J, none) none (shX I o w a k c, J, none) := by
  have h := lp_X1_spendHour o w a k I J hc hI c 0 (by omega)
  have e : shX I o w a k 0 = I := kI_ext fun t2 o2 j => by simp [shX_app]
  rw [e] at h
  refine kx_start [3] 40 ?_
  exact h

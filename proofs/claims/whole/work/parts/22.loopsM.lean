/-! the reference's loops, one by one -/
theorem ix3 (a b c i : Nat) : nI a + nI b * nI i + nI c = nI (a + b * i + c) := by rw [pk_mul, nI_add, nI_add]
theorem ix3c {a b c i : Nat} (h : a + b * i + c < 2147483648) : (nI a + nI b * nI i + nI c).toNatClampNeg = a + b * i + c := by rw [ix3, nI_clamp (by omega)]
theorem ix3v {a b c i N : Nat} (h : a + b * i + c < N) (hN : N < 2147483648) : vp_in (nI a + nI b * nI i + nI c) N := by rw [ix3]; exact vp_in_nI h (by omega)
theorem ix2 (a b i : Nat) : nI a + nI b * nI i = nI (a + b * i) := by rw [pk_mul, nI_add]
theorem ix2c {a b i : Nat} (h : a + b * i < 2147483648) : (nI a + nI b * nI i).toNatClampNeg = a + b * i := by rw [ix2, nI_clamp (by omega)]
theorem ix2v {a b i N : Nat} (h : a + b * i < N) (hN : N < 2147483648) : vp_in (nI a + nI b * nI i) N := by rw [ix2]; exact vp_in_nI h (by omega)
theorem ix1c {a i : Nat} (h : a + i < 2147483648) : (nI a + nI i).toNatClampNeg = a + i := by rw [nI_add, nI_clamp (by omega)]
theorem ix1v {a i N : Nat} (h : a + i < N) (hN : N < 2147483648) : vp_in (nI a + nI i) N := by rw [nI_add]; exact vp_in_nI h (by omega)
theorem vl (n N : Nat) (h : n < N) (hN : N < 2147483648) : vp_in (nI n) N := vp_in_nI h (by omega)
set_option maxRecDepth 20000 in
theorem lp_X11_copies (o1 o2 : Nat) (ho : o1 ≠ o2) (I : kI) (J : kJ) : ∀ n i, i + n = 2509 →
    kx_Run tb_X11_copies (kx_cnt (I, J, none), fun r' S'' => r' = none ∧ S'' = (kx_uA I 41 o2 (fun k => if k < 2509 then I 41 o1 k else I 41 o2 k), J, none)) 2 [some (kx_r 41 o1), some (kx_r 41 o2), some (kx_i (nI i))] [] (kx_uA I 41 o2 (fun k => if k < i then I 41 o1 k else I 41 o2 k), J, none) := by
  intro n
  induction n with
  | zero =>
    intro i hi
    obtain rfl : i = 2509 := by omega
    refine kx_start [2] 40 ?_
    refine ⟨fun _ => ⟨rfl, rfl⟩, fun h => absurd (show nI 2509 ≤ nI 2509 from nI_le (by omega) (by omega)) h⟩
  | succ n ih =>
    intro i hi
    have hcl : (nI i).toNatClampNeg = i := nI_clamp (by omega)
    have hu := kz_upd (I 41 o1) (I 41 o2) i
    have hx : kx_uA I 41 o2 (fun k => if k < i then I 41 o1 k else I 41 o2 k) 41 o1 i = I 41 o1 i := by
      rw [kx_uA_app, if_neg (fun q => ho q.2)]
    refine kx_start [2] 40 ?_
    refine ⟨fun h => absurd h (show ¬ nI 2509 ≤ nI i from nI_ge (by omega) (by omega)), fun _ => ?_⟩
    refine ⟨vp_in_nI (by omega) (by omega), ?_⟩
    refine ⟨vp_in_nI (by omega) (by omega), ?_⟩
    have hn := ih (i + 1) (by omega)
    rw [← nI_1, ← hu, ← kw_uA] at hn
    show kx_Run _ _ 2 _ [] (kw (kx_uA I 41 o2 (fun k => if k < i then I 41 o1 k else I 41 o2 k)) 41 o2 (nI i).toNatClampNeg (kx_uA I 41 o2 (fun k => if k < i then I 41 o1 k else I 41 o2 k) 41 o1 (nI i).toNatClampNeg), J, none)
    rw [hcl, hx]
    exact hn
theorem cs_X11_copies (o1 o2 : Nat) (ho : o1 ≠ o2) (I : kI) (J : kJ) : sp_X11_copies [kx_r 41 o1, kx_r 41 o2] (I, J, none) none (kx_uA I 41 o2 (fun k => if k < 2509 then I 41 o1 k else I 41 o2 k), J, none) := by
  have h := lp_X11_copies o1 o2 ho I J 2509 0 (by omega)
  rw [kz_0, kx_uA_id] at h
  refine kx_start [2] 40 ?_
  exact h
set_option maxRecDepth 20000 in
theorem lp_X11_weatherOf1 (a0 : Int32) (I : kI) (J : kJ) (P : kx_P) {c : Nat} (hc : c ≤ 20) (hI : I 41 0 12 = nI c)
    (hex : kx_Run tb_X11_weatherOf P 37 [some (kx_r 11 0), some (kx_i a0), some (kx_i (ls (fun r => I 41 0 (21 + 2 * r + 1)) 0 c 0)), some (kx_i (nI c)), none] [] (I, J, none)) : ∀ n i acc, i + n = c → ls (fun r => I 41 0 (21 + 2 * r + 1)) i n acc = ls (fun r => I 41 0 (21 + 2 * r + 1)) 0 c 0 →
    kx_Run tb_X11_weatherOf P 4 [some (kx_r 11 0), some (kx_i a0), some (kx_i acc), some (kx_i (nI i)), none] [] (I, J, none) := by
  intro n
  induction n with
  | zero =>
    intro i acc hi hr
    obtain rfl : i = c := by omega
    refine kx_start [4, 37] 60 ?_
    refine ⟨vl 12 2509 (by decide) (by decide), ?_⟩
    refine ⟨fun _ => ?_, fun h => absurd (show I 41 0 12 ≤ nI i by rw [hI]; exact nI_le (by omega) (by omega)) h⟩
    rw [← hr] at hex
    exact hex
  | succ n ih =>
    intro i acc hi hr
    have hcl : ((21 : Int32) + 2 * nI i + 1).toNatClampNeg = 21 + 2 * i + 1 := ix3c (a := 21) (b := 2) (c := 1) (by omega)
    refine kx_start [4, 37] 60 ?_
    refine ⟨vl 12 2509 (by decide) (by decide), ?_⟩
    refine ⟨fun h => absurd h (show ¬ I 41 0 12 ≤ nI i by rw [hI]; exact nI_ge (by omega) (by omega)), fun _ => ?_⟩
    refine ⟨ix3v (a := 21) (b := 2) (c := 1) (by omega) (by omega), ?_⟩
    rw [ls] at hr
    have hn := ih (i + 1) _ (by omega) hr
    rw [← nI_1, ← hcl] at hn
    exact hn
theorem wAt_lt (w ln : Nat → Int32) : ∀ n i left, 0 ≤ left.toInt → wAt w ln n i left = wAt w ln n i left := fun _ _ _ _ => rfl
/-- the sum of lengths, as a number -/
def lsum (ln : Nat → Nat) : Nat → Nat → Nat
  | _, 0 => 0
  | i, n + 1 => ln i + lsum ln (i + 1) n
theorem lsum_ls (h : Nat → Int32) (ln : Nat → Nat) : ∀ n i (acc : Nat), (∀ j, i ≤ j → j < i + n → h j = nI (ln j)) → ls h i n (nI acc) = nI (acc + lsum ln i n) := by
  intro n
  induction n with
  | zero => intro i acc _; rfl
  | succ n ih =>
    intro i acc hh
    rw [ls, lsum, hh i (by omega) (by omega), nI_add, ih (i + 1) _ (fun j h1 h2 => hh j (by omega) (by omega)), Nat.add_assoc]
theorem lsum_le (ln : Nat → Nat) (b : Nat) : ∀ n i, (∀ j, i ≤ j → j < i + n → ln j ≤ b) → lsum ln i n ≤ n * b := by
  intro n
  induction n with
  | zero => intro i _; simp [lsum]
  | succ n ih =>
    intro i h
    have h1 := ih (i + 1) (fun j a b => h j (by omega) (by omega))
    have h2 := h i (by omega) (by omega)
    rw [lsum, Nat.add_mul]
    omega
set_option maxRecDepth 20000 in
theorem lp_X11_weatherOf2 (a0 a2 : Int32) (I : kI) (J : kJ) {c : Nat} (hc : c ≤ 20) (ln : Nat → Nat) (hln : ∀ r, r < c → I 41 0 (21 + 2 * r + 1) = nI (ln r) ∧ ln r ≤ 99) (r : Int32) : ∀ n i left, i + n = c → left < lsum ln i n → wAt (fun r => I 41 0 (21 + 2 * r)) (fun r => I 41 0 (21 + 2 * r + 1)) n i (nI left) = r →
    kx_Run tb_X11_weatherOf (kx_cnt (I, J, none), fun r' S'' => r' = some (kx_i r) ∧ S'' = (I, J, none)) 50 [some (kx_r 11 0), some (kx_i a0), some (kx_i a2), some (kx_i (nI left)), some (kx_i (nI i))] [] (I, J, none) := by
  intro n
  induction n with
  | zero =>
    intro i left hi hl
    rw [lsum] at hl
    omega
  | succ n ih =>
    intro i left hi hl hr
    have hb := lsum_le ln 99 (n + 1) i (fun j a b => (hln j (by omega)).2)
    have hcl : ((21 : Int32) + 2 * nI i + 1).toNatClampNeg = 21 + 2 * i + 1 := ix3c (a := 21) (b := 2) (c := 1) (by omega)
    have hcl2 : ((21 : Int32) + 2 * nI i).toNatClampNeg = 21 + 2 * i := ix2c (a := 21) (b := 2) (by omega)
    obtain ⟨e1, e2⟩ := hln i (by omega)
    refine kx_start [50] 60 ?_
    refine ⟨ix3v (a := 21) (b := 2) (c := 1) (by omega) (by omega), ?_⟩
    rw [wAt] at hr
    dsimp only at hr
    rw [e1] at hr
    refine ⟨fun h => ?_, fun h => ?_⟩
    · replace h : nI left < I 41 0 ((21 : Int32) + 2 * nI i + 1).toNatClampNeg := h
      rw [hcl, e1] at h
      rw [if_pos h] at hr
      refine ⟨ix2v (a := 21) (b := 2) (by omega) (by omega), ?_⟩
      exact ⟨by rw [← hr, ← hcl2], rfl⟩
    · replace h : ¬ nI left < I 41 0 ((21 : Int32) + 2 * nI i + 1).toNatClampNeg := h
      rw [hcl, e1] at h
      rw [if_neg h] at hr
      have hle : ln i ≤ left := by
        rw [nI_ltI (by omega) (by omega)] at h
        omega
      rw [pk_sub hle] at hr
      refine ⟨ix3v (a := 21) (b := 2) (c := 1) (by omega) (by omega), ?_⟩
      rw [lsum] at hl
      have hn := ih (i + 1) (left - ln i) (by omega) (by omega) hr
      rw [← nI_1, ← pk_sub hle, ← e1, ← hcl] at hn
      exact hn

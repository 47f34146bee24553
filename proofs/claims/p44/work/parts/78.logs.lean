/-! the reference's log -/
def logG (g : Nat → Int32) (a b w : Int32) : Nat → Int32 := if (400 : Int32) ≤ g 15 then g else fun j => if j = 15 then g 15 + 1 else if j = 909 + 4 * (g 15).toNatClampNeg + 3 then w else if j = 909 + 4 * (g 15).toNatClampNeg + 2 then b else if j = 909 + 4 * (g 15).toNatClampNeg + 1 then a else if j = 909 + 4 * (g 15).toNatClampNeg then g 0 else g j
theorem E_logs (a b w : Int32) (I : kI) (J : kJ) {n : Nat} (hn : n ≤ 400) (h : I 41 0 15 = nI n) : F_X11_logs a b w I J = (kx_uA I 41 0 (logG (I 41 0) a b w), J) ∧ pre_X11_logs a b w I J := by
  have l0 : ((0 : Int32)).toNatClampNeg = 0 := rfl
  have l15 : ((15 : Int32)).toNatClampNeg = 15 := rfl
  have v0 : vp_in (0 : Int32) 2509 := vl 0 2509 (by omega) (by omega)
  have v15 : vp_in (15 : Int32) 2509 := vl 15 2509 (by omega) (by omega)
  unfold F_X11_logs pre_X11_logs logG
  rw [l0, l15, h]
  by_cases h4 : (400 : Int32) ≤ nI n
  · rw [kif_pos h4, kif_pos h4, if_pos h4, kx_uA_id]
    exact ⟨rfl, v15, trivial⟩
  · rw [kif_neg h4, kif_neg h4, if_neg h4, nI_clamp (show n < 2147483648 by omega)]
    have hlt : n < 400 := by
      have q : ¬ nI 400 ≤ nI n := h4
      rw [i_le (by omega) (by omega)] at q
      omega
    have c0 : ((909 : Int32) + 4 * nI n).toNatClampNeg = 909 + 4 * n := ix2c (a := 909) (b := 4) (by omega)
    have c1 : ((909 : Int32) + 4 * nI n + 1).toNatClampNeg = 909 + 4 * n + 1 := ix3c (a := 909) (b := 4) (c := 1) (by omega)
    have c2 : ((909 : Int32) + 4 * nI n + 2).toNatClampNeg = 909 + 4 * n + 2 := ix3c (a := 909) (b := 4) (c := 2) (by omega)
    have c3 : ((909 : Int32) + 4 * nI n + 3).toNatClampNeg = 909 + 4 * n + 3 := ix3c (a := 909) (b := 4) (c := 3) (by omega)
    have w0 : vp_in ((909 : Int32) + 4 * nI n) 2509 := ix2v (a := 909) (b := 4) (by omega) (by omega)
    have w1 : vp_in ((909 : Int32) + 4 * nI n + 1) 2509 := ix3v (a := 909) (b := 4) (c := 1) (by omega) (by omega)
    have w2 : vp_in ((909 : Int32) + 4 * nI n + 2) 2509 := ix3v (a := 909) (b := 4) (c := 2) (by omega) (by omega)
    have w3 : vp_in ((909 : Int32) + 4 * nI n + 3) 2509 := ix3v (a := 909) (b := 4) (c := 3) (by omega) (by omega)
    rw [c0, c1, c2, c3]
    refine ⟨?_, ?_⟩
    · refine congrArg (fun K => (K, J)) (kI_ext fun t2 o2 j => ?_)
      simp only [kw_app, kx_uA_app]
      by_cases ht : t2 = 41 ∧ o2 = 0
      · obtain ⟨rfl, rfl⟩ := ht
        simp only [true_and]
        simp only [and_self, if_true]
      · rw [if_neg ht, if_neg (fun q => ht ⟨q.1, q.2.1⟩), if_neg (fun q => ht ⟨q.1, q.2.1⟩), if_neg (fun q => ht ⟨q.1, q.2.1⟩), if_neg (fun q => ht ⟨q.1, q.2.1⟩), if_neg (fun q => ht ⟨q.1, q.2.1⟩)]
    · simp only [v0, v15, w0, w1, w2, w3, and_self]

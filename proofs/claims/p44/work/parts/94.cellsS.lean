/-! the reference's hour: ships and log -/
noncomputable def hE (g : Nat → Int32) (kd : Nat → Nat) (d w W t a : Int32) (l : List Nat) : List (Int32 × Int32) := eA (aL g d t) t d ++ eB (aS g w t) ++ eC (g (61 + 4 * W.toNatClampNeg)) a d ++ (if t = 0 then [] else l.map fun s => (4 + ft (kd s) d (aL g d t) w (aS g w t), nI s))
theorem aE_6 (g : Nat → Int32) (d t w a w4 : Int32) : aE g d t w a w4 6 = aL g d t := by
  unfold aE
  rw [logL_lt _ (by omega) (by omega)]
  unfold aP
  rw [upd_app, if_neg (by omega)]
  rfl
theorem aE_0 (g : Nat → Int32) (d t w a w4 : Int32) : aE g d t w a w4 0 = g 0 := by
  unfold aE
  rw [logL_lt _ (by omega) (by omega), aP_ne _ _ _ _ (by omega) (by omega) (by omega) (by omega) (by omega) (by omega)]
theorem aE_s (g : Nat → Int32) (d t w a w4 : Int32) {j : Nat} (h1 : 85 ≤ j) (h2 : j < 909) : aE g d t w a w4 j = g j := by
  unfold aE
  rw [logL_lt _ (by omega) (by omega), aP_ne _ _ _ _ (by omega) (by omega) (by omega) (by omega) (by omega) (by omega)]
/-- the hour's ships -/
theorem aE_rk (g : Nat → Int32) {W : Int32} (hW : W < 0 ∨ W.toNatClampNeg < 6) (d t w a w4 h : Int32) {c : Nat} (hc : c ≤ 200) : rkK (aE (aG g W) d t w a w4) h c 5 = rkK g h c 5 := rkK_congr h c (fun s hs => ⟨by rw [aE_s _ _ _ _ _ _ (by omega) (by omega), aG_hi _ hW (by omega)], by rw [aE_s _ _ _ _ _ _ (by omega) (by omega), aG_hi _ hW (by omega)]⟩) 5
theorem trG_hi (g : Nat → Int32) (w wth : Int32) {i : Nat} (hi : i ≤ 6) {j : Nat} (h : 109 ≤ j) : trG g w wth i j = g j := by
  unfold trG
  rw [if_neg (fun q => by omega)]
theorem hU_hi (g : Nat → Int32) (kd : Nat → Nat) (c k h : Nat) (w : Int32) (hW : aW g h < 0 ∨ (aW g h).toNatClampNeg < 6) (hc : c ≤ 200) (hk : k ≤ 6) (h0 : g 0 = nI h) {j : Nat} (hj : 109 ≤ j) : hU g kd c k h w j = psF kd (aD g h) (aS g w (aT g (aW g h))) w (whM (aT g (aW g h)) (aW g h)) (aE (aG g (aW g h)) (aD g h) (aT g (aW g h)) w (aA g (aW g h)) (aW g h)) (rkK g (nI h) c 5) j := by
  unfold hU aU spG
  rw [trG_hi _ _ _ hk hj, aE_0, aG_ne _ (by omega) (by omega), h0, aE_rk g hW _ _ _ _ _ _ hc, aS_G]
theorem rk_lt {g : Nat → Int32} {h : Int32} {c : Nat} (hc : c ≤ 200) : ∀ s, s ∈ rkK g h c 5 → s < 200 := fun s hs => by
  have := ((rkK_mem g h c s 5).mp hs).1
  omega
theorem aL_if (g : Nat → Int32) (d t : Int32) : (if aL g d t = 1 then (1 : Int32) else 0) = aL g d t := by
  rcases aL_01 g d t with e | e <;> rw [e] <;> rfl
theorem hG_s (g : Nat → Int32) (kd : Nat → Nat) (c k h : Nat) (w : Int32) (hW : aW g h < 0 ∨ (aW g h).toNatClampNeg < 6) (hc : c ≤ 200) (hk : k ≤ 6) (h0 : g 0 = nI h) {s : Nat} (hs : s < 200) : hG g kd c k h w (109 + 4 * s) = g (109 + 4 * s) ∧ hG g kd c k h w (109 + 4 * s + 1) = g (109 + 4 * s + 1) ∧ hG g kd c k h w (109 + 4 * s + 2) = (if s ∈ rkK g (nI h) c 5 then ft (kd s) (aD g h) (aL g (aD g h) (aT g (aW g h))) w (aS g w (aT g (aW g h))) else g (109 + 4 * s + 2)) ∧ hG g kd c k h w (109 + 4 * s + 3) = (if s ∈ rkK g (nI h) c 5 then aL g (aD g h) (aT g (aW g h)) + psS (aS g w (aT g (aW g h))) else g (109 + 4 * s + 3)) := by
  have e := psF_s kd (aD g h) (aS g w (aT g (aW g h))) w (whM (aT g (aW g h)) (aW g h)) hs (rkK g (nI h) c 5) (aE (aG g (aW g h)) (aD g h) (aT g (aW g h)) w (aA g (aW g h)) (aW g h))
  rw [aE_6, aL_G, aL_if, aE_s _ _ _ _ _ _ (by omega) (by omega), aE_s _ _ _ _ _ _ (by omega) (by omega), aE_s _ _ _ _ _ _ (by omega) (by omega), aE_s _ _ _ _ _ _ (by omega) (by omega), aG_hi _ hW (by omega), aG_hi _ hW (by omega), aG_hi _ hW (by omega), aG_hi _ hW (by omega)] at e
  rw [hG_no _ _ _ _ _ _ (show ¬ 109 + 4 * s = 0 by omega) (by omega) (by omega) (by omega) (by omega) (by omega), hG_no _ _ _ _ _ _ (show ¬ 109 + 4 * s + 1 = 0 by omega) (by omega) (by omega) (by omega) (by omega) (by omega), hG_no _ _ _ _ _ _ (show ¬ 109 + 4 * s + 2 = 0 by omega) (by omega) (by omega) (by omega) (by omega) (by omega), hG_no _ _ _ _ _ _ (show ¬ 109 + 4 * s + 3 = 0 by omega) (by omega) (by omega) (by omega) (by omega) (by omega), hU_hi _ _ _ _ _ _ hW hc hk h0 (by omega), hU_hi _ _ _ _ _ _ hW hc hk h0 (by omega), hU_hi _ _ _ _ _ _ hW hc hk h0 (by omega), hU_hi _ _ _ _ _ _ hW hc hk h0 (by omega)]
  exact e
theorem aT_ge {g : Nat → Int32} {W : Int32} (h : ¬ aT g W = 0) : ¬ W < 0 := fun n => h (by unfold aT; rw [kif_pos n])
theorem hG_log (g : Nat → Int32) (kd : Nat → Nat) (c k h : Nat) (w : Int32) (hW : aW g h < 0 ∨ (aW g h).toNatClampNeg < 6) (hc : c ≤ 200) (hk : k ≤ 6) (h0 : g 0 = nI h) {j : Nat} (hj : j = 15 ∨ 909 ≤ j) : hG g kd c k h w j = logL g (aW g h) (hE g kd (aD g h) w (aW g h) (aT g (aW g h)) (aA g (aW g h)) (rkK g (nI h) c 5)) j := by
  have hj' : j = 0 ∨ j = 15 ∨ 909 ≤ j := by omega
  have hl : ∀ s, s ∈ rkK g (nI h) c 5 → s < 200 := rk_lt hc
  rw [hG_no _ _ _ _ _ _ (by omega) (by omega) (by omega) (by omega) (by omega) (by omega)]
  have e1 : hU g kd c k h w j = psF kd (aD g h) (aS g w (aT g (aW g h))) w (whM (aT g (aW g h)) (aW g h)) (aE (aG g (aW g h)) (aD g h) (aT g (aW g h)) w (aA g (aW g h)) (aW g h)) (rkK g (nI h) c 5) j := by
    unfold hU aU spG
    rw [aE_0, aG_ne _ (by omega) (by omega), h0, aE_rk g hW _ _ _ _ _ _ hc, aS_G]
    unfold trG
    rw [if_neg (fun q => by omega)]
  rw [e1]
  generalize rkK g (nI h) c 5 = l at *
  have ePG : LQ (aP (aG g (aW g h)) (aD g h) (aT g (aW g h)) w) g := fun j hj => by
    rw [aP_ne _ _ _ _ (by omega) (by omega) (by omega) (by omega) (by omega) (by omega)]
    rcases hj with rfl | rfl | q
    · rw [aG_ne _ (by omega) (by omega)]
    · rw [aG_ne _ (by omega) (by omega)]
    · rw [aG_hi _ hW (by omega)]
  have eE : LQ (aE (aG g (aW g h)) (aD g h) (aT g (aW g h)) w (aA g (aW g h)) (aW g h)) (logL g (aW g h) (eA (aL g (aD g h) (aT g (aW g h))) (aT g (aW g h)) (aD g h) ++ eB (aS g w (aT g (aW g h))) ++ eC (g (61 + 4 * (aW g h).toNatClampNeg)) (aA g (aW g h)) (aD g h))) := by
    unfold aE
    rw [aL_G, aS_G, (aG_k0 _ _ _).1]
    exact LQ_logL _ _ ePG
  have e6 : aE (aG g (aW g h)) (aD g h) (aT g (aW g h)) w (aA g (aW g h)) (aW g h) 6 = aL g (aD g h) (aT g (aW g h)) := by rw [aE_6, aL_G]
  unfold hE
  rw [logL_append]
  generalize aE (aG g (aW g h)) (aD g h) (aT g (aW g h)) w (aA g (aW g h)) (aW g h) = e at *
  by_cases t0 : aT g (aW g h) = 0
  · rw [if_pos t0]
    have hw : whM (aT g (aW g h)) (aW g h) < 0 := by
      unfold whM
      rw [kif_pos t0]
      decide
    exact (psF_nolog kd _ _ _ _ hw l e hl j hj').trans (eE j hj')
  · rw [if_neg t0]
    have hw : whM (aT g (aW g h)) (aW g h) = aW g h := by
      unfold whM
      rw [kif_neg t0]
    rw [hw]
    have q := psF_log kd (aD g h) (aS g w (aT g (aW g h))) w (aW g h) (aT_ge t0) l e hl
    rw [e6, aL_if] at q
    exact (q j hj').trans (LQ_logL _ _ eE j hj')

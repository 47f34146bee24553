/-! the sky is read -/
def ltr (c : Int32) : Prop := c = 99 ∨ c = 102 ∨ c = 115
theorem wof (c : Int32) (I : kI) (J : kJ) : (ltr c → F_X7_weatherOf c I J = wlt c ∧ ¬ F_X7_weatherOf c I J = -1) ∧ (¬ ltr c → F_X7_weatherOf c I J = -1) := by
  unfold ltr F_X7_weatherOf wlt
  by_cases a : c = 99
  · rw [kif_pos a, if_pos a]
    exact ⟨fun _ => ⟨rfl, by decide⟩, fun y => absurd (Or.inl a) y⟩
  · rw [kif_neg a, if_neg a]
    by_cases b : c = 102
    · rw [kif_pos b, if_pos b]
      exact ⟨fun _ => ⟨rfl, by decide⟩, fun y => absurd (Or.inr (Or.inl b)) y⟩
    · rw [kif_neg b, if_neg b]
      by_cases d : c = 115
      · rw [kif_pos d]
        exact ⟨fun _ => ⟨rfl, by decide⟩, fun y => absurd (Or.inr (Or.inr d)) y⟩
      · rw [kif_neg d]
        exact ⟨fun y => absurd y (by rintro (z | z | z); exact a z; exact b z; exact d z), fun _ => rfl⟩
theorem wlt_n (c : Int32) : ∃ w, w ≤ 2 ∧ wlt c = nI w := by
  unfold wlt
  split
  · exact ⟨0, by omega, rfl⟩
  · split
    · exact ⟨1, by omega, rfl⟩
    · exact ⟨2, by omega, rfl⟩
theorem TQ_kw {K : kI} {z : Nat} {T : Nat → Nat} (h : TQ K z T) (v : Int32) : TQ (kw K 11 0 10 v) z T := by
  refine ⟨by rw [kw_at _ _ (by omega)]; exact h.1, h.2.1, fun k hk => ?_⟩
  rw [kw_at _ _ (by omega)]
  exact h.2.2 k hk
theorem M_run {K : kI} {z : Nat} {T : Nat → Nat} (h : TQ K z T) (J : kJ) (a r : Nat) (ha : a < 800) (hr : r ≤ 20) (h10 : K 11 0 10 = nI a) (h12 : K 11 0 12 = nI r) : ((r = 20 ∨ ¬ ltr (bt z T a)) → E_X11_isRun K J = some (0, K, J)) ∧ (r < 20 → ltr (bt z T a) → num z T (a + 1) = 0 → E_X11_isRun K J = some (0, kw K 11 0 10 (nI (a + 1)), J)) ∧ (r < 20 → ltr (bt z T a) → ¬ num z T (a + 1) = 0 → E_X11_isRun K J = some (1, rnX (kw K 11 0 10 (nI (a + 1))) (a + 1 + ndg z T (a + 1)) r (wlt (bt z T a)) (num z T (a + 1)), J)) := by
  have b := byteM h a (by omega) J
  have r20 : (nI r = 20) ↔ r = 20 := ⟨fun y => nI_inj (b := 20) (by omega) (by omega) y, fun y => by rw [y]; rfl⟩
  have run := fun hr2 : r < 20 => run52 (TQ_kw h (nI (a + 1))) J (bt z T a) (a + 1) r (by omega) hr2 (by rw [kw_app, if_pos ⟨rfl, rfl, rfl⟩]) (by rw [kw_at _ _ (by omega), h12])
  have go : ∀ R, r < 20 → ltr (bt z T a) → G_X11_isRun kfu 52 (bt z T a) 0 0 (kw K 11 0 10 (nI (a + 1))) J = R → E_X11_isRun K J = R := fun R y1 y2 y3 => by
    unfold E_X11_isRun
    rw [h10, kif_pos b.2, h12, kif_neg (fun y => by have := r20.mp y; omega), b.1, nI_1]
    rcases y2 with y | y | y
    · rw [kif_pos y]; exact y3
    · rw [kif_neg (by rw [y]; decide), kif_pos y]; exact y3
    · rw [kif_neg (by rw [y]; decide), kif_neg (by rw [y]; decide), kif_pos y]; exact y3
  refine ⟨fun q => ?_, fun y1 y2 y3 => go _ y1 y2 ((run y1).1 y3), fun y1 y2 y3 => go _ y1 y2 ((run y1).2 y3)⟩
  unfold E_X11_isRun
  rw [h10, kif_pos b.2, h12]
  by_cases y : r = 20
  · rw [kif_pos (r20.mpr y)]
  · have nl := q.resolve_left y
    rw [kif_neg (fun x => y (r20.mp x)), b.1, kif_neg (fun x => nl (Or.inl x)), kif_neg (fun x => nl (Or.inr (Or.inl x))), kif_neg (fun x => nl (Or.inr (Or.inr x)))]
/-- the array's new sky -/
def skG (g : Nat → Int32) (R : Nat) (b : Nat → Int32) (i : Nat) : Nat → Int32 := fun j => if 21 ≤ j ∧ j < 21 + i then b (j - 21) else if j = 12 then nI R else g j
theorem g_take {K : kI} (J : kJ) (g : Nat → Int32) (R : Nat) (hR : R ≤ 20) (h12 : K 11 0 12 = nI R) : ∀ n i m, i + n = 2 * R → n + 1 ≤ m → G_X11_sky m 112 0 (nI i) (kx_uA K 41 0 (skG g R (K 44 0) i)) J = some (nI R, kx_uA K 41 0 (skG g R (K 44 0) (2 * R)), J) := by
  have e2 : (2 : Int32) * nI R = nI (2 * R) := pk_mul 2 R
  have k12 : ∀ f, (kx_uA K 41 0 f) 11 0 12 = nI R := fun f => by rw [kx_uA_app, if_neg (by omega), h12]
  intro n
  induction n with
  | zero =>
    intro i m hi hm
    obtain ⟨m, rfl⟩ : ∃ m', m = m' + 1 := ⟨m - 1, by omega⟩
    obtain rfl : i = 2 * R := by omega
    rw [G_X11_sky_112, k12, e2, kif_pos (by rw [i_le (by omega) (by omega)]; omega)]
  | succ n ih =>
    intro i m hi hm
    obtain ⟨m, rfl⟩ : ∃ m', m = m' + 1 := ⟨m - 1, by omega⟩
    have c21 : ((21 : Int32) + nI i).toNatClampNeg = 21 + i := ix1c (a := 21) (by omega)
    have v21 : vp_in ((21 : Int32) + nI i) 2509 := ix1v (a := 21) (by omega) (by omega)
    have hn := ih (i + 1) m (by omega) (by omega)
    have e44 : (kx_uA K 41 0 (skG g R (K 44 0) i)) 44 0 i = K 44 0 i := by rw [kx_uA_app, if_neg (by omega)]
    have st : upd (skG g R (K 44 0) i) (21 + i) (K 44 0 i) = skG g R (K 44 0) (i + 1) := by
      funext j
      simp only [upd, skG]
      by_cases y : j = 21 + i
      · rw [if_pos y, if_pos (by omega), y, show 21 + i - 21 = i by omega]
      · rw [if_neg y]
        by_cases y2 : 21 ≤ j ∧ j < 21 + i
        · rw [if_pos y2, if_pos (by omega)]
        · rw [if_neg y2, if_neg (show ¬ (21 ≤ j ∧ j < 21 + (i + 1)) by omega)]
    rw [G_X11_sky_112, k12, e2, kif_neg (by rw [i_le (by omega) (by omega)]; omega), kif_pos (vl i 40 (by omega) (by omega)), kif_pos v21, c21, nI_clamp (by omega), e44, kw_uA, st, nI_1]
    exact hn
def SI (I : kI) (r : Nat) (w ln : Nat → Nat) : Prop := I 5 3 2 = nI r ∧ I 5 3 3 = nI (lsum ln 0 r) ∧ ∀ i, i < r → I 35 3 i = nI (w i) ∧ I 36 3 i = nI (ln i)
def SK (K : kI) (z : Nat) (T : Nat → Nat) (a r : Nat) (w ln : Nat → Nat) : Prop := TQ K z T ∧ K 11 0 10 = nI a ∧ K 11 0 12 = nI r ∧ ∀ i, i < r → K 44 0 (2 * i) = nI (w i) ∧ K 44 0 (2 * i + 1) = nI (ln i)
def okW (r : Nat) (w ln : Nat → Nat) : Prop := ∀ i, i < r → w i ≤ 2 ∧ 1 ≤ ln i ∧ ln i ≤ 99
def frC (I I' : kI) : Prop := ∀ t o j, ¬ (o = 3 ∧ (t = 5 ∨ t = 35 ∨ t = 36)) → I' t o j = I t o j
def frM (K K' : kI) : Prop := ∀ t o j, ¬ (t = 11 ∧ o = 0 ∧ (j = 9 ∨ j = 10 ∨ j = 12)) → ¬ (t = 44 ∧ o = 0) → ¬ (t = 42 ∧ o = 0 ∧ j = 0) → ¬ (t = 41 ∧ o = 0) → K' t o j = K t o j
def bufF (w ln : Nat → Nat) (j : Nat) : Int32 := if j % 2 = 0 then nI (w (j / 2)) else nI (ln (j / 2))
noncomputable def skyM (K : kI) (J : kJ) (m : Nat) : Option (Int32 × kI × kJ) := kbd (E_X11_isRun K J) (fun q1 => G_X11_sky m 15 q1.1 0 q1.2.1 q1.2.2)
theorem M_fault {K : kI} (J : kJ) (x m : Nat) (h10 : K 11 0 10 = nI x) : ∃ K', G_X11_sky (m + 1) 15 0 0 K J = some (-300 - nI x, K', J) ∧ frM K K' ∧ K' 11 0 9 = 0 ∧ K' 42 0 0 = K 42 0 0 + 1 ∧ K' 41 0 = K 41 0 := by
  have l0 : ((0 : Int32)).toNatClampNeg = 0 := rfl
  have v0 : vp_in (0 : Int32) 5 := vl 0 5 (by omega) (by omega)
  refine ⟨kw (kw K 11 0 9 0) 42 0 0 (K 42 0 0 + 1), ?_, fun t o j a b c d => ?_, ?_, ?_, funext fun j => ?_⟩
  · rw [G_X11_sky_15, kif_pos rfl, kif_pos rfl, kif_pos v0, kif_pos v0, l0, kw_at _ _ (show ¬ (42 = 11 ∧ 0 = 0 ∧ 0 = 9) by omega), kw_at _ _ (show ¬ (11 = 42 ∧ 0 = 0 ∧ 10 = 0) by omega), kw_at _ _ (show ¬ (11 = 11 ∧ 0 = 0 ∧ 10 = 9) by omega), h10]
  · rw [kw_at _ _ (by omega), kw_at _ _ (by omega)]
  · rw [kw_at _ _ (by omega), kw_app, if_pos ⟨rfl, rfl, rfl⟩]
  · rw [kw_app, if_pos ⟨rfl, rfl, rfl⟩]
  · rw [kw_at _ _ (by omega), kw_at _ _ (by omega)]
theorem M_good {K : kI} (J : kJ) (z R m : Nat) (w ln : Nat → Nat) (hz : z < 1000) (hR : R ≤ 20) (h9 : K 11 0 9 = nI z) (h10 : K 11 0 10 = nI z) (h12 : K 11 0 12 = nI R) (hb : ∀ i, i < R → K 44 0 (2 * i) = nI (w i) ∧ K 44 0 (2 * i + 1) = nI (ln i)) (hm : 42 ≤ m) : ∃ K', G_X11_sky (m + 1) 15 1 0 K J = some (nI R, K', J) ∧ frM K K' ∧ K' 11 0 9 = 0 ∧ K' 42 0 0 = K 42 0 0 ∧ K' 41 0 = skG (K 41 0) R (bufF w ln) (2 * R) := by
  have l12 : ((12 : Int32)).toNatClampNeg = 12 := rfl
  have v12 : vp_in (12 : Int32) 2509 := vl 12 2509 (by omega) (by omega)
  have z1 : ¬ (1 : Int32) = 0 := by decide
  have le : K 11 0 9 ≤ K 11 0 10 := by rw [h9, h10, i_le (by omega) (by omega)]; omega
  obtain ⟨L, hL⟩ : ∃ L, L = kw K 11 0 9 0 := ⟨_, rfl⟩
  have l12' : L 11 0 12 = nI R := by rw [hL, kw_at _ _ (by omega), h12]
  have l41 : L 41 0 = K 41 0 := funext fun j => by rw [hL, kw_at _ _ (by omega)]
  have l44 : L 44 0 = K 44 0 := funext fun j => by rw [hL, kw_at _ _ (by omega)]
  have t := g_take (K := L) J (K 41 0) R hR l12' (2 * R) 0 m (by omega) (by omega)
  have e0 : kx_uA L 41 0 (skG (K 41 0) R (L 44 0) 0) = kw L 41 0 12 (nI R) := by
    unfold kw
    rw [l41]
    refine congrArg (kx_uA L 41 0) (funext fun j => ?_)
    simp only [upd, skG]
    rw [if_neg (show ¬ (21 ≤ j ∧ j < 21 + 0) by omega)]
  rw [e0] at t
  refine ⟨kx_uA L 41 0 (skG (K 41 0) R (L 44 0) (2 * R)), ?_, fun t o j a b c d => ?_, ?_, ?_, ?_⟩
  · rw [G_X11_sky_15, kif_neg z1, kif_pos le, kif_neg z1, kif_pos v12, l12, ← hL, l12']
    exact t
  · rw [kx_uA_app, if_neg d, hL, kw_at _ _ (by omega)]
  · rw [kx_uA_app, if_neg (by omega), hL, kw_app, if_pos ⟨rfl, rfl, rfl⟩]
  · rw [kx_uA_app, if_neg (by omega), hL, kw_at _ _ (by omega)]
  · rw [kx_uA_eq, l44]
    funext j
    unfold skG
    by_cases y : 21 ≤ j ∧ j < 21 + 2 * R
    · rw [if_pos y, if_pos y]
      unfold bufF
      by_cases e : (j - 21) % 2 = 0
      · rw [if_pos e]
        have q := (hb ((j - 21) / 2) (by omega)).1
        rw [show 2 * ((j - 21) / 2) = j - 21 by omega] at q
        exact q
      · rw [if_neg e]
        have q := (hb ((j - 21) / 2) (by omega)).2
        rw [show 2 * ((j - 21) / 2) + 1 = j - 21 by omega] at q
        exact q
    · rw [if_neg y, if_neg y]
def apX (I : kI) (r : Nat) (w v s : Int32) : kI := kw (kw (kw (kw I 35 3 r w) 36 3 r v) 5 3 2 (nI (r + 1))) 5 3 3 (s + v)
theorem C_append {I : kI} (J : kJ) {r : Nat} (hr : r < 20) (w v : Int32) (h2 : I 5 3 2 = nI r) : F_X5_append 3 w v I J = (apX I r w v (I 5 3 3), J) ∧ pre_X5_append 3 w v I J := by
  have lt : nI r < 20 := by show nI r < nI 20; rw [i_lt (by omega) (by omega)]; exact hr
  have eF : F_X5_isFull 3 I J = 0 := by unfold F_X5_isFull; rw [h2, kif_pos lt]
  have vr : vp_in (nI r) 20 := vl r 20 hr (by omega)
  have b : (kw I 35 3 r w) 5 3 2 = nI r := by rw [kw_at _ _ (by omega), h2]
  have b2 : (kw (kw I 35 3 r w) 36 3 r v) 5 3 2 = nI r := by rw [kw_at _ _ (by omega), b]
  have b3 : (kw (kw (kw I 35 3 r w) 36 3 r v) 5 3 2 (nI (r + 1))) 5 3 3 = I 5 3 3 := by rw [kw_at _ _ (by omega), kw_at _ _ (by omega), kw_at _ _ (by omega)]
  unfold F_X5_append pre_X5_append
  rw [eF, kif_pos rfl, kif_pos rfl, h2, nI_clamp (by omega), b, nI_clamp (by omega), b2, nI_1, b3]
  exact ⟨rfl, vr, vr, trivial⟩
theorem apX_ne (I : kI) (r : Nat) (w v s : Int32) : frC I (apX I r w v s) := fun t o j h => by
  unfold apX
  rw [kw_at _ _ (by omega), kw_at _ _ (by omega), kw_at _ _ (by omega), kw_at _ _ (by omega)]
theorem frC_tr {I I' I'' : kI} (h : frC I I') (h' : frC I' I'') : frC I I'' := fun t o j q => (h' t o j q).trans (h t o j q)
theorem lsum_upd (ln : Nat → Nat) (r v : Nat) : ∀ n i, lsum (fun x => if x = r then v else ln x) i n = if i ≤ r ∧ r < i + n then lsum ln i n + v - ln r else lsum ln i n := by
  intro n
  induction n with
  | zero => intro i; rw [if_neg (by omega)]; rfl
  | succ n ih =>
    intro i
    rw [lsum, lsum, ih (i + 1)]
    by_cases a : i = r
    · subst a
      rw [if_pos rfl, if_neg (by omega), if_pos (by omega)]
      omega
    · rw [if_neg a]
      by_cases b : i + 1 ≤ r ∧ r < i + 1 + n
      · have hl : ln r ≤ lsum ln (i + 1) n := by
          have gen : ∀ n i, i ≤ r → r < i + n → ln r ≤ lsum ln i n := by
            intro n
            induction n with
            | zero => intro i h1 h2; omega
            | succ n ih2 =>
              intro i h1 h2
              rw [lsum]
              by_cases c : i = r
              · rw [c]; omega
              · have := ih2 (i + 1) (by omega) (by omega)
                omega
          exact gen n (i + 1) b.1 b.2
        rw [if_pos b, if_pos (by omega)]
        omega
      · rw [if_neg b, if_neg (by omega)]
theorem lsum_app (ln : Nat → Nat) : ∀ n i, lsum ln i (n + 1) = lsum ln i n + ln (i + n) := by
  intro n
  induction n with
  | zero => intro i; simp [lsum]
  | succ n ih =>
    intro i
    rw [lsum, ih (i + 1)]
    rw [show lsum ln i (n + 1) = ln i + lsum ln (i + 1) n from rfl, show i + 1 + n = i + (n + 1) by omega]
    omega
theorem lsum_snoc (ln : Nat → Nat) (r v : Nat) : lsum (fun x => if x = r then v else ln x) 0 (r + 1) = lsum ln 0 r + v := by
  rw [lsum_app, Nat.zero_add, if_pos rfl]
  have e := lsum_upd ln r v r 0
  rw [if_neg (by omega)] at e
  rw [e]

/-! the class alone: what is told to it -/
def CI (N : Nat) (I : kI) (g : Nat → Int32) : Prop := WG g N ∧ CW I 0 g
theorem CI_cg {N : Nat} {I I' : kI} {g : Nat → Int32} (h : CI N I g) (q : ∀ t j, cwt t → I' t 0 j = I t 0 j) : CI N I' g := ⟨h.1, CW_congr h.2 q⟩
theorem CI_rf {N : Nat} {I : kI} {g : Nat → Int32} (h : CI N I g) (k : Nat) : CI N (rfC k I) g := CI_cg h (fun t j a => rfC_at k I _ _ (by unfold cwt at a; omega))
theorem ki_feed {N : Nat} {I : kI} {g : Nat → Int32} (J : kJ) (h : CI N I g) (hT : ∃ z T, TP I z T) (a : Int32) : ∃ v I', sp_X10_feed [kx_r 10 0, kx_i a] (I, J, none) (some (kx_i v)) (I', J, none) ∧ CI N I' g ∧ ∃ z T, TP I' z T := by
  obtain ⟨z, T, t1, t2, t3⟩ := hT
  have rf : ∀ k, TP (rfC k I) z T := fun k => ⟨by rw [rfC_at _ _ _ _ (by omega)]; exact t1, t2, fun j hj => by rw [rfC_at _ _ _ _ (by omega)]; exact t3 j hj⟩
  have z1 : ¬ (1 : Int32) = 0 := by decide
  by_cases q : (if a < 0 then (0 : Int32) else if 255 < a then 0 else 1) = 0
  · have c1 := cs_X10_feed a I J (by unfold pre_X10_feed; rw [F_within, kif_pos q]; exact ⟨(rC0 I J).2, trivial⟩)
    unfold F_X10_feed at c1
    rw [F_within, kif_pos q, (rC0 I J).1] at c1
    exact ⟨_, _, c1, CI_rf h 0, z, T, rf 0⟩
  · obtain ⟨k, hk1, hk2, rfl⟩ := in_yes (lo := 0) (hi := 255) (by omega) (by omega) q
    have w1 : ∀ K J, F_X10_isWithin (nI k) (0 : Int32) (255 : Int32) K J = 1 := fun K J => by rw [F_within]; exact in_k (lo := 0) (hi := 255) (by omega) hk1 hk2
    by_cases f : z = 250
    · have eF : F_X7_isFull 0 I J = 1 := by
        unfold F_X7_isFull
        rw [t1, f, kif_neg (by decide)]
      have c1 := cs_X10_feed (nI k) I J (by unfold pre_X10_feed; rw [w1, kif_neg z1, eF, kif_neg z1]; exact ⟨(rC4 I J).2, trivial⟩)
      unfold F_X10_feed at c1
      rw [w1, kif_neg z1, eF, kif_neg z1, (rC4 I J).1] at c1
      exact ⟨_, _, c1, CI_rf h 4, z, T, rf 4⟩
    · have lt : I 7 0 1 < 250 := by
        rw [t1]
        show nI _ < nI 250
        rw [i_lt (by omega) (by omega)]
        omega
      have eF : F_X7_isFull 0 I J = 0 := by
        unfold F_X7_isFull
        rw [kif_pos lt]
      have v1 : vp_in (I 7 0 1) 250 := by rw [t1]; exact vl _ 250 (by omega) (by omega)
      have eA : F_X7_append 0 (nI k) I J = (kw (kw I 38 0 z (nI k)) 7 0 1 (nI z + 1), J) := by
        unfold F_X7_append
        rw [eF, kif_pos rfl, kw_at _ _ (by omega), t1, nI_clamp (by omega)]
      have c1 := cs_X10_feed (nI k) I J (by unfold pre_X10_feed pre_X7_append; rw [w1, kif_neg z1, eF, kif_pos rfl, kif_pos rfl]; exact ⟨⟨v1, trivial⟩, trivial⟩)
      unfold F_X10_feed at c1
      rw [w1, kif_neg z1, eF, kif_pos rfl, eA] at c1
      dsimp only at c1
      refine ⟨_, _, c1, CI_cg h (fun t j b => ?_), z + 1, fun j => if j = z then k else T j, ?_, by omega, fun j hj => ?_⟩
      · unfold cwt at b
        rw [kw_at _ _ (by omega), kw_at _ _ (by omega)]
      · rw [kw_app, if_pos ⟨rfl, rfl, rfl⟩, nI_1]
      · rw [kw_at _ _ (by omega), kw_app]
        dsimp only
        by_cases y : j = z
        · rw [if_pos ⟨rfl, rfl, y⟩, if_pos y]
          exact ⟨rfl, hk2⟩
        · rw [if_neg (fun x => y x.2.2), if_neg y]
          exact t3 j (by omega)
theorem ki_sky {N : Nat} {I : kI} {g : Nat → Int32} (J : kJ) (h : CI N I g) (hT : ∃ z T, TP I z T) : ∃ v I' g', sp_X10_sky [kx_r 10 0] (I, J, none) (some (kx_i v)) (I', J, none) ∧ CI N I' g' ∧ ∀ j, ¬ j = 12 → ¬ (21 ≤ j ∧ j < 61) → g' j = g j := by
  obtain ⟨z, T, t1, t2, t3⟩ := hT
  have h1 := h.1
  have h2 := h.2
  obtain ⟨I0, hI0⟩ : ∃ I0, I0 = kw (kw I 5 3 2 0) 5 3 3 0 := ⟨_, rfl⟩
  have f0 : frC I I0 := fun t o j q => by rw [hI0, kw_at _ _ (by omega), kw_at _ _ (by omega)]
  have hTP : TP I0 z T := ⟨by rw [f0 _ _ _ (by omega), t1], by omega, fun k hk => by
    rw [f0 _ _ _ (by omega)]
    exact t3 k hk⟩
  have hSI : SI I0 0 (fun _ => 0) (fun _ => 0) := ⟨by rw [hI0, kw_at _ _ (by omega), kw_app, if_pos ⟨rfl, rfl, rfl⟩]; rfl, by rw [hI0, kw_app, if_pos ⟨rfl, rfl, rfl⟩]; rfl, fun i hi => by omega⟩
  have lp := sky_loop J 20 0 0 I0 (fun _ => 0) (fun _ => 0) kfu (by omega) (by omega) (by unfold kfu; omega) hTP hSI (fun i hi => by omega)
  have hA : E_X7_readInto 0 3 I J = G_X7_readInto 0 3 kfu 8 (nI 0) (nI 0) I0 J := by rw [hI0]; rfl
  rcases lp with ⟨x, I', hx, e1, f1, _⟩ | ⟨R, w, ln, I', hR1, hR2, e1, f1, s1, o1, _⟩
  · have f01 := frC_tr f0 f1
    have c1 := cs_X10_sky I J (-300 - nI x, rfC 0 (kw I' 7 0 1 0), J) (by
      unfold E_X10_sky
      rw [kbd_eq (hA.trans e1)]
      dsimp only
      rw [kif_neg (nI_m1' x (by omega)), kif_pos (rC0 _ _).2, (rC0 _ _).1])
    refine ⟨_, _, g, c1, CI_cg h (fun t j a => ?_), fun _ _ _ => rfl⟩
    unfold cwt at a
    show rfC 0 (kw I' 7 0 1 0) t 0 j = I t 0 j
    rw [rfC_at _ _ _ _ (by omega), kw_at _ _ (by omega), f01 _ _ _ (by omega)]
  · have f01 := frC_tr f0 f1
    have g0 : ¬ (0 : Int32) < 0 := by decide
    have p20 : ¬ (20 : Int32) < 0 := by decide
    have c20 : (¬ (0 : Int32) < 0 ∧ ¬ (0 : Int32) < 0 ∧ ¬ (20 : Int32) < 0 ∧ ((0 : Int32)).toNatClampNeg + ((20 : Int32)).toNatClampNeg ≤ 20 ∧ ((0 : Int32)).toNatClampNeg + ((20 : Int32)).toNatClampNeg ≤ 20) := ⟨g0, g0, p20, Nat.le_refl 20, Nat.le_refl 20⟩
    have ab := X5_become 0 3 (by omega) (kw I' 7 0 1 0) J
    have b2 : (F_X5_become 0 3 (kw I' 7 0 1 0) J).2 = J := rfl
    obtain ⟨K0, hK0⟩ : ∃ K0, K0 = (F_X5_become 0 3 (kw I' 7 0 1 0) J).1 := ⟨_, rfl⟩
    rw [← hK0] at ab
    have k532 : K0 5 3 2 = nI R := by rw [ab, if_neg (by omega), kw_at _ _ (by omega), s1.1]
    have c1 := cs_X10_sky I J (nI R, K0, J) (by
      unfold E_X10_sky
      rw [kbd_eq (hA.trans e1)]
      dsimp only
      rw [kif_pos rfl, kif_pos (show pre_X5_become 0 3 (kw I' 7 0 1 0) J from ⟨c20, c20, trivial⟩), b2, ← hK0, k532])
    have k0 : ∀ t o j, ¬ (t = 7 ∧ j = 1) → ¬ ((o = 3 ∨ o = 0) ∧ (t = 5 ∨ t = 35 ∨ t = 36)) → K0 t o j = I t o j := fun t o j q2 q3 => by
      rw [ab, if_neg (by omega), kw_at _ _ (by omega), f01 _ _ _ (by omega)]
    have hcs : CS K0 0 (skG g R (bufF w ln) (2 * R)) := by
      refine CS_sky h1 h2.1 hR2 o1 (fun t j a b c d => ?_) ?_ ?_ (fun i hi => ?_)
      · unfold stT at a
        exact k0 _ _ _ (by omega) (by omega)
      · rw [ab, if_pos (by omega), kw_at _ _ (by omega), s1.1]
      · rw [ab, if_pos (by omega), kw_at _ _ (by omega), s1.2.1]
      · rw [ab, ab, if_pos (by omega), if_pos (by omega), kw_at _ _ (by omega), kw_at _ _ (by omega)]
        exact s1.2.2 i hi
    have hcw : CW K0 0 (skG g R (bufF w ln) (2 * R)) := CW_S h2 hcs (fun t j a => k0 _ _ _ (by omega) (by omega)) (fun j a => skG_ne _ hR2 _ (by omega) (by omega))
    exact ⟨_, _, _, c1, ⟨WG_sky h1 hR2 o1, hcw⟩, fun j a b => skG_ne _ hR2 _ a b⟩
theorem ki_keeper {N : Nat} {I : kI} {g : Nat → Int32} (J : kJ) (h : CI N I g) {r : Nat} (hr : r ≤ 2) (hk6 : nn (g 13) < 6) : ∃ v I', sp_X10_keeper [kx_r 10 0, kx_i (nI r)] (I, J, none) (some (kx_i v)) (I', J, none) ∧ CI N I' (kpG g (nn (g 13)) (nI r)) := by
  have hg := h.1
  have h13 := hg.2.2.1
  have cS := h.2.1
  have ic : I 1 0 5 = g 13 := cS.2.2.2.2.2.2.1
  have z1 : ¬ (1 : Int32) = 0 := by decide
  have w : ¬ (if nI r < 0 then (0 : Int32) else if 2 < nI r then 0 else 1) = 0 := by
    rw [show (if nI r < 0 then (0 : Int32) else if 2 < nI r then 0 else 1) = 1 from in_k (lo := 0) (hi := 2) (by omega) (by omega) hr]
    exact z1
  obtain ⟨k, hk⟩ : ∃ k, k = nn (g 13) := ⟨_, rfl⟩
  rw [← hk] at hk6
  have ek : g 13 = nI k := by rw [hk]; exact h13.1
  have ikn : I 1 0 5 = nI k := ic.trans ek
  have ck : (nI k).toNatClampNeg = k := nI_clamp (by omega)
  have vk : vp_in (nI k) 6 := vl k 6 (by omega) (by omega)
  have el : ∀ I J, F_X1_lastsIn (nI r) I J = 12 - 3 * nI r := fun I J => by
    unfold F_X1_lastsIn
    simp only [kif_eq]
    have c : r = 0 ∨ r = 1 ∨ r = 2 := by omega
    rcases c with rfl | rfl | rfl <;> decide
  have eF : F_X1_isFull 0 I J = 0 := by
    unfold F_X1_isFull
    rw [ikn, kif_pos]
    show nI k < nI 6
    rw [i_lt (by omega) (by omega)]
    omega
  have n1 : ∀ (K : kI) (t : Nat) (v : Int32), K 1 0 5 = nI k → 20 ≤ t → (kw K t 0 k v) 1 0 5 = nI k := fun K t v hK ht => by rw [kw_at _ _ (by omega), hK]
  obtain ⟨m, hm⟩ : ∃ m, kfu = m + 1 := ⟨kfu - 1, by unfold kfu; omega⟩
  have eh : E_X1_hire 0 (nI r) I J = some (nI k, kpC I k (nI r) (12 - 3 * nI r), J) := by
    unfold E_X1_hire
    have b1 := n1 I 20 (nI r) ikn (by omega)
    have b2 := n1 _ 21 (12 - 3 * nI r) b1 (by omega)
    have b3 := n1 _ 22 0 b2 (by omega)
    have b4 := n1 _ 23 0 b3 (by omega)
    have b5 := n1 _ 24 0 b4 (by omega)
    rw [eF, kif_pos rfl, ikn, ck, b1, ck, el, b2, ck, b3, ck, kif_pos vk, kif_pos vk, kif_pos vk, kif_pos vk, hm, G_X1_hire_52, b4, kif_pos vk, ck, b5]
    have e6 : ∀ K : kI, kw K 1 0 5 (nI k + 1) = kw K 1 0 5 (nI (k + 1)) := fun K => by rw [nI_1]
    rw [e6]
    have e7 : kw (kw (kw (kw (kw (kw I 20 0 k (nI r)) 21 0 k (12 - 3 * nI r)) 22 0 k 0) 23 0 k 0) 24 0 k 0) 1 0 5 (nI (k + 1)) = kpC I k (nI r) (12 - 3 * nI r) := rfl
    have e8 : nI (k + 1) - 1 = nI k := by
      have q : nI (k + 1) - nI 1 = nI (k + 1 - 1) := pk_sub (by omega)
      exact q
    rw [e7, (kpC_k _ _ _ _).2.2.2.2.2, e8]
  have c1 := cs_X10_keeper (nI r) I J _ (by unfold E_X10_keeper; rw [F_within, kif_neg w, eF, kif_pos rfl, kbd_eq eh])
  have hcs := CS_keeper hg cS (by omega) (nI r)
  have hwg := WG_keeper hg (by omega) (nI r)
  rw [← hk] at hcs hwg ⊢
  refine ⟨_, _, c1, hwg, CW_S h.2 hcs (fun t j q => ?_) (fun j q => kpG_ne _ _ _ (by omega) (by omega))⟩
  exact kpC_ne _ _ _ _ (by omega)
theorem kj_pair {I : kI} {g : Nat → Int32} {t s x : Nat} {v : Int32} {t' s' x' : Nat} (hi : (t' = t ∧ s' = s) ↔ x' = x) (e : I t' 0 s' = g x') : kw I t 0 s v t' 0 s' = upd g x v x' := by
  rw [kw_app, upd_app]
  by_cases q : x' = x
  · rw [if_pos q, if_pos ⟨(hi.mpr q).1, rfl, (hi.mpr q).2⟩]
  · rw [if_neg q, if_neg (fun z => q (hi.mp ⟨z.1, z.2.2⟩)), e]
theorem CI_kk {N : Nat} {I : kI} {g : Nat → Int32} (h : CI N I g) {t s x : Nat} (v : Int32) (hm : kkm t s x) (hP : WP (upd g x v)) (hO : WO (upd g x v)) : CI N (kw I t 0 s v) (upd g x v) := by
  have hg := h.1
  have hc := h.2
  unfold kkm at hm
  refine ⟨WG_sc hg (fun j h1 h2 h3 => by rw [upd_app, if_neg (by omega)]) (by rw [upd_app, if_neg (by omega)]) hP hO, ?_⟩
  refine CW_sc hg hc (fun t j h1 h2 h3 h4 h5 => by unfold cwt at h1; exact kw_at _ _ (by omega)) (fun j h1 h2 h3 => by rw [upd_app, if_neg (by omega)]) (fun j hj => ?_) (fun j hj => ?_) ?_ (fun i hi => ?_) ?_ ?_ ?_
  · exact kj_pair (by omega) (hc.1.1 j hj)
  · exact kj_pair (by omega) (hc.1.2.1 j hj)
  · exact kj_pair (by omega) hc.1.2.2.1
  · exact kj_pair (by omega) (hc.1.2.2.2.2.2.2.2.2 i hi)
  · exact kj_pair (by omega) hc.2.2.2.1
  · exact kj_pair (by omega) hc.2.2.2.2.1
  · exact kj_pair (by omega) hc.2.2.2.2.2
theorem ki_plan {N : Nat} {I : kI} {g : Nat → Int32} (J : kJ) (h : CI N I g) {i : Nat} (hi : i < 24) (v : Int32) (hv : v = -1 ∨ ∃ j, j < nn (g 13) ∧ v = nI j) : ∃ x I', sp_X10_plan [kx_r 10 0, kx_i (nI i), kx_i v] (I, J, none) (some (kx_i x)) (I', J, none) ∧ CI N I' (upd g (85 + i) v) := by
  have hg := h.1
  have hO := hg.2.2.2.2.2.2.1
  have hP := hg.2.2.2.2.2.1
  have h13 := hg.2.2.1
  have h132 := h13.2
  have ic : I 1 0 5 = g 13 := h.2.1.2.2.2.2.2.2.1
  have z1 : ¬ (1 : Int32) = 0 := by decide
  have w1 : (if nI i < 0 then (0 : Int32) else if 23 < nI i then 0 else 1) = 1 := in_k (lo := 0) (hi := 23) (by omega) (by omega) (by omega)
  have pk : pre_X10_isHourOfDay (nI i) I J := by unfold pre_X10_isHourOfDay; rw [F_within]; exact in_01 _ _ _
  have eh1 : F_X10_isHourOfDay (nI i) I J = 1 := by unfold F_X10_isHourOfDay; rw [F_within, w1]
  have hm : kkm 37 i (85 + i) := Or.inr (Or.inr ⟨rfl, by omega, rfl⟩)
  have vi : vp_in (nI i) 24 := vl i 24 (by omega) (by omega)
  have ci : (nI i).toNatClampNeg = i := nI_clamp (by omega)
  have b1 : F_X10_isKeeperOrNone v I J = 1 := by
    unfold F_X10_isKeeperOrNone
    by_cases qv : v = -1
    · rw [kif_pos qv]
    · obtain ⟨j, hj, rfl⟩ := hv.resolve_left qv
      rw [kif_neg qv, has1_W, ic, hasW_k h13 (by omega) hj, kif_neg z1]
  have c1 := cs_X10_plan (nI i) v I J (by
    unfold pre_X10_plan pre_X6_planned pre_X6_assign
    rw [eh1, kif_neg z1, b1, kif_neg z1, kif_neg z1]
    exact ⟨pk, ⟨pk, vi, trivial⟩, ⟨pk, vi, trivial⟩, trivial⟩)
  have e : F_X10_plan (nI i) v I J = (I 37 0 i, kw I 37 0 i v, J) := by
    unfold F_X10_plan F_X6_planned F_X6_assign
    rw [eh1, kif_neg z1, b1, kif_neg z1, kif_neg z1, kif_neg z1, ci]
  rw [e] at c1
  refine ⟨_, _, c1, CI_kk h v hm (fun x hx => ?_) (WO_upd hO (by omega))⟩
  rw [upd_app, upd_app, if_neg (show ¬ 13 = 85 + i by omega)]
  by_cases z : 85 + x = 85 + i
  · rw [if_pos z]; exact hv
  · rw [if_neg z]; exact hP x hx
theorem ki_tell {N : Nat} {I : kI} {g : Nat → Int32} (J : kJ) (h : CI N I g) {x : Nat} (hx : x < 5) {y : Nat} (hy : (x = 0 ∧ y ≤ 12) ∨ (x = 1 ∧ 13 ≤ y ∧ y ≤ 24) ∨ (x = 2 ∧ 1 ≤ y ∧ y ≤ 4) ∨ (3 ≤ x ∧ y ≤ 9999)) : ∃ w I', sp_X10_tell [kx_r 10 0, kx_i (nI x), kx_i (nI y)] (I, J, none) (some (kx_i w)) (I', J, none) ∧ CI N I' (upd g (1 + x) (nI y)) := by
  have hO := h.1.2.2.2.2.2.2.1
  have hP := h.1.2.2.2.2.2.1
  have z1 : ¬ (1 : Int32) = 0 := by decide
  have ne : ∀ {a b : Nat}, a < 5 → b < 5 → ¬ a = b → ¬ nI a = nI b := fun ha hb q z => q (nI_inj (by omega) (by omega) z)
  have b1 : F_X10_mayBeTold (nI x) (nI y) I J = 1 ∧ pre_X10_mayBeTold (nI x) (nI y) I J ∧ (F_X10_mayBeTold (nI x) (nI y) I J = 1 → F_X10_tell (nI x) (nI y) I J = (I 6 0 (5 + x), kw I 6 0 (5 + x) (nI y), J)) ∧ WO (upd g (1 + x) (nI y)) := by
    unfold F_X10_tell
    refine ⟨?_, ?_, ?_, ?_⟩
    · unfold F_X10_mayBeTold
      rcases hy with ⟨rfl, a⟩ | ⟨rfl, a, b⟩ | ⟨rfl, a, b⟩ | ⟨a, b⟩
      · rw [kif_pos (show nI 0 = 0 from rfl), F_within]; exact in_k (lo := 0) (hi := 12) (by omega) (by omega) a
      · rw [kif_neg (show ¬ nI 1 = 0 by decide), kif_pos (show nI 1 = 1 from rfl), F_within]; exact in_k (lo := 13) (hi := 24) (by omega) a b
      · rw [kif_neg (show ¬ nI 2 = 0 by decide), kif_neg (show ¬ nI 2 = 1 by decide), kif_pos (show nI 2 = 2 from rfl), F_within]; exact in_k (lo := 1) (hi := 4) (by omega) a b
      · have c : x = 3 ∨ x = 4 := by omega
        rcases c with rfl | rfl
        · rw [kif_neg (show ¬ nI 3 = 0 by decide), kif_neg (show ¬ nI 3 = 1 by decide), kif_neg (show ¬ nI 3 = 2 by decide), kif_pos (show nI 3 = 3 from rfl), F_within]; exact in_k (lo := 0) (hi := 9999) (by omega) (by omega) b
        · rw [kif_neg (show ¬ nI 4 = 0 by decide), kif_neg (show ¬ nI 4 = 1 by decide), kif_neg (show ¬ nI 4 = 2 by decide), kif_neg (show ¬ nI 4 = 3 by decide), kif_pos (show nI 4 = 4 from rfl), F_within]; exact in_k (lo := 0) (hi := 9999) (by omega) (by omega) b
    · unfold pre_X10_mayBeTold
      rw [F_within, F_within, F_within, F_within]
      simp only [kif_eq]
      repeat' split
      all_goals first | exact in_01 _ _ _ | trivial
    · intro b
      rw [b, kif_neg z1]
      have c : x = 0 ∨ x = 1 ∨ x = 2 ∨ x = 3 ∨ x = 4 := by omega
      rcases c with rfl | rfl | rfl | rfl | rfl
      · rw [kif_pos (show nI 0 = 0 from rfl)]
      · rw [kif_neg (show ¬ nI 1 = 0 by decide), kif_pos (show nI 1 = 1 from rfl)]
      · rw [kif_neg (show ¬ nI 2 = 0 by decide), kif_neg (show ¬ nI 2 = 1 by decide), kif_pos (show nI 2 = 2 from rfl)]
      · rw [kif_neg (show ¬ nI 3 = 0 by decide), kif_neg (show ¬ nI 3 = 1 by decide), kif_neg (show ¬ nI 3 = 2 by decide), kif_pos (show nI 3 = 3 from rfl)]
      · rw [kif_neg (show ¬ nI 4 = 0 by decide), kif_neg (show ¬ nI 4 = 1 by decide), kif_neg (show ¬ nI 4 = 2 by decide), kif_neg (show ¬ nI 4 = 3 by decide)]
    · rcases hy with ⟨rfl, a⟩ | ⟨rfl, a, b⟩ | ⟨rfl, a, b⟩ | ⟨a, b⟩
      · exact hO
      · exact hO
      · exact ⟨rg_nI (n := y) b (by omega), by show 1 ≤ nn (nI y); rw [nn_nI (by omega)]; exact a, hO.2.2⟩
      · have c : x = 3 ∨ x = 4 := by omega
        rcases c with rfl | rfl
        · exact ⟨hO.1, hO.2.1, rg_nI (n := y) b (by omega), hO.2.2.2⟩
        · exact ⟨hO.1, hO.2.1, hO.2.2.1, rg_nI (n := y) b (by omega), hO.2.2.2.2⟩
  have hm : kkm 6 (5 + x) (1 + x) := Or.inl ⟨rfl, by omega, by omega, by omega⟩
  have c1 := cs_X10_tell (nI x) (nI y) I J (by unfold pre_X10_tell; rw [b1.1, kif_neg z1]; exact ⟨b1.2.1, trivial⟩)
  rw [b1.2.2.1 b1.1] at c1
  exact ⟨_, _, c1, CI_kk h (nI y) hm (WP_upd hP (by omega) (by omega)) b1.2.2.2⟩
theorem ki_ship {N : Nat} {I : kI} {g : Nat → Int32} (J : kJ) (h : CI N I g) {k hh : Nat} (hk3 : 3 ≤ k) (hk7 : k ≤ 7) (h1 : nn (g 0) ≤ hh) (h2 : hh ≤ nn (g 0) + 999) (hN : N < 900000) (hlt : nn (g 14) < 200) : ∃ w I', sp_X10_ship [kx_r 10 0, kx_i (nI k), kx_i (nI hh)] (I, J, none) (some (kx_i w)) (I', J, none) ∧ CI N I' (shG g k hh) := by
  have hg := h.1
  have hc := h.2
  have h0 := hg.1
  have h02 := h0.2
  have h14 := hg.2.2.2.1
  have h142 := h14.2
  have i4 : I 6 0 4 = g 0 := hc.1.1 0 (by omega)
  have i25 : I 2 0 5 = g 14 := by
    obtain ⟨p, hF, _⟩ := hc.2.1
    rw [hF.2.1, ← h14.1]
  have z1 : ¬ (1 : Int32) = 0 := by decide
  have w : ¬ (if nI k < 3 then (0 : Int32) else if 7 < nI k then 0 else 1) = 0 := by
    rw [show (if nI k < 3 then (0 : Int32) else if 7 < nI k then 0 else 1) = 1 from in_k (lo := 3) (hi := 7) (by omega) hk3 hk7]
    exact z1
  have e999 : I 6 0 4 + 999 = nI (nn (g 0) + 999) := by
    rw [i4]
    have q : nI (nn (g 0)) + nI 999 = nI (nn (g 0) + 999) := nI_add _ _
    rw [← h0.1] at q
    exact q
  have e4 : I 6 0 4 = nI (nn (g 0)) := by rw [i4]; exact h0.1
  have w2 : ¬ (if nI hh < I 6 0 4 then (0 : Int32) else if I 6 0 4 + 999 < nI hh then 0 else 1) = 0 := by
    rw [e999, e4, show (if nI hh < nI (nn (g 0)) then (0 : Int32) else if nI (nn (g 0) + 999) < nI hh then 0 else 1) = 1 from in_k (by omega) h1 h2]
    exact z1
  have eF : F_X2_isFull 0 I J = 0 := by
    unfold F_X2_isFull
    rw [i25, h14.1, kif_pos]
    show nI _ < nI 200
    rw [i_lt (by omega) (by omega)]
    omega
  obtain ⟨I1, e1, d1, f1⟩ := X_expect J hg hc (k := k) (h := hh) hk3 hk7 (by omega) (by omega)
  have c1 := cs_X10_ship (nI k) (nI hh) I J _ (by unfold E_X10_ship; rw [F_within (nI k), kif_neg w, F_within (nI hh), kif_neg w2, eF, kif_pos rfl, kbd_eq e1])
  exact ⟨_, _, c1, WG_ship hg hk3 hk7 h1 (by omega) hlt, d1⟩

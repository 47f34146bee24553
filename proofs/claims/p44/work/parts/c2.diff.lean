/-! shipAt, differences -/
theorem place_no {I : kI} {o c : Nat} (hc : c ≤ 200) (hI : I 2 o 5 = nI c) (h : Int32) {a : Nat} (ha : c ≤ a) (h31 : a < 2147483648) (J : kJ) : F_X2_isPlaceOf o h (nI a) I J = 0 ∧ pre_X2_isPlaceOf o h (nI a) I J := by
  have e1 := F_placed0 hc hI ha h31 J
  unfold F_X2_isPlaceOf pre_X2_isPlaceOf
  rw [e1.1, F_has2m, kif_pos rfl, kif_pos rfl]
  exact ⟨rfl, e1.2, trivial⟩
theorem getMap {p : Nat → Nat} {f n b : Nat} : ((List.range' f n).map p)[b]? = if b < n then some (p (f + b)) else none := by
  by_cases q : b < n
  · rw [List.getElem?_map, List.getElem?_range' q, if_pos q, Nat.one_mul]
    rfl
  · rw [if_neg q, List.getElem?_eq_none]
    rw [List.length_map, List.length_range']
    omega
theorem first2 {I : kI} {o c : Nat} {kd hr p : Nat → Nat} (hF : FL I o c kd hr p) (h : Nat) (hh : h < 2147483647) (J : kJ) {f : Nat} (h1 : ∀ a, a < f → hr (p a) < h) (h2 : ∀ a, f ≤ a → a < c → h ≤ hr (p a)) (hf : f ≤ c) : ∃ f2, f ≤ f2 ∧ f2 ≤ c ∧ (∀ a, a < f2 → hr (p a) < h + 1) ∧ (∀ a, f2 ≤ a → a < c → h + 1 ≤ hr (p a)) := by
  obtain ⟨f2, hf2, _, h3, h4⟩ := E_firstPlaceOf hF (h + 1) (by omega) J
  refine ⟨f2, ?_, hf2, h3, h4⟩
  by_cases q : f ≤ f2
  · exact q
  · have a1 := h1 f2 (by omega)
    have a2 := h4 f2 (Nat.le_refl _) (by omega)
    omega
theorem rk_empty {g : Nat → Int32} {c : Nat} {kd hr : Nat → Nat} (hg : GF g c kd hr) {h : Nat} (hh : h < 2147483648) (hb : ∀ s, s < c → ¬ hr s = h) : rkK g (nI h) c 5 = [] := by
  rw [List.eq_nil_iff_forall_not_mem]
  intro s hs
  have q := (rkK_mem2 hg h hh s 5 (Nat.le_refl _)).mp hs
  exact hb s q.1 q.2.1
theorem mm_shipAt {N : Nat} {I : kI} {J : kJ} (h : Inv N I J) (a b : Int32) : MM sp_X10_shipAt sp_X11_shipAt [kx_i a, kx_i b] N I J := by
  have hg := h.1
  have hGF := WG_GF hg
  have h14 := hg.2.2.2.1
  have h142 := h14.2
  have hK := hg.2.2.2.2.2.2.2.1
  obtain ⟨p, hF, hfm⟩ := h.2.1.2.1
  have z1 : ¬ (1 : Int32) = 0 := by decide
  by_cases q : 0 ≤ a
  · obtain ⟨k, hk, rfl⟩ := ge0 q
    obtain ⟨f, hf, ef, h1, h2⟩ := E_firstPlaceOf hF k hk J
    have yes : ∀ v, E_X10_shipAt (nI k) b I J = some (v, I, J) → E_X11_shipAt (nI k) b I J = some (v, I, J) → MM sp_X10_shipAt sp_X11_shipAt [kx_i (nI k), kx_i b] N I J := fun v e1 e2 => by
      have c1 := cs_X10_shipAt _ _ _ _ _ e1
      have c2 := cs_X11_shipAt _ _ _ _ _ e2
      exact MM_f c1 rfl c2 rfl (Inv_mono h (by omega))
    by_cases b0 : b < 0
    · refine yes (-1) ?_ ?_
      · unfold E_X10_shipAt
        rw [kif_pos q, kbd_eq ef, F_within, if_pos b0, kif_pos rfl]
      · unfold E_X11_shipAt
        rw [kif_pos q, kif_neg (Int32.not_le.mpr b0)]
    · have b0' := Int32.not_lt.mp b0
      obtain ⟨i, hi, rfl⟩ := ge0 b0'
      have er := E_rankedAt (nI k) i hi I J h142 h14.1
      have ll := rkK_len (I 41 0) (nI k) (nn (I 41 0 14)) 5
      by_cases i200 : i ≤ 200
      · have w : (if nI i < 0 then (0 : Int32) else if 200 < nI i then 0 else 1) = 1 := in_k (lo := 0) (hi := 200) (by omega) (by omega) i200
        by_cases fc : f + i < nn (I 41 0 14)
        · have ep := F_isPlace hF k hk fc J
          have es := F_placed h142 hF.2.1 fc J
          have pc := hF.2.2.2.1 _ fc
          by_cases hq : gh (I 41 0) (p (f + i)) = k
          · rw [if_pos hq] at ep
            have hb : k ≤ 1000000 := by
              have := (hK _ pc.2).2.2.2
              unfold gh at hq
              omega
            obtain ⟨f2, a1, a2, h3, h4⟩ := first2 hF k (by omega) J h1 h2 hf
            have hl := rk_places hF hGF k (by omega) a2 h1 h2 h3 h4
            have lt : i < f2 - f := by
              by_cases z : f + i < f2
              · omega
              · have := h4 (f + i) (by omega) fc
                omega
            have ra : rkA (rkK (I 41 0) (nI k) (nn (I 41 0 14)) 5) i = nI (p (f + i)) := rkA_lt (by rw [hl, getMap, if_pos lt])
            refine yes (nI (p (f + i))) ?_ ?_
            · unfold E_X10_shipAt
              rw [kif_pos q, kbd_eq ef, F_within, w, kif_neg z1, nI_add, kif_pos ep.2, ep.1, kif_neg z1, kif_pos es.2, es.1, pc.1]
            · unfold E_X11_shipAt
              rw [kif_pos q, kif_pos b0', kbd_eq er, ra]
          · rw [if_neg hq] at ep
            have ra : rkA (rkK (I 41 0) (nI k) (nn (I 41 0 14)) 5) i = -1 := by
              by_cases hb : k < 2147483647
              · obtain ⟨f2, a1, a2, h3, h4⟩ := first2 hF k hb J h1 h2 hf
                have hl := rk_places hF hGF k (by omega) a2 h1 h2 h3 h4
                have lt : ¬ i < f2 - f := fun z => by
                  have x1 := h3 (f + i) (by omega)
                  have x2 := h2 (f + i) (by omega) fc
                  omega
                exact rkA_no (by rw [hl, getMap, if_neg lt])
              · have he := rk_empty hGF hk (fun s hs z => by
                  have := (hK s hs).2.2.2
                  unfold gh at z
                  omega)
                rw [he]
                exact rkA_no rfl
            refine yes (-1) ?_ ?_
            · unfold E_X10_shipAt
              rw [kif_pos q, kbd_eq ef, F_within, w, kif_neg z1, nI_add, kif_pos ep.2, ep.1, kif_pos rfl]
            · unfold E_X11_shipAt
              rw [kif_pos q, kif_pos b0', kbd_eq er, ra]
        · have ep := place_no h142 hF.2.1 (nI k) (a := f + i) (by omega) (by omega) J
          have ra : rkA (rkK (I 41 0) (nI k) (nn (I 41 0 14)) 5) i = -1 := by
            by_cases hb : k < 2147483647
            · obtain ⟨f2, a1, a2, h3, h4⟩ := first2 hF k hb J h1 h2 hf
              have hl := rk_places hF hGF k (by omega) a2 h1 h2 h3 h4
              exact rkA_no (by rw [hl, getMap, if_neg (by omega)])
            · have he := rk_empty hGF hk (fun s hs z => by
                have := (hK s hs).2.2.2
                unfold gh at z
                omega)
              rw [he]
              exact rkA_no rfl
          refine yes (-1) ?_ ?_
          · unfold E_X10_shipAt
            rw [kif_pos q, kbd_eq ef, F_within, w, kif_neg z1, nI_add, kif_pos ep.2, ep.1, kif_pos rfl]
          · unfold E_X11_shipAt
            rw [kif_pos q, kif_pos b0', kbd_eq er, ra]
      · have w : (if nI i < 0 then (0 : Int32) else if 200 < nI i then 0 else 1) = 0 := by
          rw [if_neg b0, if_pos]
          show nI 200 < nI i
          rw [i_lt (by omega) (by omega)]
          omega
        have ra : rkA (rkK (I 41 0) (nI k) (nn (I 41 0 14)) 5) i = -1 := by
          by_cases hb : k < 2147483647
          · obtain ⟨f2, a1, a2, h3, h4⟩ := first2 hF k hb J h1 h2 hf
            have hl := rk_places hF hGF k (by omega) a2 h1 h2 h3 h4
            exact rkA_no (by rw [hl, getMap, if_neg (by omega)])
          · have he := rk_empty hGF hk (fun s hs z => by
              have := (hK s hs).2.2.2
              unfold gh at z
              omega)
            rw [he]
            exact rkA_no rfl
        refine yes (-1) ?_ ?_
        · unfold E_X10_shipAt
          rw [kif_pos q, kbd_eq ef, F_within, w, kif_pos rfl]
        · unfold E_X11_shipAt
          rw [kif_pos q, kif_pos b0', kbd_eq er, ra]
  · have c1 := cs_X10_shipAt a b I J (-102, rfC 0 I, J) (by unfold E_X10_shipAt; rw [kif_neg q, kif_pos (rC0 I J).2, (rC0 I J).1])
    have c2 := cs_X11_shipAt a b (rfC 0 I) J (-102, rfM 0 (rfC 0 I), J) (by unfold E_X11_shipAt; rw [kif_neg q, kif_pos (rM0 _ J).2, (rM0 _ J).1])
    exact ref_both h c1 rfl c2 rfl
/-! the ship against an entry -/
noncomputable def saL (met : Nat → Int32) (sort : Int32) : List Nat → Int32
  | [] => -1
  | s :: l => kif ((met s &&& 1 = 1 ∧ sort = 2) ∨ (¬ met s &&& 1 = 1 ∧ sort = 1)) (nI s) (saL met sort l)
theorem saL_v (met : Nat → Int32) (sort : Int32) : ∀ l : List Nat, saL met sort l = -1 ∨ ∃ s, s ∈ l ∧ saL met sort l = nI s := by
  intro l
  induction l with
  | nil => exact Or.inl rfl
  | cons s l ih =>
    rw [saL]
    by_cases q : (met s &&& 1 = 1 ∧ sort = 2) ∨ (¬ met s &&& 1 = 1 ∧ sort = 1)
    · rw [kif_pos q]
      exact Or.inr ⟨s, List.mem_cons_self, rfl⟩
    · rw [kif_neg q]
      rcases ih with e | ⟨x, hx, e⟩
      · exact Or.inl e
      · exact Or.inr ⟨x, List.mem_cons_of_mem _ hx, e⟩
noncomputable def sa (g : Nat → Int32) (e : Nat) : Int32 := kif (g (909 + 4 * e + 1) = 1 ∨ g (909 + 4 * e + 1) = 2) (saL (fun s => g (109 + 4 * s + 3)) (g (909 + 4 * e + 1)) (rkK g (g (909 + 4 * e)) (nn (g 14)) 5)) (-1)
theorem sa_v {g : Nat → Int32} {N : Nat} (hg : WG g N) (e : Nat) : (sa g e = -1 ∧ sa g e < 0) ∨ (¬ sa g e = -1 ∧ ¬ sa g e < 0) := by
  have h142 := hg.2.2.2.1.2
  unfold sa
  by_cases q : g (909 + 4 * e + 1) = 1 ∨ g (909 + 4 * e + 1) = 2
  · rw [kif_pos q]
    rcases saL_v (fun s => g (109 + 4 * s + 3)) (g (909 + 4 * e + 1)) (rkK g (g (909 + 4 * e)) (nn (g 14)) 5) with y | ⟨s, hs, y⟩
    · rw [y]
      exact Or.inl ⟨rfl, by decide⟩
    · have hs2 := ((rkK_mem g _ _ s 5).mp hs).1
      rw [y]
      exact Or.inr ⟨nI_m1' s (by omega), i_nlt0 s (by omega)⟩
  · rw [kif_neg q]
    exact Or.inl ⟨rfl, by decide⟩
theorem g_againstC {I : kI} {c : Nat} {kd hr p : Nat → Nat} (hF : FL I 0 c kd hr p) (met : Nat → Int32) (hm : ∀ s, s < c → I 28 0 s = met s) (a0 sort : Int32) (hs : sort = 1 ∨ sort = 2) (h : Nat) (hh : h < 2147483647) (J : kJ) {f f2 : Nat} (hf : f2 ≤ c) (h2 : ∀ a, f ≤ a → a < c → h ≤ hr (p a)) (h3 : ∀ a, a < f2 → hr (p a) < h + 1) (h4 : ∀ a, f2 ≤ a → a < c → h + 1 ≤ hr (p a)) : ∀ n a m, f ≤ a → a + n = f2 → n + 1 ≤ m → G_X9_shipAgainst 0 a0 m 44 sort (nI h) (nI a) I J = some (saL met sort ((List.range' a n).map p)) := by
  have hc := hF.1
  have z10 : ¬ (1 : Int32) = 0 := by decide
  have z01 : ¬ (0 : Int32) = 1 := by decide
  have z12 : ¬ (1 : Int32) = 2 := by decide
  have z21 : ¬ (2 : Int32) = 1 := by decide
  intro n
  induction n with
  | zero =>
    intro a m hfa hn hm'
    obtain ⟨m, rfl⟩ : ∃ m', m = m' + 1 := ⟨m - 1, by omega⟩
    rw [G_X9_shipAgainst_44, hF.2.1]
    by_cases ha : a < c
    · have e := F_isPlace hF h (by omega) ha J
      have q := h4 a (by omega) ha
      rw [if_neg (by omega)] at e
      rw [kif_neg (by rw [i_le (by omega) (by omega)]; omega), kif_pos e.2, kif_pos e.1]
      rfl
    · rw [kif_pos (by rw [i_le (by omega) (by omega)]; omega)]
      rfl
  | succ n ih =>
    intro a m hfa hn hm'
    obtain ⟨m, rfl⟩ : ∃ m', m = m' + 1 := ⟨m - 1, by omega⟩
    have ha : a < c := by omega
    have e := F_isPlace hF h (by omega) ha J
    have q := h2 a hfa ha
    have q2 := h3 a (by omega)
    rw [if_pos (by omega)] at e
    have e1 := F_placed hc hF.2.1 ha J
    have ep := hF.2.2.2.1 a ha
    have em := F_metOf2 hc hF.2.1 ep.2 J
    rw [hm _ ep.2] at em
    have nx := ih (a + 1) m (by omega) (by omega) (by omega)
    rw [← nI_1] at nx
    rw [G_X9_shipAgainst_44, hF.2.1, kif_neg (by rw [i_le (by omega) (by omega)]; omega), kif_pos e.2, kif_neg (by rw [e.1]; decide), kif_pos e1.2, e1.1, ep.1, kif_pos em.2, em.1, List.range'_succ, List.map_cons, saL]
    by_cases y : met (p a) &&& 1 = 1
    · rw [kif_pos y]
      rcases hs with hs | hs
      · rw [kif_pos hs, kif_pos rfl, kif_neg (fun z => by
          rcases z with z | z
          · exact z12 (hs.symm.trans z.2)
          · exact z.1 y)]
        exact nx
      · rw [kif_neg (fun z => z21 (hs.symm.trans z)), kif_neg z10, kif_pos (Or.inl ⟨y, hs⟩)]
    · rw [kif_neg y]
      rcases hs with hs | hs
      · rw [kif_pos hs, kif_neg z01, kif_pos (Or.inr ⟨y, hs⟩)]
      · rw [kif_neg (fun z => z21 (hs.symm.trans z)), kif_pos rfl, kif_neg (fun z => by
          rcases z with z | z
          · exact y z.1
          · exact z21 (hs.symm.trans z.2))]
        exact nx
theorem C_against {I : kI} {g : Nat → Int32} {N : Nat} (hN : N < 1000000) (hg : WG g N) (hc : CW I 0 g) (J : kJ) {e : Nat} (he : e < nn (g 15)) : E_X9_shipAgainst 0 (nI e) I J = some (sa g e) := by
  have hGF := WG_GF hg
  have hL := hg.2.2.2.2.2.2.2.2.2
  have hL2 := hL.1.2
  obtain ⟨l1, l2, l3, l4⟩ := hL.2 e he
  have h0 := hg.1.2
  obtain ⟨p, hF, hfm⟩ := hc.2.1
  have cL := hc.2.2.1
  have ce := cL.2 e he
  have z1 : ¬ (1 : Int32) = 0 := by decide
  have ci : (nI e).toNatClampNeg = e := nI_clamp (by omega)
  have eh : F_X3_has 0 (nI e) I J = 1 := by rw [has3_W, cL.1]; exact hasW_k hL.1 (by omega) he
  have es : F_X3_sortOf 0 (nI e) I J = g (909 + 4 * e + 1) ∧ pre_X3_sortOf 0 (nI e) I J := by
    unfold F_X3_sortOf pre_X3_sortOf
    rw [eh, kif_neg z1, kif_neg z1, ci, ce.2.1]
    exact ⟨rfl, vl _ 400 (by omega) (by omega), trivial⟩
  have ehr : F_X3_hourOf 0 (nI e) I J = g (909 + 4 * e) ∧ pre_X3_hourOf 0 (nI e) I J := by
    unfold F_X3_hourOf pre_X3_hourOf
    rw [eh, kif_neg z1, kif_neg z1, ci, ce.1]
    exact ⟨rfl, vl _ 400 (by omega) (by omega), trivial⟩
  have eg := l1.1
  have l12 := l1.2
  obtain ⟨f, hf, ef, h1, h2⟩ := E_firstPlaceOf hF (nn (g (909 + 4 * e))) (by omega) J
  obtain ⟨f2, a1, a2, h3, h4⟩ := first2 hF (nn (g (909 + 4 * e))) (by omega) J h1 h2 hf
  have hl := rk_places hF hGF (nn (g (909 + 4 * e))) (by omega) a2 h1 h2 h3 h4
  have go : ∀ sort, sort = 1 ∨ sort = 2 → G_X9_shipAgainst 0 (nI e) kfu 44 sort (g (909 + 4 * e)) (nI f) I J = some (saL (fun s => g (109 + 4 * s + 3)) sort (rkK g (g (909 + 4 * e)) (nn (g 14)) 5)) := fun sort hs => by
    have z := g_againstC hF (fun s => g (109 + 4 * s + 3)) (fun s hs => (hfm s hs).2) (nI e) sort hs (nn (g (909 + 4 * e))) (by omega) J a2 h2 h3 h4 (f2 - f) f kfu (Nat.le_refl _) (by omega) (by have := hF.1; unfold kfu; omega)
    rw [← hl, ← eg] at z
    exact z
  rw [← eg] at ef
  unfold E_X9_shipAgainst sa
  rw [kif_pos es.2, es.1]
  by_cases s1 : g (909 + 4 * e + 1) = 1
  · rw [kif_pos s1, kif_pos ehr.2, ehr.1, kbd_eq ef, kif_pos (Or.inl s1)]
    exact go _ (Or.inl s1)
  · rw [kif_neg s1]
    by_cases s2 : g (909 + 4 * e + 1) = 2
    · rw [kif_pos s2, kif_pos ehr.2, ehr.1, kbd_eq ef, kif_pos (Or.inr s2)]
      exact go _ (Or.inr s2)
    · rw [kif_neg s2, kif_neg (fun z => z.elim s1 s2)]
theorem g_againstM {I : kI} (J : kJ) {c : Nat} (hc : c ≤ 200) (h14 : I 41 0 14 = nI c) (a0 sort h : Int32) (hs : sort = 1 ∨ sort = 2) (L : List Nat) (hL : rkK (I 41 0) h c 5 = L) (hm : ∀ s, s ∈ L → ¬ I 41 0 (109 + 4 * s + 3) < 0) : ∀ (rest : List Nat) (i m : Nat), L.drop i = rest → i + rest.length < 100000 → rest.length + 1 ≤ m → G_X11_shipAgainst a0 m 38 sort h (nI i) I J = some (saL (fun s => I 41 0 (109 + 4 * s + 3)) sort rest) := by
  have z10 : ¬ (1 : Int32) = 0 := by decide
  have z01 : ¬ (0 : Int32) = 1 := by decide
  have z12 : ¬ (1 : Int32) = 2 := by decide
  have z21 : ¬ (2 : Int32) = 1 := by decide
  intro rest
  induction rest with
  | nil =>
    intro i m hd hi hm'
    obtain ⟨m, rfl⟩ : ∃ m', m = m' + 1 := ⟨m - 1, by omega⟩
    have hno : L[i]? = none := by
      rw [List.getElem?_eq_none_iff]
      exact List.drop_eq_nil_iff.mp hd
    have hr := E_rankedAt h i (by omega) I J hc h14
    rw [hL, rkA_no hno] at hr
    rw [G_X11_shipAgainst_38, kbd_eq hr, kif_pos (by decide)]
    rfl
  | cons s rest ih =>
    intro i m hd hi hm'
    rw [List.length_cons] at hm' hi
    obtain ⟨m, rfl⟩ : ∃ m', m = m' + 1 := ⟨m - 1, by omega⟩
    have hyes : L[i]? = some s := by
      have e : (L.drop i)[0]? = some s := by rw [hd]; rfl
      rw [List.getElem?_drop] at e
      exact e
    have hsL : s ∈ L := List.mem_of_getElem? hyes
    have hsc : s < c := by
      have := hsL
      rw [← hL] at this
      exact ((rkK_mem _ _ _ _ _).mp this).1
    have hr := E_rankedAt h i (by omega) I J hc h14
    rw [hL, rkA_lt hyes] at hr
    have o3 := ofS s 3 I J (by omega) (by omega)
    have p3 : pre_X11_ofShip (nI s) (3 : Int32) I J := o3.2
    have f3 : F_X11_ofShip (nI s) (3 : Int32) I J = I 41 0 (109 + 4 * s + 3) := o3.1
    have hd2 : L.drop (i + 1) = rest := by
      rw [← List.drop_drop, hd]
      rfl
    have nx := ih (i + 1) m hd2 (by omega) (by omega)
    rw [← nI_1] at nx
    have ng := hm s hsL
    rw [G_X11_shipAgainst_38, kbd_eq hr, kif_neg (i_nlt0 s (by omega)), kbd_eq hr, kif_pos p3, f3, saL]
    by_cases y : I 41 0 (109 + 4 * s + 3) &&& 1 = 1
    · rw [kif_pos y, kif_pos p3, kif_neg ng]
      rcases hs with hs | hs
      · rw [kif_neg (fun z => z12 (hs.symm.trans z)), kif_neg z10, kif_neg (fun z => by
          rcases z with z | z
          · exact z12 (hs.symm.trans z.2)
          · exact z.1 y)]
        exact nx
      · rw [kif_pos hs, kif_pos rfl, kif_pos (Or.inl ⟨y, hs⟩)]
    · rw [kif_neg y, kif_pos p3, kif_neg ng]
      rcases hs with hs | hs
      · rw [kif_neg (fun z => z12 (hs.symm.trans z)), kif_pos rfl, kif_pos (Or.inr ⟨y, hs⟩)]
      · rw [kif_pos hs, kif_neg z01, kif_neg (fun z => by
          rcases z with z | z
          · exact y z.1
          · exact z21 (hs.symm.trans z.2))]
        exact nx
theorem R_against {I : kI} {N : Nat} (hN : N < 1000000) (hg : WG (I 41 0) N) (J : kJ) {e : Nat} (he : e < nn (I 41 0 15)) : E_X11_shipAgainst (nI e) I J = some (sa (I 41 0) e) := by
  have hGF := WG_GF hg
  have hL := hg.2.2.2.2.2.2.2.2.2
  have hL2 := hL.1.2
  have h14 := hg.2.2.2.1
  have h142 := h14.2
  have hF := hg.2.2.2.2.2.2.2.2.1
  obtain ⟨l1, l2, l3, l4⟩ := hL.2 e he
  have l12 := l1.2
  have d0 : ((909 : Int32) + 4 * nI e).toNatClampNeg = 909 + 4 * e := ix2c (a := 909) (b := 4) (by omega)
  have w0 : vp_in ((909 : Int32) + 4 * nI e) 2509 := ix2v (a := 909) (b := 4) (by omega) (by omega)
  have d1 : ((909 : Int32) + 4 * nI e + 1).toNatClampNeg = 909 + 4 * e + 1 := ix3c (a := 909) (b := 4) (c := 1) (by omega)
  have w1 : vp_in ((909 : Int32) + 4 * nI e + 1) 2509 := ix3v (a := 909) (b := 4) (c := 1) (by omega) (by omega)
  have le2 : (I 41 0 (909 + 4 * e + 1) ≤ 2) ↔ (I 41 0 (909 + 4 * e + 1) = 1 ∨ I 41 0 (909 + 4 * e + 1) = 2) := by
    have l32 := l3.2
    rw [l3.1]
    constructor
    · intro z
      have z' : nI (nn (I 41 0 (909 + 4 * e + 1))) ≤ nI 2 := z
      rw [i_le (by omega) (by omega)] at z'
      have c : nn (I 41 0 (909 + 4 * e + 1)) = 1 ∨ nn (I 41 0 (909 + 4 * e + 1)) = 2 := by omega
      rcases c with c | c <;> rw [c]
      · exact Or.inl rfl
      · exact Or.inr rfl
    · intro z
      rcases z with z | z <;> rw [z] <;> decide
  unfold E_X11_shipAgainst sa
  rw [kif_pos w1, d1]
  by_cases q : I 41 0 (909 + 4 * e + 1) ≤ 2
  · rw [kif_pos q, kif_pos w0, d0, kif_pos (le2.mp q)]
    have ll := rkK_len (I 41 0) (I 41 0 (909 + 4 * e)) (nn (I 41 0 14)) 5
    refine g_againstM J h142 h14.1 (nI e) _ _ (le2.mp q) _ rfl (fun s hs => ?_) _ 0 kfu rfl (by omega) (by unfold kfu; omega)
    rw [l1.1] at hs
    have hm := (rkK_mem2 hGF (nn (I 41 0 (909 + 4 * e))) (by omega) s 5 (Nat.le_refl _)).mp hs
    have hh : nn (I 41 0 (109 + 4 * s + 1)) = nn (I 41 0 (909 + 4 * e)) := hm.2.1
    exact rg_ge ((hF s hm.1).1 (by omega)).2 (by omega)
  · rw [kif_neg q, kif_neg (fun z => q (le2.mpr z))]
theorem mm_differences {N : Nat} (hN : N < 1000000) {I : kI} {J : kJ} (h : Inv N I J) (a : Int32) : MM sp_X10_differences sp_X11_differences [kx_i a] N I J := by
  have hg := h.1
  have hc := h.2.1
  have h13 := hg.2.2.1
  have hL := hg.2.2.2.2.2.2.2.2.2.1
  have hL2 := hL.2
  have cL := hc.2.2.1
  have ic : I 1 0 5 = I 41 0 13 := hc.1.2.2.2.2.2.2.1
  have z1 : ¬ (1 : Int32) = 0 := by decide
  have l15 : ((15 : Int32)).toNatClampNeg = 15 := rfl
  have v15 : vp_in (15 : Int32) 2509 := vl 15 2509 (by omega) (by omega)
  have loop : ∀ n i acc m, i + n = nn (I 41 0 15) → n + 1 ≤ m → ∃ v, G_X9_countDifferences 0 a m 4 acc (nI i) I J = some v ∧ G_X11_differences a m 24 acc (nI i) I J = some (v, I, J) := by
    intro n
    induction n with
    | zero =>
      intro i acc m hi hm
      obtain ⟨m, rfl⟩ : ∃ m', m = m' + 1 := ⟨m - 1, by omega⟩
      have le : I 41 0 15 ≤ nI i := by rw [hL.1, i_le (by omega) (by omega)]; omega
      refine ⟨acc, ?_, ?_⟩
      · rw [G_X9_countDifferences_4, cL.1, kif_pos le]
      · rw [G_X11_differences_24, kif_pos v15, l15, kif_pos le]
    | succ n ih =>
      intro i acc m hi hm
      obtain ⟨m, rfl⟩ : ∃ m', m = m' + 1 := ⟨m - 1, by omega⟩
      have nle : ¬ I 41 0 15 ≤ nI i := by rw [hL.1, i_le (by omega) (by omega)]; omega
      have he : i < nn (I 41 0 15) := by omega
      have eC := C_against hN hg hc J he
      have eM := R_against hN hg J he
      have hn := fun acc => ih (i + 1) acc m (by omega) (by omega)
      rw [← nI_1] at hn
      have a0 : acc + 0 = acc := Int32.add_zero _
      have d3 : ((909 : Int32) + 4 * nI i + 3).toNatClampNeg = 909 + 4 * i + 3 := ix3c (a := 909) (b := 4) (c := 3) (by omega)
      have w3 : vp_in ((909 : Int32) + 4 * nI i + 3) 2509 := ix3v (a := 909) (b := 4) (c := 3) (by omega) (by omega)
      have ew : F_X3_writerOf 0 (nI i) I J = I 41 0 (909 + 4 * i + 3) ∧ pre_X3_writerOf 0 (nI i) I J := by
        have eh : F_X3_has 0 (nI i) I J = 1 := by rw [has3_W, cL.1]; exact hasW_k hL (by omega) he
        unfold F_X3_writerOf pre_X3_writerOf
        rw [eh, kif_neg z1, kif_neg z1, nI_clamp (by omega), (cL.2 i he).2.2.2]
        exact ⟨rfl, vl _ 400 (by omega) (by omega), trivial⟩
      rw [G_X9_countDifferences_4, cL.1, kif_neg nle, G_X11_differences_24, kif_pos v15, l15, kif_neg nle, kbd_eq eM, kbd_eq eC]
      by_cases qa : a = -1
      · rw [kif_pos qa, kif_neg z1, kif_pos qa]
        rcases sa_v hg i with ⟨y1, y2⟩ | ⟨y1, y2⟩
        · rw [kif_pos y1, kif_pos y2, a0]
          exact hn acc
        · rw [kif_neg y1, kif_neg y2]
          exact hn (acc + 1)
      · rw [kif_neg qa, kif_pos ew.2, ew.1, kif_neg qa, kif_pos w3, d3]
        by_cases qw : I 41 0 (909 + 4 * i + 3) = a
        · rw [kif_pos qw, kif_neg z1, kif_pos qw]
          rcases sa_v hg i with ⟨y1, y2⟩ | ⟨y1, y2⟩
          · rw [kif_pos y1, kif_pos y2, a0]
            exact hn acc
          · rw [kif_neg y1, kif_neg y2]
            exact hn (acc + 1)
        · rw [kif_neg qw, kif_pos rfl, kif_neg qw, a0, kif_id]
          exact hn acc
  obtain ⟨v, v1, v2⟩ := loop (nn (I 41 0 15)) 0 0 kfu (by omega) (by unfold kfu; omega)
  have km := isKeeper_W a I J h13
  have kr := isKeeper_W a (rfC 0 I) J (by rw [rfC_41]; exact h13)
  rw [rfC_41] at kr
  have ek : F_X10_isKeeperOrNone a I J = kif (a = -1) 1 (kif (hasW (I 41 0 13) a = 0) 0 1) := by
    unfold F_X10_isKeeperOrNone
    rw [has1_W, ic]
  by_cases qa : a = -1
  · rw [kif_pos qa] at ek
    have c1 := cs_X10_differences a I J (v, I, J) (by unfold E_X10_differences; rw [ek, kif_neg z1, kbd_eq (show E_X9_countDifferences 0 a I J = some v from v1)])
    have c2 := cs_X11_differences a I J (v, I, J) (by unfold E_X11_differences; rw [kif_pos qa]; exact v2)
    exact MM_f c1 rfl c2 rfl (Inv_mono h (by omega))
  · rw [kif_neg qa] at ek
    by_cases w : hasW (I 41 0 13) a = 0
    · rw [kif_pos w] at ek
      have c1 := cs_X10_differences a I J (-102, rfC 0 I, J) (by unfold E_X10_differences; rw [ek, kif_pos rfl, kif_pos (rC0 I J).2, (rC0 I J).1])
      have c2 := cs_X11_differences a (rfC 0 I) J (-102, rfM 0 (rfC 0 I), J) (by unfold E_X11_differences; rw [kif_neg qa, kif_pos kr.2, kr.1, kif_pos w, kif_pos (rM0 _ J).2, (rM0 _ J).1])
      exact ref_both h c1 rfl c2 rfl
    · rw [kif_neg w] at ek
      have c1 := cs_X10_differences a I J (v, I, J) (by unfold E_X10_differences; rw [ek, kif_neg z1, kbd_eq (show E_X9_countDifferences 0 a I J = some v from v1)])
      have c2 := cs_X11_differences a I J (v, I, J) (by unfold E_X11_differences; rw [kif_neg qa, kif_pos km.2, km.1, kif_neg w]; exact v2)
      exact MM_f c1 rfl c2 rfl (Inv_mono h (by omega))

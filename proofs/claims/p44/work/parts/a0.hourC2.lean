/-! an hour of the class's world: the log, and all of it -/
theorem LL_wlX {K : kI} {o : Nat} {g : Nat → Int32} {N : Nat} (hg : WG g N) (hK : KP K o g) (h15 : K 1 o 5 = g 13) (h20 : ∀ i, i < nn (g 13) → K 20 o i = g (61 + 4 * i)) (hC : CL K o g) (l : List Nat) (hl : ∀ s, s ∈ l → K 27 o s = ft (gk g s) (hd g) (aL g (hd g) (ht g)) (hw g) (aS g (hw g) (ht g))) : CL (wlX o K l) o (logL g (hW g) (hE g (gk g) (hd g) (hw g) (hW g) (ht g) (aA g (hW g)) l)) := by
  have hw0 := WG_W hg (nn (g 0) % 24) (Nat.mod_lt _ (by omega))
  have h13 := hg.2.2.1
  have h132 := h13.2
  have hr := hg.2.2.2.2.2.2.2.2.2.1
  obtain ⟨k1, k12, k13, k14, k15, k10, k11, k8, k9, k16⟩ := hK
  have k4 : K 6 o 4 = g 0 := k1 4 (by omega) (by omega)
  have L0 : LL K K o g g := ⟨hC, hr, rfl, rfl, rfl, fun _ => rfl⟩
  have st := fun (I : kI) (q : Nat → Int32) (a b : Int32) (z : LL K I o g q) => LL_en z k4 a b
  rw [k14] at st
  have eW : hW g = g (85 + nn (g 0) % 24) := rfl
  unfold wlX hE
  rw [k15]
  by_cases t0 : ht g = 0
  · have eA0 : eA (aL g (hd g) (ht g)) (ht g) (hd g) = [] := by unfold eA; rw [if_neg (fun q => q.1 t0)]
    have eS : aS g (hw g) (ht g) = 0 := by unfold aS; rw [if_neg (fun q => q.2.1 t0)]
    have eB0 : eB (aS g (hw g) (ht g)) = [] := by unfold eB; rw [if_pos eS]
    rw [kif_pos t0, eA0, eB0, if_pos t0, List.append_nil, List.nil_append, List.nil_append]
    have hboy : (boyA o K ∧ ¬ K 6 o 13 = 0) ↔ (¬ aA g (hW g) = 0 ∧ g (61 + 4 * (hW g).toNatClampNeg) = 2 ∧ ¬ hd g = 0) := by
      unfold boyA
      rw [k14, k13, h15, k15]
      rcases hw0 with e | ⟨j, hj, hjk, e⟩
      · have eW1 : hW g = -1 := eW.trans e
        have n1 : (-1 : Int32) < 0 := by decide
        have a0 : aA g (-1) = 0 := by unfold aA; rw [kif_pos n1]
        rw [eW1]
        constructor
        · intro q; exact absurd n1 q.1.1
        · intro q; exact absurd a0 q.1
      · have eW1 : hW g = nI j := eW.trans e
        have n0 : ¬ nI j < 0 := i_nlt0 j (by omega)
        have n2 : ¬ g 13 ≤ nI j := by rw [h13.1, i_le (by omega) (by omega)]; omega
        have hR : ¬ aR g (nI j) := fun q => by
          have z : ht g = 1 := by unfold ht aT; rw [eW1, kif_neg n0, kif_pos q]
          rw [z] at t0
          exact absurd t0 (by decide)
        have a1 : ¬ aA g (nI j) = 0 := by unfold aA; rw [kif_neg n0, kif_neg hR]; decide
        rw [eW1, nI_clamp (by omega), h20 j hjk]
        constructor
        · intro q; exact ⟨a1, q.1.2.2.2, q.2⟩
        · intro q; exact ⟨⟨n0, n2, t0, q.2.1⟩, q.2.2⟩
    unfold eC
    by_cases hb : boyA o K ∧ ¬ K 6 o 13 = 0
    · rw [kif_pos hb, if_pos (hboy.mp hb)]
      exact (st K g 1 (-1) L0).1
    · rw [kif_neg hb, if_neg (fun q => hb (hboy.mpr q))]
      exact hC
  · have wge := aT_ge t0
    have hR : aR g (hW g) := by
      by_cases q : aR g (hW g)
      · exact q
      · exact absurd (show ht g = 0 by unfold ht aT; rw [kif_neg wge, kif_neg q]) t0
    have a0 : aA g (hW g) = 0 := by unfold aA; rw [kif_neg wge, kif_pos hR]
    have eC0 : eC (g (61 + 4 * (hW g).toNatClampNeg)) (aA g (hW g)) (hd g) = [] := by unfold eC; rw [if_neg (fun q => q.1 a0)]
    rw [kif_neg t0, eC0, if_neg t0, List.append_nil, logL_append, logL_append]
    have s1 : LL K (wl1 o K) o g (logL g (hW g) (eA (aL g (hd g) (ht g)) (ht g) (hd g))) := by
      unfold wl1 eA
      rw [k13, k10]
      by_cases d0 : hd g = 0
      · rw [kif_pos d0, if_neg (fun q => q.2 d0)]
        exact L0
      · rw [kif_neg d0, if_pos ⟨t0, d0⟩]
        rcases aL_01 g (hd g) (ht g) with q | q
        · rw [q, kif_pos rfl, if_neg (by decide)]
          exact st K g 2 (-1) L0
        · rw [q, kif_neg (by decide), if_pos rfl]
          exact st K g 1 (-1) L0
    have s2 : LL K (wl2 o K) o g (logL (logL g (hW g) (eA (aL g (hd g) (ht g)) (ht g) (hd g))) (hW g) (eB (aS g (hw g) (ht g)))) := by
      unfold wl2 eB
      rw [k16]
      by_cases d0 : aS g (hw g) (ht g) = 0
      · rw [kif_pos d0, if_pos d0]
        exact s1
      · rw [kif_neg d0, if_neg d0]
        exact st _ _ 3 (-1) s1
    have s3 := (LL_enF k4 l _ _ s2).1
    rw [k14] at s3
    have em : (l.map fun s => (4 + K 27 o s, nI s)) = (l.map fun s => (4 + ft (gk g s) (hd g) (aL g (hd g) (ht g)) (hw g) (aS g (hw g) (ht g)), nI s)) := List.map_congr_left (fun s hs => by rw [hl s hs])
    rw [em] at s3
    exact s3
theorem unX_ne (o : Nat) (I : kI) {t : Nat} (o2 j : Nat) (h : ¬ t = 9) : unX o I t o2 j = I t o2 j := by
  unfold unX
  by_cases q : ¬ I 6 o 13 = 0 ∧ I 6 o 10 = 0
  · rw [kif_pos q, kw_at _ _ (fun z => h z.1), kw_at _ _ (fun z => h z.1)]
  · rw [kif_neg q]
def wtt (t : Nat) : Prop := t = 0 ∨ t = 3 ∨ t = 6 ∨ t = 9 ∨ (22 ≤ t ∧ t ≤ 24) ∨ t = 27 ∨ t = 28 ∨ (30 ≤ t ∧ t ≤ 33)
theorem en_no (o : Nat) (a b : Int32) (I : kI) {o2 : Nat} (t j : Nat) (h : ¬ o2 = o) : en o a b I t o2 j = I t o2 j := by
  unfold en
  split
  · rfl
  · rw [kw_at _ _ (fun q => h q.2.1), kw_at _ _ (fun q => h q.2.1), kw_at _ _ (fun q => h q.2.1), kw_at _ _ (fun q => h q.2.1), kw_at _ _ (fun q => h q.2.1)]
theorem enF_no (o : Nat) {o2 : Nat} (t j : Nat) (h : ¬ o2 = o) : ∀ (l : List Nat) (I : kI), enF o I l t o2 j = I t o2 j := by
  intro l
  induction l with
  | nil => intro I; rfl
  | cons s l ih => intro I; rw [enF, ih, en_no _ _ _ _ _ _ h]
theorem wlX_no (o : Nat) {o2 : Nat} (t j : Nat) (h : ¬ o2 = o) (l : List Nat) (I : kI) : wlX o I l t o2 j = I t o2 j := by
  have e : ∀ a b (K : kI), en o a b K t o2 j = K t o2 j := fun a b K => en_no _ _ _ _ _ _ h
  unfold wlX wl2 wl1
  have kk : ∀ (P : Prop) (A B : kI), A t o2 j = I t o2 j → B t o2 j = I t o2 j → (kif P A B) t o2 j = I t o2 j := by
    intro P A B hA hB
    by_cases q : P
    · rw [kif_pos q]; exact hA
    · rw [kif_neg q]; exact hB
  refine kk _ _ _ (kk _ _ _ (e _ _ _) rfl) ?_
  rw [enF_no o t j h]
  refine kk _ _ _ (kk _ _ _ rfl (e _ _ _)) ?_
  rw [e]
  exact kk _ _ _ rfl (e _ _ _)
theorem msF_no (o : Nat) (kd : Nat → Nat) (met : Int32) {o2 : Nat} (t j : Nat) (h : ¬ o2 = o) : ∀ (l : List Nat) (I : kI), msF o kd met I l t o2 j = I t o2 j := by
  intro l
  induction l with
  | nil => intro I; rfl
  | cons s l ih =>
    intro I
    rw [msF, ih]
    unfold ms1
    rw [kw_at _ _ (fun q => h q.2.1), kw_at _ _ (fun q => h q.2.1)]
theorem unX_no (o : Nat) (I : kI) {o2 : Nat} (t j : Nat) (h : ¬ o2 = o) : unX o I t o2 j = I t o2 j := by
  unfold unX
  by_cases q : ¬ I 6 o 13 = 0 ∧ I 6 o 10 = 0
  · rw [kif_pos q, kw_at _ _ (fun z => h z.2.1), kw_at _ _ (fun z => h z.2.1)]
  · rw [kif_neg q]
theorem kpX_no (I : kI) (o h : Nat) (w : Int32) {o2 : Nat} (t j : Nat) (q : ¬ o2 = o) : kpX I o h w t o2 j = I t o2 j := by
  unfold kpX
  rw [kp3_app, if_neg (fun z => q z.2.1), if_neg (fun z => q z.2.1), tlX_app, if_neg (fun z => q z.2.1), if_neg (fun z => q z.2.1), if_neg (fun z => q z.2.1), kp1_app, if_neg (fun z => q z.2.1), if_neg (fun z => q z.2.1), if_neg (fun z => q z.2.1), if_neg (fun z => q z.2.1)]
theorem phX_fr (o h k : Nat) (kd : Nat → Nat) (w : Int32) (l : List Nat) (I : kI) (t o2 j : Nat) (hq : ¬ (o2 = o ∧ wtt t)) : phX o h k kd w l I t o2 j = I t o2 j := by
  unfold phX
  unfold wtt at hq
  by_cases q : o2 = o
  · rw [ehX_ne _ _ _ _ (by omega), unX_ne _ _ _ _ (by omega), wlX_ne _ _ _ (by omega) (by omega) (by omega) (by omega) (by omega), msF_ne _ _ _ _ _ (by omega) (by omega), kpX_ne _ _ _ _ _ _ (by omega)]
  · rw [ehX_ne _ _ _ _ (by omega), unX_no _ _ _ _ q, wlX_no _ _ _ q, msF_no _ _ _ _ _ q, kpX_no _ _ _ _ _ _ q]
theorem C_hour {N : Nat} (hN : N < 1000000) {o : Nat} {g : Nat → Int32} (I : kI) (J : kJ) (hg : WG g N) (h : CW I o g) : ∃ I', E_X9_passHour o I J = some (I', J) ∧ CW I' o (H g) ∧ (∀ t o2 j, ¬ (o2 = o ∧ wtt t) → I' t o2 j = I t o2 j) := by
  obtain ⟨hS, ⟨p, hF, hfm⟩, hL, hu1, hu2, hu3⟩ := h
  have hGF := WG_GF hg
  have hWW := WG_W2 hg
  have h0 := hg.1
  have h02 := h0.2
  have h122 := hg.2.1.2
  have h13 := hg.2.2.1
  have h132 := h13.2
  have h142 := hg.2.2.2.1.2
  have h15 := hg.2.2.2.2.2.2.2.2.2.1
  have i4 : I 6 o 4 = g 0 := hS.1 0 (by omega)
  have hcr : I 1 o 5 = g 13 := hS.2.2.2.2.2.2.1
  have hrn : I 5 o 2 = g 12 := hS.2.2.2.1
  obtain ⟨f, f2, hff, hf2, q1, q2, q3, q4, e⟩ := E_passHour (nn (g 0)) (by omega) I J hF h15.2 (by rw [hL.1]; exact h15.1) (by rw [i4]; exact h0.1) h132 (by rw [hcr]; exact h13.1) ⟨_, h122, by rw [hrn]; exact hg.2.1.1⟩
  have hlist := rk_places hF hGF (nn (g 0)) (by omega) hf2 q1 q2 q3 q4
  rw [c_weather hg hS _ (by omega) J, ← hlist] at e
  obtain ⟨l, hl⟩ : ∃ l, l = rkK g (nI (nn (g 0))) (nn (g 14)) 5 := ⟨_, rfl⟩
  rw [← hl] at e
  refine ⟨_, e, ?_, fun t o2 j hq => phX_fr _ _ _ _ _ _ _ _ _ _ hq⟩
  have hK := c_keep hg hS
  have ewt : wth g (nn (g 0)) = hw g := rfl
  rw [ewt]
  unfold phX
  have kne : ∀ {t : Nat} (j : Nat), ¬ t = 6 → kpX I o (nn (g 0)) (hw g) t o j = I t o j := fun j q => kpX_ne _ _ _ _ _ _ q
  generalize kpX I o (nn (g 0)) (hw g) = K at *
  have hmet : mtI o K = aL g (hd g) (ht g) + psS (aS g (hw g) (ht g)) := by
    unfold mtI psS
    rw [hK.2.2.2.2.2.1, hK.2.2.2.2.2.2.2.2.2]
    rcases aL_01 g (hd g) (ht g) with z | z <;> rcases aS_01 g (hw g) (ht g) with y | y <;> rw [z, y] <;> simp only [kif_eq] <;> decide
  rw [hmet]
  have h2s := fun s => msF_27 o (gk g) (aL g (hd g) (ht g) + psS (aS g (hw g) (ht g))) s l K
  have m2 : ∀ {t : Nat} (j : Nat), ¬ t = 27 → ¬ t = 28 → msF o (gk g) (aL g (hd g) (ht g) + psS (aS g (hw g) (ht g))) K l t o j = K t o j := fun j a b => msF_ne _ _ _ _ _ a b _ _
  generalize msF o (gk g) (aL g (hd g) (ht g) + psS (aS g (hw g) (ht g))) K l = K2 at *
  have hK2 : KP K2 o g := by
    unfold KP
    simp only [m2 _ (show ¬ 6 = 27 by omega) (show ¬ 6 = 28 by omega)]
    exact hK
  have hlog := LL_wlX hg hK2 (by rw [m2 _ (by omega) (by omega), kne _ (by omega), hcr]) (fun i hi => by rw [m2 _ (by omega) (by omega), kne _ (by omega)]; exact (hS.2.2.2.2.2.2.2.1 i hi).1) (by
    refine ⟨by rw [m2 _ (by omega) (by omega), kne _ (by omega)]; exact hL.1, fun x hx => ?_⟩
    rw [m2 _ (by omega) (by omega), kne _ (by omega), m2 _ (by omega) (by omega), kne _ (by omega), m2 _ (by omega) (by omega), kne _ (by omega), m2 _ (by omega) (by omega), kne _ (by omega)]
    exact hL.2 x hx) l (fun s hs => by rw [(h2s s).1, if_pos hs, hK.2.2.1, hK.2.2.2.2.2.1, hK.2.1, hK.2.2.2.2.2.2.2.2.2])
  have m3 : ∀ {t : Nat} (j : Nat), ¬ t = 3 → ¬ t = 30 → ¬ t = 31 → ¬ t = 32 → ¬ t = 33 → wlX o K2 l t o j = K2 t o j := fun j a b c d x => wlX_ne _ _ _ a b c d x _ _
  generalize wlX o K2 l = K3 at *
  have hK3 : KP K3 o g := by
    unfold KP
    simp only [m3 _ (show ¬ 6 = 3 by omega) (show ¬ 6 = 30 by omega) (show ¬ 6 = 31 by omega) (show ¬ 6 = 32 by omega) (show ¬ 6 = 33 by omega)]
    exact hK2
  have m4 : ∀ {t : Nat} (j : Nat), ¬ t = 9 → unX o K3 t o j = K3 t o j := fun j a => unX_ne _ _ _ _ a
  have hK4 : KP (unX o K3) o g := by
    unfold KP
    simp only [m4 _ (show ¬ 6 = 9 by omega)]
    exact hK3
  have k9 : ∀ j, K3 9 o j = I 9 o j := fun j => by rw [m3 _ (by omega) (by omega) (by omega) (by omega) (by omega), m2 _ (by omega) (by omega), kne _ (by omega)]
  have hun : unX o K3 9 o 3 = H g 16 ∧ unX o K3 9 o 4 = H g 17 ∧ unX o K3 9 o 5 = H g 19 := by
    have e16 : H g 16 = _ := hG_16 g (gk g) (nn (g 14)) (nn (g 13)) (nn (g 0)) (hw g)
    have e17 : H g 17 = _ := hG_17 g (gk g) (nn (g 14)) (nn (g 13)) (nn (g 0)) (hw g)
    have e19 : H g 19 = g 19 := hG_same _ _ _ _ _ _ (by omega)
    have b24 : ((1 : Int32) <<< (nI ((K3 6 o 4).toNatClampNeg % 24) &&& 31)) = bit24 (g 0) := by
      have k4 : K3 6 o 4 = g 0 := hK3.1 4 (by omega) (by omega)
      unfold bit24
      rw [k4]
      have z : nI (nn (g 0)) - nI (nn (g 0)) / (24 : Int32) * (24 : Int32) = nI (nn (g 0) % 24) := iz_modN (n := 24) (by omega) (by omega) (by omega)
      rw [← h0.1] at z
      rw [z]
    rw [e16, e17, e19, ← hu1, ← hu2, ← hu3, ← k9, ← k9, ← k9]
    unfold unX
    rw [hK3.2.2.1, hK3.2.2.2.2.2.1, b24]
    have ed : hd g = aD g (nn (g 0)) := rfl
    have et : ht g = aT g (aW g (nn (g 0))) := rfl
    rw [ed, et]
    by_cases q : ¬ aD g (nn (g 0)) = 0 ∧ aL g (aD g (nn (g 0))) (aT g (aW g (nn (g 0)))) = 0
    · rw [kif_pos q, if_pos q, if_pos q]
      refine ⟨?_, ?_, ?_⟩
      · rw [kw_at _ _ (by omega), kw_app, if_pos ⟨rfl, rfl, rfl⟩]
      · rw [kw_app, if_pos ⟨rfl, rfl, rfl⟩]
      · rw [kw_at _ _ (by omega), kw_at _ _ (by omega)]
    · rw [kif_neg q, if_neg q, if_neg q]
      exact ⟨rfl, rfl, rfl⟩
  generalize unX o K3 = K4 at *
  have all : ∀ {t : Nat} (j : Nat), ¬ wtt t → K4 t o j = I t o j := fun {t} j a => by
    unfold wtt at a
    rw [m4 _ (by omega), m3 _ (by omega) (by omega) (by omega) (by omega) (by omega), m2 _ (by omega) (by omega), kne _ (by omega)]
  have hSt := CS_end hg hS hK4 (fun t j a b => by
    unfold stT at a
    rw [m4 _ (by omega), m3 _ (by omega) (by omega) (by omega) (by omega) (by omega), m2 _ (by omega) (by omega), kne _ (by omega)])
  have c14 : H g 14 = g 14 := hG_same _ _ _ _ _ _ (by omega)
  have cs : ∀ s, s < 200 → _ := fun s hs => hG_s g (gk g) (nn (g 14)) (nn (g 13)) (nn (g 0)) (hw g) hWW h142 h132 h0.1 hs
  have hkd : ∀ s, s < 200 → gk (H g) s = gk g s ∧ gh (H g) s = gh g s := fun s hs => by
    have z := cs s hs
    have z1 : H g (109 + 4 * s) = _ := z.1
    have z2 : H g (109 + 4 * s + 1) = _ := z.2.1
    unfold gk gh
    rw [z1, z2]
    exact ⟨rfl, rfl⟩
  refine ⟨hSt, ⟨p, ?_, fun s hs => ?_⟩, ⟨?_, fun x hx => ?_⟩, ?_, ?_, ?_⟩
  · rw [c14]
    obtain ⟨f1, f3, f4, f5, f6, f7⟩ := hF
    refine ⟨f1, by rw [ehX_ne _ _ _ _ (by omega), all _ (by unfold wtt; omega)]; exact f3, fun s hs => ?_, fun a ha => by rw [ehX_ne _ _ _ _ (by omega), all _ (by unfold wtt; omega)]; exact f5 a ha, f6, fun a b hab hb => ?_⟩
    · rw [ehX_ne _ _ _ _ (by omega), all _ (by unfold wtt; omega), ehX_ne _ _ _ _ (by omega), all _ (by unfold wtt; omega), (hkd s (by omega)).1, (hkd s (by omega)).2]
      exact f4 s hs
    · have z := f7 a b hab hb
      have y1 := (f5 a (by omega)).2
      have y2 := (f5 b hb).2
      unfold bf
      rw [(hkd (p a) (by omega)).1, (hkd (p a) (by omega)).2, (hkd (p b) (by omega)).1, (hkd (p b) (by omega)).2]
      exact z
  · rw [c14] at hs
    have z := cs s (by omega)
    have z3 : H g (109 + 4 * s + 2) = _ := z.2.2.1
    have z4 : H g (109 + 4 * s + 3) = _ := z.2.2.2
    rw [ehX_ne _ _ _ _ (by omega), ehX_ne _ _ _ _ (by omega), m4 _ (by omega), m4 _ (by omega), m3 _ (by omega) (by omega) (by omega) (by omega) (by omega), m3 _ (by omega) (by omega) (by omega) (by omega) (by omega), (h2s s).1, (h2s s).2, z3, z4, ← hl, hK.2.2.1, hK.2.2.2.2.2.1, hK.2.1, hK.2.2.2.2.2.2.2.2.2, kne _ (by omega), kne _ (by omega), (hfm s hs).1, (hfm s hs).2]
    exact ⟨rfl, rfl⟩
  · have z : H g 15 = _ := hG_log g (gk g) (nn (g 14)) (nn (g 13)) (nn (g 0)) (hw g) hWW h142 h132 h0.1 (Or.inl rfl)
    rw [ehX_ne _ _ _ _ (by omega), m4 _ (by omega), z, ← hl]
    exact hlog.1
  · have z : ∀ j, j = 15 ∨ 909 ≤ j → H g j = _ := fun j hj => hG_log g (gk g) (nn (g 14)) (nn (g 13)) (nn (g 0)) (hw g) hWW h142 h132 h0.1 hj
    rw [z 15 (Or.inl rfl)] at hx
    rw [ehX_ne _ _ _ _ (by omega), ehX_ne _ _ _ _ (by omega), ehX_ne _ _ _ _ (by omega), ehX_ne _ _ _ _ (by omega), m4 _ (by omega), m4 _ (by omega), m4 _ (by omega), m4 _ (by omega), z _ (Or.inr (by omega)), z _ (Or.inr (by omega)), z _ (Or.inr (by omega)), z _ (Or.inr (by omega))]
    rw [← hl] at hx ⊢
    exact hlog.2 x hx
  · rw [ehX_ne _ _ _ _ (by omega)]; exact hun.1
  · rw [ehX_ne _ _ _ _ (by omega)]; exact hun.2.1
  · rw [ehX_ne _ _ _ _ (by omega)]; exact hun.2.2

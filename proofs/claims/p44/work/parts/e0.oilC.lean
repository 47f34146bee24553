/-! oil, of the class -/
noncomputable def uO (n : Nat) (g : Nat → Int32) (x : Nat) : Nat := oC (nn (g 3)) (nn (g 10)) (fun i => dB (Hn i g)) (fun i => tB (Hn i g)) (fun i => bB (Hn i g)) n 0 x (lB g) (uB g)
theorem Hn_oC (k r : Nat) (d t b : Nat → Bool) : ∀ n i (g : Nat → Int32) (N : Nat), WG g N → N + n ≤ 1000000 → nn (g 3) = k → nn (g 10) = r → (∀ m, m < n → dB (Hn m g) = d (i + m) ∧ tB (Hn m g) = t (i + m) ∧ bB (Hn m g) = b (i + m)) → Hn n g 16 = g 16 + nI (oC k r d t b n i (nn (g 4)) (lB g) (uB g)) := by
  intro n
  induction n with
  | zero => intro i g N _ _ _ _ _; exact (Int32.add_zero _).symm
  | succ n ih =>
    intro i g N hg hN hk hr hf
    obtain ⟨f1, f2, f3⟩ := hf 0 (by omega)
    have f1' : dB g = d i := f1
    have f2' : tB g = t i := f2
    have f3' : bB g = b i := f3
    obtain ⟨e1, e2, e3, e4, e5, e6⟩ := H_lamp hg
    rw [hk, f1', f2'] at e1 e2 e3 e4
    rw [hr, f3'] at e3
    have h := ih (i + 1) (H g) (N + 1) (hG_ok (by omega) hg) (by omega) (by rw [e5, hk]) (by rw [e6, hr]) (fun m hm => by
      have z := hf (m + 1) (by omega)
      rw [show i + (m + 1) = i + 1 + m by omega] at z
      exact z)
    rw [Hn, h, e4, e3, e1, e2, oC, Int32.add_assoc, nI_add]
theorem upd4_ne (g : Nat → Int32) (v : Int32) {j : Nat} (h : ¬ j = 4) : upd g 4 v j = g j := by rw [upd_app, if_neg h]
theorem WG_upd4 {g : Nat → Int32} {N x : Nat} (hg : WG g N) (hx : x ≤ 9999) : WG (upd g 4 (nI x)) N := by
  refine WG_sc hg (fun j h1 _ _ => upd4_ne _ _ (by omega)) (upd4_ne _ _ (by omega)) ?_ ?_
  · unfold WP
    rw [upd4_ne _ _ (by omega)]
    intro i hi
    rw [upd4_ne _ _ (by omega)]
    exact hg.2.2.2.2.2.1 i hi
  · unfold WO
    rw [upd4_ne (j := 3) _ _ (by omega), upd4_ne (j := 5) _ _ (by omega), upd4_ne (j := 6) _ _ (by omega), upd4_ne (j := 7) _ _ (by omega), upd4_ne (j := 10) _ _ (by omega), upd4_ne (j := 11) _ _ (by omega), upd_app, if_pos rfl]
    obtain ⟨r3, p3, r4, r5⟩ := hg.2.2.2.2.2.2.1
    exact ⟨r3, p3, rg_nI hx (by omega), r5⟩
theorem uO_Hn {g : Nat → Int32} {N n x : Nat} (hg : WG g N) (hN : N + n ≤ 1000000) (hx : x ≤ 9999) : Hn n (upd g 4 (nI x)) 16 - g 16 = nI (uO n g x) := by
  have hg' := WG_upd4 hg hx
  have hOE : OE g (upd g 4 (nI x)) := ⟨fun j hj => upd4_ne _ _ (by omega), fun i _ => ⟨upd4_ne _ _ (by omega), upd4_ne _ _ (by omega)⟩⟩
  have e := Hn_oC (nn (g 3)) (nn (g 10)) (fun i => dB (Hn i g)) (fun i => tB (Hn i g)) (fun i => bB (Hn i g)) n 0 (upd g 4 (nI x)) N hg' hN (by rw [upd4_ne _ _ (by omega)]) (by rw [upd4_ne _ _ (by omega)]) (fun m hm => by
    have z := OE_fl2 (WG_Hn m g N hg (by omega)) (OE_Hn m g _ N hg hg' (by omega) hOE)
    rw [Nat.zero_add]
    exact z)
  have e4 : nn (upd g 4 (nI x) 4) = x := by rw [upd_app, if_pos rfl, nn_nI (by omega)]
  have el : lB (upd g 4 (nI x)) = lB g := by unfold lB; rw [upd4_ne _ _ (by omega)]
  have eu : uB (upd g 4 (nI x)) = uB g := by unfold uB; rw [upd4_ne _ _ (by omega)]
  rw [e, e4, el, eu, upd4_ne _ _ (by omega)]
  show g 16 + nI (uO n g x) - g 16 = nI (uO n g x)
  grind
theorem TR_oil {I : kI} {g : Nat → Int32} {N x : Nat} (hg : WG g N) (h : TR I g g) : TR (kw I 6 2 8 (nI x)) (upd g 4 (nI x)) (upd g 4 (nI x)) := by
  obtain ⟨⟨s1, s2, s3, s4, s5, s6, s7, s8, s9⟩, ⟨p, hF, f, hfc, h8, q1, q2⟩, u1, u2, u3, u4⟩ := h
  have h12 := hg.2.1.2
  have h13 := hg.2.2.1.2
  have k : ∀ t o j, ¬ (t = 6 ∧ o = 2 ∧ j = 8) → kw I 6 2 8 (nI x) t o j = I t o j := fun t o j a => kw_at _ _ a
  have e12 : upd g 4 (nI x) 12 = g 12 := upd4_ne _ _ (by omega)
  have e13 : upd g 4 (nI x) 13 = g 13 := upd4_ne _ _ (by omega)
  have e14 : upd g 4 (nI x) 14 = g 14 := upd4_ne _ _ (by omega)
  have e0 : upd g 4 (nI x) 0 = g 0 := upd4_ne _ _ (by omega)
  have ek : gk (upd g 4 (nI x)) = gk g := funext fun s => by unfold gk; rw [upd4_ne _ _ (by omega)]
  have eh : gh (upd g 4 (nI x)) = gh g := funext fun s => by unfold gh; rw [upd4_ne _ _ (by omega)]
  refine ⟨⟨fun j hj => ?_, fun j hj => ?_, ?_, ?_, ?_, ?_, ?_, ?_, fun i hi => ?_⟩, ⟨p, ?_, f, ?_, ?_, ?_, ?_⟩, ?_, ?_, ?_, ?_⟩
  · by_cases q : j = 4
    · subst q
      rw [kw_app, if_pos ⟨rfl, rfl, rfl⟩, upd_app, if_pos rfl]
    · rw [k _ _ _ (by omega), upd4_ne _ _ q]; exact s1 j hj
  · rw [k _ _ _ (by omega), upd4_ne _ _ (by omega)]; exact s2 j hj
  · rw [k _ _ _ (by omega), upd4_ne _ _ (by omega)]; exact s3
  · rw [k _ _ _ (by omega), e12]; exact s4
  · rw [k _ _ _ (by omega), e12, s5]
    refine congrArg nI (lsum_congr _ _ (fun y _ hy => ?_))
    show nn _ = nn _
    rw [upd4_ne _ _ (by omega)]
  · rw [e12]
    intro r hr
    rw [k _ _ _ (by omega), k _ _ _ (by omega), upd4_ne _ _ (by omega), upd4_ne _ _ (by omega)]
    exact s6 r hr
  · rw [k _ _ _ (by omega), e13]; exact s7
  · rw [e13]
    intro i hi
    rw [k _ _ _ (by omega), k _ _ _ (by omega), k _ _ _ (by omega), k _ _ _ (by omega), k _ _ _ (by omega), upd4_ne _ _ (by omega), upd4_ne _ _ (by omega), upd4_ne _ _ (by omega), upd4_ne _ _ (by omega)]
    exact s8 i hi
  · rw [k _ _ _ (by omega), upd4_ne _ _ (by omega)]; exact s9 i hi
  · rw [e14, ek, eh]
    exact FL_congr hF (k _ _ _ (by omega)) (fun _ => k _ _ _ (by omega)) (fun _ => k _ _ _ (by omega)) (fun _ => k _ _ _ (by omega))
  · rw [e14]; exact hfc
  · rw [k _ _ _ (by omega)]; exact h8
  · rw [eh, e0]; exact q1
  · rw [eh, e0, e14]; exact q2
  · rw [k _ _ _ (by omega), u1, Int32.sub_self, Int32.sub_self]
  · rw [k _ _ _ (by omega), u2, Int32.sub_self, Int32.sub_self]
  · rw [k _ _ _ (by omega), u3, Int32.sub_self, Int32.sub_self]
  · rw [k _ _ _ (by omega), u4, Int32.sub_self, Int32.sub_self]
theorem T_oil {N : Nat} {g : Nat → Int32} (J : kJ) (t x : Nat) (ht : t ≤ 1000) (hx : x ≤ 9999) (I : kI) (hg : WG g N) (hN : N + t ≤ 999999) (h : CQ I g) : ∃ I', E_X10_unlitWithOil (nI t) (nI x) I J = some (nI (uO t g x), I', J) ∧ thF I I' := by
  obtain ⟨K1, e1, r1, f1, _⟩ := T_begin (show N < 1000000 by omega) I J hg h.1 h.2
  obtain ⟨K2, e2, r2, f2⟩ := T_passHours J t ht _ _ N (WG_upd4 hg hx) hN (TR_oil (x := x) hg r1)
  have f3 : thF K1 (kw K1 6 2 8 (nI x)) := fun s o j a b => kw_at _ _ (fun z => b ⟨z.2.1, by unfold stT; omega⟩)
  refine ⟨K2, ?_, thF_tr f1 (thF_tr f3 f2)⟩
  unfold E_X10_unlitWithOil
  rw [kbd_eq e1]
  dsimp only
  rw [kbd_eq e2, upd4_ne _ _ (by omega), uO_Hn hg (by omega) hx]
theorem uO_anti {g : Nat → Int32} (n a x : Nat) (h : x ≤ a) : uO n g a ≤ uO n g x := oC_anti _ _ _ _ _ (fun i hi => dB_bB _ hi) n 0 a x _ _ h
theorem uO_le (n : Nat) (g : Nat → Int32) (x : Nat) : uO n g x ≤ n := oC_le _ _ _ _ _ _ _ _ _ _
theorem C_oil {N : Nat} {g : Nat → Int32} (J : kJ) (t : Nat) (ht : t ≤ 1000) (hg : WG g N) (hN : N + t ≤ 999999) : ∀ n s m (I : kI) (lo hi P : Nat), s + n = 32 → n + 1 ≤ m → P = 2 ^ n → hi < lo + P → lo ≤ hi → hi ≤ 9999 → (∀ y, y < lo → uO t g 9999 < uO t g y) → uO t g hi ≤ uO t g 9999 → CQ I g → ∃ v I', G_X10_oil (nI t) m 33 (nI (uO t g 9999)) (nI lo) (nI hi) (nI s) I J = some (nI v, I', J) ∧ least (uO t g) v ∧ thF I I' := by
  intro n
  induction n with
  | zero =>
    intro s m I lo hi P hs hm hP h1 h2 h3 h4 h5 hc
    obtain ⟨m, rfl⟩ : ∃ m', m = m' + 1 := ⟨m - 1, by omega⟩
    have hP1 : P = 1 := hP
    have q : (32 : Int32) ≤ nI s := by show nI 32 ≤ nI s; rw [i_le (by omega) (by omega)]; omega
    refine ⟨hi, I, ?_, ⟨h3, h5, fun y hy => h4 y (by omega)⟩, thF_rf I⟩
    rw [G_X10_oil_33, kif_pos q]
  | succ n ih =>
    intro s m I lo hi P hs hm hP h1 h2 h3 h4 h5 hc
    obtain ⟨m, rfl⟩ : ∃ m', m = m' + 1 := ⟨m - 1, by omega⟩
    have hP2 : P = 2 ^ n * 2 := hP
    have q : ¬ (32 : Int32) ≤ nI s := by show ¬ nI 32 ≤ nI s; rw [i_le (by omega) (by omega)]; omega
    by_cases he : hi ≤ lo
    · refine ⟨hi, I, ?_, ⟨h3, h5, fun y hy => h4 y (by omega)⟩, thF_rf I⟩
      rw [G_X10_oil_33, kif_neg q, kif_pos (by rw [i_le (by omega) (by omega)]; exact he)]
    · have ed : (nI lo + nI hi) / (2 : Int32) = nI ((lo + hi) / 2) := by
        rw [nI_add]
        exact pk_div (d := 2) (by omega) (by omega) (by omega)
      obtain ⟨I1, e1, f1⟩ := T_oil J t ((lo + hi) / 2) ht (by omega) I hg hN hc
      have hc1 := CQ_th hc f1
      have l1 := uO_le t g 9999
      have l2 := uO_le t g ((lo + hi) / 2)
      rw [G_X10_oil_33, kif_neg q, kif_neg (by rw [i_le (by omega) (by omega)]; exact he), kif_pos (by decide), ed, kbd_eq e1]
      dsimp only
      by_cases z : uO t g 9999 < uO t g ((lo + hi) / 2)
      · obtain ⟨v, I', e2, hl, f2⟩ := ih (s + 1) m I1 ((lo + hi) / 2 + 1) hi (2 ^ n) (by omega) (by omega) rfl (by omega) (by omega) h3 (fun y hy => Nat.lt_of_lt_of_le z (uO_anti t _ y (by omega))) h5 hc1
        rw [← nI_1, ← nI_1] at e2
        rw [kif_pos (by rw [i_lt (by omega) (by omega)]; exact z)]
        exact ⟨v, I', e2, hl, thF_tr f1 f2⟩
      · obtain ⟨v, I', e2, hl, f2⟩ := ih (s + 1) m I1 lo ((lo + hi) / 2) (2 ^ n) (by omega) (by omega) rfl (by omega) (by omega) (by omega) h4 (by omega) hc1
        rw [← nI_1] at e2
        rw [kif_neg (by rw [i_lt (by omega) (by omega)]; exact z)]
        exact ⟨v, I', e2, hl, thF_tr f1 f2⟩

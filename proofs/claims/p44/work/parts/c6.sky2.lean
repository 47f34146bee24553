/-! the sky is read, by runs -/
theorem nI_ne_m1 {x : Nat} (h : x < 2147483648) : ¬ nI x = -1 := nI_m1' x h
theorem rnX_44 (K : kI) (pl r : Nat) (w : Int32) (v j : Nat) : rnX K pl r w v 44 0 j = if j = 2 * r + 1 then nI v else if j = 2 * r then w else K 44 0 j := by
  unfold rnX
  rw [kw_at _ _ (by omega), kw_app]
  by_cases a : j = 2 * r + 1
  · rw [if_pos ⟨rfl, rfl, a⟩, if_pos a]
  · rw [if_neg (fun q => a q.2.2), if_neg a, kw_app]
    by_cases b : j = 2 * r
    · rw [if_pos ⟨rfl, rfl, b⟩, if_pos b]
    · rw [if_neg (fun q => b q.2.2), if_neg b, kw_at _ _ (by omega)]
theorem sky_loop {z : Nat} {T : Nat → Nat} (J : kJ) : ∀ n r a (I : kI) (w ln : Nat → Nat) m, r + n = 20 → a ≤ z → n + 2 ≤ m → TP I z T → SI I r w ln → okW r w ln → (∃ x I', x ≤ 500 ∧ G_X7_readInto 0 3 m 8 (nI a) (nI r) I J = some (nI x, I', J) ∧ frC I I' ∧ ∀ K m', n + 100 ≤ m' → SK K z T a r w ln → ∃ K', skyM K J m' = some (-300 - nI x, K', J) ∧ frM K K' ∧ K' 11 0 9 = 0 ∧ K' 42 0 0 = K 42 0 0 + 1 ∧ K' 41 0 = K 41 0) ∨ (∃ R w' ln' I', 1 ≤ R ∧ R ≤ 20 ∧ G_X7_readInto 0 3 m 8 (nI a) (nI r) I J = some (-1, I', J) ∧ frC I I' ∧ SI I' R w' ln' ∧ okW R w' ln' ∧ ∀ K m', n + 100 ≤ m' → SK K z T a r w ln → ∃ K', skyM K J m' = some (nI R, K', J) ∧ frM K K' ∧ K' 11 0 9 = 0 ∧ K' 42 0 0 = K 42 0 0 ∧ K' 41 0 = skG (K 41 0) R (bufF w' ln') (2 * R)) := by
  have z1 : ¬ (1 : Int32) = 0 := by decide
  intro n
  induction n with
  | zero =>
    intro r a I w ln m hr ha hm hT hS hW
    obtain ⟨m, rfl⟩ : ∃ x, m = x + 1 := ⟨m - 1, by omega⟩
    have hz := hT.2.1
    obtain rfl : r = 20 := by omega
    have b := byteC hT a (by omega) J
    refine Or.inl ⟨a, I, by omega, ?_, fun _ _ _ _ => rfl, fun K m' hm' hK => ?_⟩
    · have eF : F_X5_isFull 3 I J = 1 := by
        unfold F_X5_isFull
        rw [hS.1, kif_neg (by decide)]
      rw [G_X7_readInto_8, kif_neg (by decide), kif_pos b.2, b.1]
      by_cases l : ltr (bt z T a)
      · rw [kif_neg ((wof _ I J).1 l).2, eF, kif_neg z1]
      · rw [kif_pos ((wof _ I J).2 l)]
    · obtain ⟨m', rfl⟩ : ∃ x, m' = x + 1 := ⟨m' - 1, by omega⟩
      obtain ⟨hQ, h10, h12, _⟩ := hK
      have e := (M_run hQ J a 20 (by omega) (by omega) h10 h12).1 (Or.inl rfl)
      obtain ⟨K', e2, f2⟩ := M_fault (K := K) J a m' h10
      refine ⟨K', ?_, f2⟩
      unfold skyM
      rw [kbd_eq e]
      exact e2
  | succ n ih =>
    intro r a I w ln m hr ha hm hT hS hW
    obtain ⟨m, rfl⟩ : ∃ x, m = x + 1 := ⟨m - 1, by omega⟩
    have hz := hT.2.1
    have b := byteC hT a (by omega) J
    have n20 : ¬ (20 : Int32) < nI r := by show ¬ nI 20 < nI r; rw [i_lt (by omega) (by omega)]; omega
    by_cases l : ltr (bt z T a)
    · have az : a < z := by
        by_cases y : a < z
        · exact y
        · have e : bt z T a = -1 := by unfold bt; rw [if_neg y]
          rw [e] at l
          rcases l with l | l | l <;> exact absurd l (by decide)
      have eF : F_X5_isFull 3 I J = 0 := by
        unfold F_X5_isFull
        rw [hS.1, kif_pos]
        show nI r < nI 20
        rw [i_lt (by omega) (by omega)]
        omega
      have cd := E_countD hT (a + 1) (by omega) J
      have cn := E_numAt hT (a + 1) (by omega) J
      have nl := num_le (z := z) (T := T) (a + 1)
      by_cases n0 : num z T (a + 1) = 0
      · refine Or.inl ⟨a + 1, I, by omega, ?_, fun _ _ _ _ => rfl, fun K m' hm' hK => ?_⟩
        · rw [G_X7_readInto_8, kif_neg n20, kif_pos b.2, b.1, kif_neg ((wof _ I J).1 l).2, eF, kif_pos rfl, nI_1, kbd_eq cd, kbd_eq cn, n0, kif_pos (show nI 0 = 0 from rfl)]
        · obtain ⟨m', rfl⟩ : ∃ x, m' = x + 1 := ⟨m' - 1, by omega⟩
          obtain ⟨hQ, h10, h12, _⟩ := hK
          have e := (M_run hQ J a r (by omega) (by omega) h10 h12).2.1 (by omega) l n0
          obtain ⟨K', e2, f1, f2, f3, f4⟩ := M_fault (K := kw K 11 0 10 (nI (a + 1))) J (a + 1) m' (by rw [kw_app, if_pos ⟨rfl, rfl, rfl⟩])
          refine ⟨K', ?_, fun t o j q1 q2 q3 q4 => ?_, f2, ?_, ?_⟩
          · unfold skyM
            rw [kbd_eq e]
            exact e2
          · rw [f1 t o j q1 q2 q3 q4, kw_at _ _ (by omega)]
          · rw [f3, kw_at _ _ (by omega)]
          · rw [f4]
            exact funext fun j => kw_at _ _ (by omega)
      · obtain ⟨w9, hw9, ew9⟩ := wlt_n (bt z T a)
        obtain ⟨d, hd⟩ : ∃ d, d = ndg z T (a + 1) := ⟨_, rfl⟩
        obtain ⟨v, hv⟩ : ∃ v, v = num z T (a + 1) := ⟨_, rfl⟩
        rw [← hd, ← hv] at nl
        rw [← hd] at cd cn
        rw [← hv] at cn n0
        have d12 : 1 ≤ d ∧ d ≤ 2 := ⟨by have := nl.2.1 n0; omega, nl.2.2.1⟩
        have dz := nl.2.2.2 (by omega)
        have v0 : ¬ nI v = 0 := fun y => n0 (nI_inj (b := 0) (by omega) (by omega) y)
        have ap := C_append J (show r < 20 by omega) (nI w9) (nI v) hS.1
        obtain ⟨I1, hI1⟩ : ∃ I1, I1 = apX I r (nI w9) (nI v) (I 5 3 3) := ⟨_, rfl⟩
        rw [← hI1] at ap
        have f1 : frC I I1 := by rw [hI1]; exact apX_ne _ _ _ _ _
        have i71 : I1 7 0 1 = nI z := (f1 _ _ _ (by omega)).trans hT.1
        have hT1 : TP I1 z T := ⟨i71, hz, fun k hk => by rw [f1 _ _ _ (by omega)]; exact hT.2.2 k hk⟩
        obtain ⟨w', hw'⟩ : ∃ w' : Nat → Nat, w' = fun x => if x = r then w9 else w x := ⟨_, rfl⟩
        obtain ⟨ln', hln'⟩ : ∃ ln' : Nat → Nat, ln' = fun x => if x = r then v else ln x := ⟨_, rfl⟩
        have hS1 : SI I1 (r + 1) w' ln' := by
          rw [hI1]
          unfold apX
          refine ⟨by rw [kw_at _ _ (by omega), kw_app, if_pos ⟨rfl, rfl, rfl⟩], ?_, fun i hi => ?_⟩
          · rw [kw_app, if_pos ⟨rfl, rfl, rfl⟩, hS.2.1, nI_add, hln', lsum_snoc]
          · rw [kw_at _ _ (by omega), kw_at _ _ (by omega), kw_at _ _ (by omega), kw_app, kw_at _ _ (by omega), kw_at _ _ (by omega), kw_app, kw_at _ _ (by omega), hw', hln']
            dsimp only
            by_cases y : i = r
            · rw [if_pos y, if_pos y, if_pos ⟨rfl, rfl, y⟩, if_pos ⟨rfl, rfl, y⟩]
              exact ⟨rfl, rfl⟩
            · rw [if_neg y, if_neg y, if_neg (fun x => y x.2.2), if_neg (fun x => y x.2.2)]
              exact hS.2.2 i (by omega)
        have hW1 : okW (r + 1) w' ln' := fun i hi => by
          rw [hw', hln']
          dsimp only
          by_cases y : i = r
          · rw [if_pos y, if_pos y]
            exact ⟨hw9, by omega, nl.1⟩
          · rw [if_neg y, if_neg y]
            exact hW i (by omega)
        have eat : nI a + ((1 : Int32) + nI d) = nI (a + (1 + d)) := by
          have e1 : (1 : Int32) + nI d = nI (1 + d) := nI_add 1 d
          rw [e1, nI_add]
        have clS : ∀ R, kif (nI (a + (1 + d)) = nI z) (some ((-1 : Int32), I1, J)) (kif (bt z T (a + (1 + d)) = 32) (G_X7_readInto 0 3 m 8 (nI (a + (1 + d) + 1)) (nI (r + 1)) I1 J) (some (nI (a + (1 + d)), I1, J))) = R → G_X7_readInto 0 3 (m + 1) 8 (nI a) (nI r) I J = R := fun R hR => by
          have b2 := byteC hT1 (a + (1 + d)) (by omega) J
          rw [G_X7_readInto_8, kif_neg n20, kif_pos b.2, b.1, kif_neg ((wof _ I J).1 l).2, eF, kif_pos rfl, nI_1, kbd_eq cd, kbd_eq cn, kif_neg v0, ((wof _ I J).1 l).1, ew9, kif_pos ap.2, ap.1]
          dsimp only
          rw [eat, i71, kif_pos b2.2, b2.1, nI_1, nI_1]
          exact hR
        have mdS : ∀ K, SK K z T a r w ln → ∃ K1, E_X11_isRun K J = some (1, K1, J) ∧ SK K1 z T (a + (1 + d)) (r + 1) w' ln' ∧ (∀ t o j, ¬ (t = 11 ∧ o = 0 ∧ (j = 10 ∨ j = 12)) → ¬ (t = 44 ∧ o = 0) → K1 t o j = K t o j) := fun K hK => by
          obtain ⟨hQ, h10, h12, hb⟩ := hK
          have e := (M_run hQ J a r (by omega) (by omega) h10 h12).2.2 (by omega) l (by rw [← hv]; exact n0)
          rw [← hd, ← hv, ew9] at e
          have fr : ∀ t o j, ¬ (t = 11 ∧ o = 0 ∧ (j = 10 ∨ j = 12)) → ¬ (t = 44 ∧ o = 0) → rnX (kw K 11 0 10 (nI (a + 1))) (a + 1 + d) r (nI w9) v t o j = K t o j := fun t o j q1 q2 => by
            unfold rnX
            rw [kw_at _ _ (by omega), kw_at _ _ (by omega), kw_at _ _ (by omega), kw_at _ _ (by omega), kw_at _ _ (by omega)]
          refine ⟨_, e, ⟨⟨by rw [fr _ _ _ (by omega) (by omega)]; exact hQ.1, hz, fun k hk => by rw [fr _ _ _ (by omega) (by omega)]; exact hQ.2.2 k hk⟩, ?_, ?_, fun i hi => ?_⟩, fr⟩
          · unfold rnX
            rw [kw_at _ _ (by omega), kw_at _ _ (by omega), kw_at _ _ (by omega), kw_app, if_pos ⟨rfl, rfl, rfl⟩]
            rw [show a + 1 + d = a + (1 + d) by omega]
          · unfold rnX
            rw [kw_app, if_pos ⟨rfl, rfl, rfl⟩]
          · rw [rnX_44, rnX_44, hw', hln']
            dsimp only
            by_cases y : i = r
            · rw [if_pos y, if_pos y, if_neg (show ¬ 2 * i = 2 * r + 1 by omega), if_pos (show 2 * i = 2 * r by omega), if_pos (show 2 * i + 1 = 2 * r + 1 by omega)]
              exact ⟨rfl, rfl⟩
            · rw [if_neg y, if_neg y, if_neg (show ¬ 2 * i = 2 * r + 1 by omega), if_neg (show ¬ 2 * i = 2 * r by omega), if_neg (show ¬ 2 * i + 1 = 2 * r + 1 by omega), if_neg (show ¬ 2 * i + 1 = 2 * r by omega), kw_at _ _ (by omega), kw_at _ _ (by omega)]
              exact hb i (by omega)
        by_cases ez : a + (1 + d) = z
        · refine Or.inr ⟨r + 1, w', ln', I1, by omega, by omega, clS _ (by rw [kif_pos (by rw [ez])]), f1, hS1, hW1, fun K m' hm' hK => ?_⟩
          obtain ⟨m', rfl⟩ : ∃ x, m' = x + 1 := ⟨m' - 1, by omega⟩
          obtain ⟨K1, e1, k1, fr⟩ := mdS K hK
          obtain ⟨kq, k10, k12, kb⟩ := k1
          rw [ez] at k10
          obtain ⟨K', e2, g1, g2, g3, g4⟩ := M_good (K := K1) J z (r + 1) m' w' ln' (by omega) (by omega) kq.1 k10 k12 kb (by omega)
          refine ⟨K', ?_, fun t o j q1 q2 q3 q4 => ?_, g2, ?_, ?_⟩
          · unfold skyM
            rw [kbd_eq e1]
            exact e2
          · rw [g1 t o j q1 q2 q3 q4, fr t o j (by omega) q2]
          · rw [g3, fr _ _ _ (by omega) (by omega)]
          · rw [g4]
            have k41 : K1 41 0 = K 41 0 := funext fun j => fr _ _ _ (by omega) (by omega)
            rw [k41]
        · have nz : ¬ nI (a + (1 + d)) = nI z := fun y => ez (nI_inj (by omega) (by omega) y)
          by_cases b32 : bt z T (a + (1 + d)) = 32
          · have more := ih (r + 1) (a + (1 + d) + 1) I1 w' ln' m (by omega) (by omega) (by omega) hT1 hS1 hW1
            have mdN : ∀ K m', 100 ≤ m' → SK K z T a r w ln → ∃ K2, SK K2 z T (a + (1 + d) + 1) (r + 1) w' ln' ∧ skyM K J (m' + 1) = skyM K2 J m' ∧ (∀ t o j, ¬ (t = 11 ∧ o = 0 ∧ (j = 10 ∨ j = 12)) → ¬ (t = 44 ∧ o = 0) → K2 t o j = K t o j) := fun K m' hm' hK => by
              obtain ⟨K1, e1, k1, fr⟩ := mdS K hK
              obtain ⟨kq, k10, k12, kb⟩ := k1
              have b2 := byteM kq (a + (1 + d)) (by omega) J
              have nle : ¬ K1 11 0 9 ≤ K1 11 0 10 := by rw [kq.1, k10, i_le (by omega) (by omega)]; omega
              refine ⟨kw K1 11 0 10 (nI (a + (1 + d) + 1)), ⟨TQ_kw kq _, by rw [kw_app, if_pos ⟨rfl, rfl, rfl⟩], by rw [kw_at _ _ (by omega)]; exact k12, fun i hi => by rw [kw_at _ _ (by omega), kw_at _ _ (by omega)]; exact kb i hi⟩, ?_, fun t o j q1 q2 => by rw [kw_at _ _ (by omega), fr t o j q1 q2]⟩
              unfold skyM
              rw [kbd_eq e1]
              dsimp only
              rw [G_X11_sky_15, kif_neg z1, kif_neg nle, k10, kif_pos b2.2, b2.1, kif_pos b32, kif_neg z1, nI_1]
            rcases more with ⟨x, I', hx, e1, f2, md⟩ | ⟨R, w2, ln2, I', hR1, hR2, e1, f2, s2, o2, md⟩
            · refine Or.inl ⟨x, I', hx, clS _ (by rw [kif_neg nz, kif_pos b32]; exact e1), frC_tr f1 f2, fun K m' hm' hK => ?_⟩
              obtain ⟨m', rfl⟩ : ∃ x, m' = x + 1 := ⟨m' - 1, by omega⟩
              obtain ⟨K2, k2, e2, fr⟩ := mdN K m' (by omega) hK
              obtain ⟨K', e3, g1, g2, g3, g4⟩ := md K2 m' (by omega) k2
              refine ⟨K', e2.trans e3, fun t o j q1 q2 q3 q4 => ?_, g2, ?_, ?_⟩
              · rw [g1 t o j q1 q2 q3 q4, fr t o j (by omega) q2]
              · rw [g3, fr _ _ _ (by omega) (by omega)]
              · rw [g4]
                exact funext fun j => fr _ _ _ (by omega) (by omega)
            · refine Or.inr ⟨R, w2, ln2, I', hR1, hR2, clS _ (by rw [kif_neg nz, kif_pos b32]; exact e1), frC_tr f1 f2, s2, o2, fun K m' hm' hK => ?_⟩
              obtain ⟨m', rfl⟩ : ∃ x, m' = x + 1 := ⟨m' - 1, by omega⟩
              obtain ⟨K2, k2, e2, fr⟩ := mdN K m' (by omega) hK
              obtain ⟨K', e3, g1, g2, g3, g4⟩ := md K2 m' (by omega) k2
              refine ⟨K', e2.trans e3, fun t o j q1 q2 q3 q4 => ?_, g2, ?_, ?_⟩
              · rw [g1 t o j q1 q2 q3 q4, fr t o j (by omega) q2]
              · rw [g3, fr _ _ _ (by omega) (by omega)]
              · rw [g4]
                have k41 : K2 41 0 = K 41 0 := funext fun j => fr _ _ _ (by omega) (by omega)
                rw [k41]
          · refine Or.inl ⟨a + (1 + d), I1, by omega, clS _ (by rw [kif_neg nz, kif_neg b32]), f1, fun K m' hm' hK => ?_⟩
            obtain ⟨m', rfl⟩ : ∃ x, m' = x + 2 := ⟨m' - 2, by omega⟩
            obtain ⟨K1, e1, k1, fr⟩ := mdS K hK
            obtain ⟨kq, k10, k12, kb⟩ := k1
            have b2 := byteM kq (a + (1 + d)) (by omega) J
            have nle : ¬ K1 11 0 9 ≤ K1 11 0 10 := by rw [kq.1, k10, i_le (by omega) (by omega)]; omega
            obtain ⟨K', e2, g1, g2, g3, g4⟩ := M_fault (K := K1) J (a + (1 + d)) m' k10
            refine ⟨K', ?_, fun t o j q1 q2 q3 q4 => ?_, g2, ?_, ?_⟩
            · unfold skyM
              rw [kbd_eq e1]
              dsimp only
              rw [G_X11_sky_15, kif_neg z1, kif_neg nle, k10, kif_pos b2.2, b2.1, kif_neg b32, kif_pos rfl]
              exact e2
            · rw [g1 t o j q1 q2 q3 q4, fr t o j (by omega) q2]
            · rw [g3, fr _ _ _ (by omega) (by omega)]
            · rw [g4]
              exact funext fun j => fr _ _ _ (by omega) (by omega)
    · refine Or.inl ⟨a, I, by omega, ?_, fun _ _ _ _ => rfl, fun K m' hm' hK => ?_⟩
      · rw [G_X7_readInto_8, kif_neg n20, kif_pos b.2, b.1, kif_pos ((wof _ I J).2 l)]
      · obtain ⟨m', rfl⟩ : ∃ x, m' = x + 1 := ⟨m' - 1, by omega⟩
        obtain ⟨hQ, h10, h12, _⟩ := hK
        have e := (M_run hQ J a r (by omega) (by omega) h10 h12).1 (Or.inr l)
        obtain ⟨K', e2, f2⟩ := M_fault (K := K) J a m' h10
        refine ⟨K', ?_, f2⟩
        unfold skyM
        rw [kbd_eq e]
        exact e2

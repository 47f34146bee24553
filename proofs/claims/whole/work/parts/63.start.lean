theorem kx_classes {args : Array Value} {s : State} (hts : ∀ w ∈ kx_tbl, w.before args s = true) : ∃ (dC : Nat → ClassId) (dI : Nat → Nat → Nat), ∀ (k : Nat) (q : vw_C), vwCl[k]? = some q → u_Kn s q.1 q.2.1 q.2.2 (dC k) (dI k) := by
  have h : ∀ k : Nat, ∃ z : ClassId × (Nat → Nat), ∀ q : vw_C, vwCl[k]? = some q → u_Kn s q.1 q.2.1 q.2.2 z.1 z.2 := by
    intro k
    match k with
    | 0 =>
      obtain ⟨cC, iS, h⟩ := u_known (C := RX0) (T := TX0) (N := 5) (n := 5) hts kf_0.2.2.1 (hts _ kw_84)
      exact ⟨(cC, iS), fun q hq => by cases hq; exact h⟩
    | 1 =>
      obtain ⟨cC, iS, h⟩ := u_known (C := RX1) (T := TX1) (N := 6) (n := 6) hts kf_1.2.2.1 (hts _ kw_58)
      exact ⟨(cC, iS), fun q hq => by cases hq; exact h⟩
    | 2 =>
      obtain ⟨cC, iS, h⟩ := u_known (C := RX2) (T := TX2) (N := 6) (n := 6) hts kf_2.2.2.1 (hts _ kw_192)
      exact ⟨(cC, iS), fun q hq => by cases hq; exact h⟩
    | 3 =>
      obtain ⟨cC, iS, h⟩ := u_known (C := RX3) (T := TX3) (N := 5) (n := 5) hts kf_3.2.2.1 (hts _ kw_220)
      exact ⟨(cC, iS), fun q hq => by cases hq; exact h⟩
    | 4 =>
      obtain ⟨cC, iS, h⟩ := u_known (C := RX4) (T := TX4) (N := 3) (n := 3) hts kf_4.2.2.1 (hts _ kw_320)
      exact ⟨(cC, iS), fun q hq => by cases hq; exact h⟩
    | 5 =>
      obtain ⟨cC, iS, h⟩ := u_known (C := RX5) (T := TX5) (N := 4) (n := 4) hts kf_5.2.2.1 (hts _ kw_37)
      exact ⟨(cC, iS), fun q hq => by cases hq; exact h⟩
    | 6 =>
      obtain ⟨cC, iS, h⟩ := u_known (C := RX6) (T := TX6) (N := 17) (n := 17) hts kf_6.2.2.1 (hts _ kw_31)
      exact ⟨(cC, iS), fun q hq => by cases hq; exact h⟩
    | 7 =>
      obtain ⟨cC, iS, h⟩ := u_known (C := RX7) (T := TX7) (N := 2) (n := 2) hts kf_7.2.2.1 (hts _ kw_303)
      exact ⟨(cC, iS), fun q hq => by cases hq; exact h⟩
    | 8 =>
      obtain ⟨cC, iS, h⟩ := u_known (C := RX8) (T := TX8) (N := 6) (n := 6) hts kf_8.2.2.1 (hts _ kw_271)
      exact ⟨(cC, iS), fun q hq => by cases hq; exact h⟩
    | 9 =>
      obtain ⟨cC, iS, h⟩ := u_known (C := RX9) (T := TX9) (N := 6) (n := 6) hts kf_9.2.2.1 (hts _ kw_25)
      exact ⟨(cC, iS), fun q hq => by cases hq; exact h⟩
    | 10 =>
      obtain ⟨cC, iS, h⟩ := u_known (C := RX10) (T := TX10) (N := 8) (n := 8) hts kf_10.2.2.1 (hts _ kw_17)
      exact ⟨(cC, iS), fun q hq => by cases hq; exact h⟩
    | 11 =>
      obtain ⟨cC, iS, h⟩ := u_known (C := RX11) (T := TX11) (N := 21) (n := 21) hts kf_11.2.2.1 (hts _ kw_1029)
      exact ⟨(cC, iS), fun q hq => by cases hq; exact h⟩
    | k + 12 => exact ⟨(0, id), fun q hq => by simp [vwCl] at hq⟩
  obtain ⟨f, hf⟩ := Classical.skolem.mp h
  exact ⟨fun k => (f k).1, fun k => (f k).2, fun k q hq => hf k q hq⟩
theorem kx_arrs {args : Array Value} {s : State} {ty : FieldType} (h : (Cond.arrayClass ty).before args s = true) (hr : ∀ cA, s.vm.findClass ("[" ++ ty.toString) = some cA → va_RA s cA ty) : ∃ cA, ArrOfT s cA ty ∧ va_RA s cA ty := by
  obtain ⟨cA, kA, comp, h1, h2, h3⟩ := Cond.arrayClass_spec h
  exact ⟨cA, fun n z => ⟨fun k h => (by cases h), kA, h2, comp, h3⟩, hr cA h1⟩
set_option maxHeartbeats 4000000 in
set_option maxRecDepth 100000 in
theorem kx_whole {p : Program} {e : Env} {s : State} {m : MethodId} {below : List Frame} {meth : Method} {c : Code} (l : Launch) {b L : Nat} {xs : Nat → Int32} (C0 : lw_At p s m meth c b L xs) (hrun : kx_Run (tb_law xs L) (kx_NC, fun _ _ => True) 0 [some (kx_r 999 0), none, none, none] [] (fun _ _ _ => 0, fun _ _ _ => 0, some 0)) : W p l e room_1 s m #[Value.ref b] below meth c s.heap [] 0 0 (lw_Z below #[Value.ref b] s) (entryFrame m ([Value.ref b] : List Value).toArray 4) := by
  obtain ⟨hx, hb, hr, hml, hown, hts0, hX, hbl, hlocks, hgv⟩ := id C0
  have hts : ∀ w ∈ kx_tbl, w.before #[Value.ref b] s = true := fun w hw => hts0 w (List.mem_filter.mp hw).1
  obtain ⟨dC, dI, hKc⟩ := kx_classes hts
  obtain ⟨cI, hI1, hI2⟩ := kx_arrs (ty := .int) (hts _ kw_56) (fun _ h => h)
  obtain ⟨cJ, hJ1, hJ2⟩ := kx_arrs (ty := .long) (hts _ kw_335) (fun _ h => h)
  obtain ⟨cZ, hZ1, hZ2⟩ := kx_arrs (ty := .boolean) (hts _ kw_1098) (fun _ h => h)
  have hAO : (Cond.arrayOver (.object "KeptLight$Shelf")).before #[Value.ref b] s = true := hts0 _ (List.mem_of_getElem? (i := 369) (by decide +kernel))
  obtain ⟨comp, cR, kR, g1, g2, g3, g4, g5⟩ := Cond.arrayOver_spec hAO
  have hK : va_K (dC, dI) vwCl (kx_tys (cI, cJ, cZ, cR)) s := by
    refine ⟨hKc, fun k q hq => ?_⟩
    match k, hq with
    | 0, hq => cases hq; exact ⟨hI1, hI2⟩
    | 1, hq => cases hq; exact ⟨hJ1, hJ2⟩
    | 2, hq => cases hq; exact ⟨hZ1, hZ2⟩
    | 3, hq => cases hq; exact ⟨fun n z => ⟨fun k h => (by cases h), kR, g3, comp, g4⟩, kR, comp, g3, g4, g1, g5⟩
    | k + 4, hq => simp [kx_tys] at hq
  have hN : kx_nst s := by
    refine ⟨fun q hq => ?_, va_AO.of hAO⟩
    have hm : ∀ q ∈ kx_nl, Cond.methodLinkNest q.1 q.2.1 q.2.2.1 q.2.2.2 ∈ lw_tbl := by decide +kernel
    exact va_Nw.of rfl (hts0 _ (hm q hq))
  have X : kx_Ctx p room_1 s m #[Value.ref b] c code "KeptLightLaw" 4 (dC, dI) (cI, cJ, cZ, cR) (fun q => s.heap.size ≤ q) 0 (kx_NC, fun _ _ => True) := ⟨⟨hx, hb, hml, hown, hts⟩, hK, hN, fun q hq => hq, by decide, by decide +kernel, Nat.le_refl _⟩
  have hw := kx_sound (kd_law (e := e) (l := l) (below := below) (ad0 := fun _ => b) X hr hlocks hX hbl (Nat.not_le.mpr hbl) rfl) hrun
  have hl := lv_entry ([.ref b]) (n := 4) (Nat.le_of_ble_eq_true rfl)
  rw [lg_entry_eq]
  have hc0 : kx_cnt ((fun _ _ _ => 0, fun _ _ _ => 0, some 0) : kx_S) = 0 := rfl
  refine hw (fun _ => b) s.heap [] _ kx_agree.rf ⟨Nat.zero_le _, by rw [hc0]; exact Nat.zero_le _⟩ ?_ trivial ?_ ?_ ?_ va_S.rf ⟨hl.1, hl.2.1, ?_⟩
  · rw [kx_hv_some (k := 0) rfl]
    exact ⟨Nat.zero_le _, fun t o j t2 o2 h1 => absurd h1 (Nat.not_lt_zero _)⟩
  · intro i v hi
    match i, hi with
    | 0, hi => cases hi; exact Or.inr rfl
    | 1, hi => cases hi
    | 2, hi => cases hi
    | 3, hi => cases hi
    | i + 4, hi => simp at hi
  · intro k q hq
    have := (kx_ws_get hq).1
    rw [hc0] at this
    exact absurd this (Nat.not_lt_zero _)
  · refine ⟨fun i j p q hp => ?_, fun k q hq => ?_⟩
    · have := (kx_ws_get hp).1
      rw [hc0] at this
      exact absurd this (Nat.not_lt_zero _)
    · have := (kx_ws_get hq).1
      rw [hc0] at this
      exact absurd this (Nat.not_lt_zero _)
  · intro i v hi
    match i, hi with
    | 0, hi => cases hi; exact hl.2.2 (0, .ref b) (List.mem_cons_self)
    | 1, hi => cases hi
    | 2, hi => cases hi
    | 3, hi => cases hi
    | i + 4, hi => simp at hi

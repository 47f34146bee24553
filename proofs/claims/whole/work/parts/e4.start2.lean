/-! the law's beginning, with the objects all made where its turns begin -/
set_option maxHeartbeats 4000000 in
set_option maxRecDepth 100000 in
theorem kx_whole2 {p : Program} {e : Env} {s : State} {m : MethodId} {below : List Frame} {meth : Method} {c : Code} (l : Launch) {b L : Nat} {xs : Nat → Int32} (C0 : lw_At p s m meth c b L xs) (hrun : kx_Run (tb_law2 xs L) (kx_NC, fun _ _ => True) 0 [some (kx_r 999 0), none, none, none] [] (fun _ _ _ => 0, fun _ _ _ => 0, some 0)) : W p l e room_1 s m #[Value.ref b] below meth c s.heap [] 0 0 (lw_Z below #[Value.ref b] s) (entryFrame m ([Value.ref b] : List Value).toArray 4) := by
  obtain ⟨hx, hb, hr, hml, hown, hts0, hX, hbl, hlocks, hgv⟩ := id C0
  have hts : ∀ w ∈ kx_tbl, w.before #[Value.ref b] s = true := fun w hw => hts0 w (List.mem_filter.mp hw).1
  obtain ⟨dC, dI, hKc⟩ := kx_classes hts
  obtain ⟨cI, hI1, hI2⟩ := kx_arrs (ty := .int) (hts _ kw_56) (fun _ h => h)
  obtain ⟨cJ, hJ1, hJ2⟩ := kx_arrs (ty := .long) (hts _ kw_335) (fun _ h => h)
  obtain ⟨cZ, hZ1, hZ2⟩ := kx_arrs (ty := .boolean) (hts _ kw_1098) (fun _ h => h)
  have hAO : (Cond.arrayOver (.object "KeptLight$Shelf")).before #[Value.ref b] s = true := hts0 _ (List.mem_of_getElem? (i := 369) (by decide +kernel))
  obtain ⟨comp, cR, kR, g1, g2, g3, g4, g5⟩ := Cond.arrayOver_spec hAO
  have hK : va_K (dC, dI) vwCl (kx_tys (cI, cJ, cZ, cR)) s := by
    refine ⟨hKc, fun k q hq => ?_⟩
    match k, hq with
    | 0, hq => cases hq; exact ⟨hI1, hI2⟩
    | 1, hq => cases hq; exact ⟨hJ1, hJ2⟩
    | 2, hq => cases hq; exact ⟨hZ1, hZ2⟩
    | 3, hq => cases hq; exact ⟨fun n z => ⟨fun k h => (by cases h), kR, g3, comp, g4⟩, kR, comp, g3, g4, g1, g5⟩
    | k + 4, hq => simp [kx_tys] at hq
  have hN : kx_nst s := by
    refine ⟨fun q hq => ?_, va_AO.of hAO⟩
    have hm : ∀ q ∈ kx_nl, Cond.methodLinkNest q.1 q.2.1 q.2.2.1 q.2.2.2 ∈ lw_tbl := by decide +kernel
    exact va_Nw.of rfl (hts0 _ (hm q hq))
  have X : kx_Ctx p room_1 s m #[Value.ref b] c code "KeptLightLaw" 4 (dC, dI) (cI, cJ, cZ, cR) (fun q => s.heap.size ≤ q) 0 (kx_NC, fun _ _ => True) := ⟨⟨hx, hb, hml, hown, hts⟩, hK, hN, fun q hq => hq, by decide, by decide +kernel, Nat.le_refl _⟩
  have hd0 := kd_law (e := e) (l := l) (below := below) (ad0 := fun _ => b) X hr hlocks hX hbl (Nat.not_le.mpr hbl) rfl
  have hw := kx_sound (tb := tb_law2 xs L) (fun pc => by
    show kx_Snd _ _ pc (bif Nat.beq pc 16 then ki_frz (tb_law xs L 16) else tb_law xs L pc)
    cases hb9 : Nat.beq pc 16 with
    | false => exact hd0 pc
    | true =>
      obtain rfl := Nat.eq_of_beq_eq_true hb9
      exact ks_frz (hd0 16)) hrun
  have hl := lv_entry ([.ref b]) (n := 4) (Nat.le_of_ble_eq_true rfl)
  rw [lg_entry_eq]
  have hc0 : kx_cnt ((fun _ _ _ => 0, fun _ _ _ => 0, some 0) : kx_S) = 0 := rfl
  refine hw (fun _ => b) s.heap [] _ kx_agree.rf ⟨Nat.zero_le _, by rw [hc0]; exact Nat.zero_le _⟩ ?_ trivial ?_ ?_ ?_ va_S.rf ⟨hl.1, hl.2.1, ?_⟩
  · rw [kx_hv_some (k := 0) rfl]
    exact ⟨Nat.zero_le _, fun t o j t2 o2 h1 => absurd h1 (Nat.not_lt_zero _)⟩
  · intro i v hi
    match i, hi with
    | 0, hi => cases hi; exact Or.inr rfl
    | 1, hi => cases hi
    | 2, hi => cases hi
    | 3, hi => cases hi
    | i + 4, hi => simp at hi
  · intro k q hq
    have := (kx_ws_get hq).1
    rw [hc0] at this
    exact absurd this (Nat.not_lt_zero _)
  · refine ⟨fun i j p q hp => ?_, fun k q hq => ?_⟩
    · have := (kx_ws_get hp).1
      rw [hc0] at this
      exact absurd this (Nat.not_lt_zero _)
    · have := (kx_ws_get hq).1
      rw [hc0] at this
      exact absurd this (Nat.not_lt_zero _)
  · intro i v hi
    match i, hi with
    | 0, hi => cases hi; exact hl.2.2 (0, .ref b) (List.mem_cons_self)
    | 1, hi => cases hi
    | 2, hi => cases hi
    | 3, hi => cases hi
    | i + 4, hi => simp at hi

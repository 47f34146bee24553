/-! the sky's text -/
def lw_PS (cB : ClassId) (r : Option Value) (w : va_W) : Prop := ∃ (q u n : Nat) (f : Nat → Int32), n < 16 ∧ sb_Fit f ∧ r = some (.ref q) ∧ w = [(q, .inr (11, [.ref u, .int 0, .int 0, .int 0])), (u, .inl (cB, n, .inl f))]
def sj_K (k0 k1 k2 : Nat) (A : Nat → Prop) (U : State) (H : Heap) : Prop := vk_R RL 29 "" k0 U ∧ vk_R RL 42 " " k1 U ∧ vk_R RL 44 "cfs" k2 U ∧ sj_str k0 0 A U H ∧ sj_str k1 1 A U H ∧ sj_str k2 3 A U H
theorem vk_wm {own tx : String} {k a : Nat} {u U : State} (h : u.WarmedH U.vm ∨ U.vm = u.vm) (q : vk_R own k tx a u) : vk_R own k tx a U := by
  rcases h with h | h
  · exact vk_R.warm h q
  · exact vk_R.same h q
theorem sj_EK (k0 k1 k2 : Nat) : sq_Ext (sj_K k0 k1 k2) := by
  refine ⟨fun A u U H hv h => ?_, fun A U H H1 h hq => ?_, fun A B U H h hAB => ?_⟩
  · obtain ⟨h1, h2, h3, h4, h5, h6⟩ := h
    exact ⟨vk_wm hv h1, vk_wm hv h2, vk_wm hv h3, (sj_Es _ _).1 _ _ _ _ hv h4, (sj_Es _ _).1 _ _ _ _ hv h5, (sj_Es _ _).1 _ _ _ _ hv h6⟩
  · obtain ⟨h1, h2, h3, h4, h5, h6⟩ := h
    exact ⟨h1, h2, h3, (sj_Es _ _).2.1 _ _ _ _ h4 hq, (sj_Es _ _).2.1 _ _ _ _ h5 hq, (sj_Es _ _).2.1 _ _ _ _ h6 hq⟩
  · obtain ⟨h1, h2, h3, h4, h5, h6⟩ := h
    exact ⟨h1, h2, h3, (sj_Es _ _).2.2 _ _ _ _ h4 hAB, (sj_Es _ _).2.2 _ _ _ _ h5 hAB, (sj_Es _ _).2.2 _ _ _ _ h6 hAB⟩
def sj_SK (b L : Nat) (xs : Nat → Int32) (k0 k1 k2 : Nat) (A : Nat → Prop) (U : State) (H : Heap) : Prop := sj_XB b L xs A U H ∧ sj_K k0 k1 k2 A U H
theorem sj_ESK (b L : Nat) (xs : Nat → Int32) (k0 k1 k2 : Nat) : sq_Ext (sj_SK b L xs k0 k1 k2) := sq_and (sj_EXB b L xs) (sj_EK k0 k1 k2)
theorem lRuns_v (xs : Nat → Int32) (L : Nat) : ∃ k, 1 ≤ k ∧ k ≤ 4 ∧ lRuns xs L = nI k := by
  obtain ⟨j, hj, e⟩ := pk_andE (la xs L 0) (m := 3) 2 (by decide)
  exact ⟨1 + j, by omega, by omega, by unfold lRuns; rw [e]; exact nI_add 1 j⟩
/-- a cell that a callee doesn't get -/
theorem sj_out {A : Nat → Prop} {D : va_G} {ws wc : va_W} {H : Heap} {t : Nat} {x : va_E} (isC : List Nat) (hC : isC.map (fun i => ws[i]?) = wc.map some) (hD : va_D A ws) (hP : va_P D vwCl ws H) (i : Nat) (hi : ws[i]? = some (t, x)) (hn : i ∉ isC) : ¬ va_A wc H.size t := by
  have hl := (hP i _ hi).lt
  rintro (⟨k, e, h⟩ | h)
  · have h1 : (isC.map (fun i => ws[i]?))[k]? = some (some (t, e)) := by rw [hC, List.getElem?_map, h]; rfl
    rw [List.getElem?_map] at h1
    cases hk : isC[k]? with
    | none => rw [hk] at h1; cases h1
    | some j =>
      rw [hk] at h1
      have h4 : ws[j]? = some (t, e) := Option.some.inj h1
      have hij := hD.1 i j _ _ hi h4 rfl
      subst hij
      exact hn (List.mem_of_getElem? hk)
  · have hl2 : t < H.size := hl
    omega
set_option maxRecDepth 100000 in
set_option maxHeartbeats 4000000 in
theorem cl_sky (l : Launch) {D : va_G} {cB : ClassId} {b L k0 k1 k2 : Nat} {xs : Nat → Int32} (hL : L < 2 ^ 31) : sq_ok l yL_sky cL_sky 3 (some (.object "java/lang/String")) ({ frames := 6, cells := 16, slots := 160, locals := 151 }) D [(cB, .byte)] (sj_SK b L xs k0 k1 k2) [.ref b] [] (lw_PS cB) 16 160 := by
  refine sq_met (by decide +kernel) (Nat.le_of_ble_eq_true rfl) ?_
  intro p e s m args below meth c A ls hC hlocks hr hin hP hK hD hA hX hl
  obtain ⟨hx, hb, hml, hown, hts⟩ := id hC
  have hS : va_S A s.heap s.heap [] := va_S.rf
  have hl : lv_has ls 3 [(0, .ref b)] := hl
  obtain ⟨R9, hR1, hR4, hR⟩ := lRuns_v xs L
  have hXB : sj_B A s s.heap := hX.1.1
  have hXX : sj_X b L xs A s s.heap := hX.1.2
  obtain ⟨hk0, hk1, hk2, hs0, hs1, hs2⟩ := id hX.2
  have hX0 : sj_S k0 0 A s s.heap := ⟨hXB, hs0⟩
  have hX1 : sj_S k1 1 A s s.heap := ⟨hXB, hs1⟩
  have hX2 : sj_S k2 3 A s s.heap := ⟨hXB, hs2⟩
  have loop : ∀ (d r t u n : Nat) (f : Nat → Int32) (H : Heap) (locs : List Loc) (ls : Array Slot), r + d = R9 → 1 ≤ r → n + 1 ≤ 4 * r → sb_Fit f → va_P D vwCl [(t, .inr (11, [.ref u, .int 0, .int 0, .int 0])), (u, .inl (cB, n, .inl f))] H → va_D A [(t, .inr (11, [.ref u, .int 0, .int 0, .int 0])), (u, .inl (cB, n, .inl f))] → va_S A s.heap H locs → lv_has ls 3 [(2, .int (nI r)), (1, .ref t), (0, .ref b)] → W p l e ({ frames := 6, cells := 16, slots := 160, locals := 151 }) s m args below meth c H locs (4 * r) (40 * r) (MQ below (sq_Q D A (lw_PS cB)) args s 16 160 A) (F0 m 5 ls []) := by
    intro d
    induction d with
    | zero =>
      intro r t u n f H locs ls hd h1 hn hf hP hD hS hl
      have hF3 : n < 16 := by omega
      refine lv_iload_n hx hb (by decide +kernel : decode cL_sky 5 = .ok (.iload_n 2, 1)) rfl (lv_at hl 0 rfl) ?_
      refine lv_aload_n hx hb (by decide +kernel : decode cL_sky 6 = .ok (.aload_n 0, 1)) rfl (lv_at hl 2 rfl) ?_
      refine sq_cs (n := 1) (wr := [(t, .inr (11, [.ref u, .int 0, .int 0, .int 0])), (u, .inl (cB, n, .inl f))]) hC (cl_runs l (b := b) (L := L) (xs := xs) hL) ⟨rfl, rfl⟩ kw_712 kw_713 kw_714 kw_0 (by decide +kernel) rfl [] [0, 1] rfl rfl rfl rfl (by decide) (sj_EX b L xs) hK hP hD hS hA (sq_down (sj_EX b L xs) hXX hS (va_free hD hS hA [] rfl)) hl.1 rfl (Nat.le_of_ble_eq_true rfl) ⟨Nat.le_of_ble_eq_true rfl, Nat.le_of_ble_eq_true rfl⟩ ⟨by show 4 * r + 0 ≤ 16; omega, by show 40 * r + 0 ≤ 160; omega⟩ (by decide +kernel : decode cL_sky 7 = .ok (.invokestatic 31, 3)) (fun v9 w9 H locs h9 hP hD hS => ?_)
      obtain ⟨rfl, rfl⟩ := h9
      have hP : va_P D vwCl [(t, .inr (11, [.ref u, .int 0, .int 0, .int 0])), (u, .inl (cB, n, .inl f))] H := hP
      have hD : va_D A [(t, .inr (11, [.ref u, .int 0, .int 0, .int 0])), (u, .inl (cB, n, .inl f))] := hD
      refine W.eq (g2 := F0 m 10 ls [.int (lRuns xs L), .int (nI r)]) rfl ?_
      refine lv_topi (fun z9 e9 => ?_)
      obtain rfl : z9 = (nI R9) := by rw [e9]; exact hR
      refine lv_icmp_ge (tgt := 69) hx hb (by decide +kernel : decode cL_sky 10 = .ok (.if_icmp .ge 59, 3)) (by decide) (fun _ => ?_) (fun h9 => absurd (nI_le (by omega) (by omega)) h9)
      refine lv_aload_n hx hb (by decide +kernel : decode cL_sky 69 = .ok (.aload_n 1, 1)) rfl (lv_at hl 1 rfl) ?_
      refine W.widen (k := 16) (n := 160) (by omega) (by omega) ?_
      exact sq_aret hx hb hlocks hr (by first | exact Or.inl ⟨_, rfl⟩ | exact Or.inr ⟨_, rfl⟩) (⟨t, u, n, f, hF3, hf, rfl, rfl⟩) hP hD hS (by decide +kernel : decode cL_sky 70 = .ok (.areturn, 1))
    | succ d ih =>
      intro r t u n f H locs ls hd h1 hn hf hP hD hS hl
      have hF3 : n < 16 := by omega
      refine lv_iload_n hx hb (by decide +kernel : decode cL_sky 5 = .ok (.iload_n 2, 1)) rfl (lv_at hl 0 rfl) ?_
      refine lv_aload_n hx hb (by decide +kernel : decode cL_sky 6 = .ok (.aload_n 0, 1)) rfl (lv_at hl 2 rfl) ?_
      refine sq_cs (n := 1) (wr := [(t, .inr (11, [.ref u, .int 0, .int 0, .int 0])), (u, .inl (cB, n, .inl f))]) hC (cl_runs l (b := b) (L := L) (xs := xs) hL) ⟨rfl, rfl⟩ kw_712 kw_713 kw_714 kw_0 (by decide +kernel) rfl [] [0, 1] rfl rfl rfl rfl (by decide) (sj_EX b L xs) hK hP hD hS hA (sq_down (sj_EX b L xs) hXX hS (va_free hD hS hA [] rfl)) hl.1 rfl (Nat.le_of_ble_eq_true rfl) ⟨Nat.le_of_ble_eq_true rfl, Nat.le_of_ble_eq_true rfl⟩ ⟨by show 4 * r + 0 ≤ 16; omega, by show 40 * r + 0 ≤ 160; omega⟩ (by decide +kernel : decode cL_sky 7 = .ok (.invokestatic 31, 3)) (fun v9 w9 H locs h9 hP hD hS => ?_)
      obtain ⟨rfl, rfl⟩ := h9
      have hP : va_P D vwCl [(t, .inr (11, [.ref u, .int 0, .int 0, .int 0])), (u, .inl (cB, n, .inl f))] H := hP
      have hD : va_D A [(t, .inr (11, [.ref u, .int 0, .int 0, .int 0])), (u, .inl (cB, n, .inl f))] := hD
      refine W.eq (g2 := F0 m 10 ls [.int (lRuns xs L), .int (nI r)]) rfl ?_
      refine lv_topi (fun z9 e9 => ?_)
      obtain rfl : z9 = (nI R9) := by rw [e9]; exact hR
      refine lv_icmp_ge (tgt := 69) hx hb (by decide +kernel : decode cL_sky 10 = .ok (.if_icmp .ge 59, 3)) (by decide) (fun h9 => absurd h9 (nI_ge (by omega) (by omega))) (fun _ => ?_)
      refine va_new (ci := 12) (fs := [.null, .int 0, .int 0, .int 0]) (C := RJ4) (T := TJ4) (N := 4) hx hb hts sj_in4 tyJ4 tyJ4_ok hown (hts _ kw_715) (hts _ kw_716) (hts _ kw_14) hK hP hD hS hA rfl (fun j hj => by rcases (show j = 0 ∨ j = 1 ∨ j = 2 ∨ j = 3 by omega) with rfl | rfl | rfl | rfl <;> rfl) (by show 4 * r + 1 ≤ 16; omega) (by show 40 * r + 4 ≤ 160; omega) (by decide +kernel : decode cL_sky 13 = .ok (.new 35, 3)) (fun a H hP hD hS => ?_)
      have hP : va_P D vwCl [(t, .inr (11, [.ref u, .int 0, .int 0, .int 0])), (u, .inl (cB, n, .inl f)), (a, .inr (12, [.null, .int 0, .int 0, .int 0]))] H := hP
      have hD : va_D A [(t, .inr (11, [.ref u, .int 0, .int 0, .int 0])), (u, .inl (cB, n, .inl f)), (a, .inr (12, [.null, .int 0, .int 0, .int 0]))] := hD
      refine lv_dup hx hb (by decide +kernel : decode cL_sky 16 = .ok (.dup, 1)) rfl ?_
      refine sq_ci (n := 0) (wr := [(t, .inr (11, [.ref u, .int 0, .int 0, .int 0])), (u, .inl (cB, n, .inl f))]) hC (cj_init4 l (a := a)) ⟨rfl, rfl⟩ rfl kw_717 kw_718 kw_719 kw_14 (by decide +kernel) rfl [2] [0, 1] rfl rfl rfl rfl (by decide) sj_EB hK hP hD hS hA (sq_down sj_EB hXB hS (va_free hD hS hA [2] rfl)) hl.1 rfl (Nat.le_of_ble_eq_true rfl) ⟨Nat.le_of_ble_eq_true rfl, Nat.le_of_ble_eq_true rfl⟩ ⟨by show 4 * r + 1 + 1 ≤ 16; omega, by show 40 * r + 4 + 16 ≤ 160; omega⟩ (by decide +kernel : decode cL_sky 17 = .ok (.invokespecial 37, 3)) (fun v9 w9 H locs h9 hP hD hS => ?_)
      obtain ⟨rfl, v, rfl⟩ := h9
      have hP : va_P D vwCl [(t, .inr (11, [.ref u, .int 0, .int 0, .int 0])), (u, .inl (cB, n, .inl f)), (a, .inr (12, [.ref v, .int 0, .int 0, .int (nI 0)])), (v, .inl (cB, 16, .inl (fun _ => 0)))] H := hP
      have hD : va_D A [(t, .inr (11, [.ref u, .int 0, .int 0, .int 0])), (u, .inl (cB, n, .inl f)), (a, .inr (12, [.ref v, .int 0, .int 0, .int (nI 0)])), (v, .inl (cB, 16, .inl (fun _ => 0)))] := hD
      refine W.eq (g2 := F0 m 20 ls [.ref a]) rfl ?_
      refine lv_aload_n hx hb (by decide +kernel : decode cL_sky 20 = .ok (.aload_n 1, 1)) rfl (lv_at hl 1 rfl) ?_
      have f0 : sb_Fit (fun _ => 0) := sb_fit0
      refine sq_cv (n := 1) (wr := [(t, .inr (11, [.ref u, .int 0, .int 0, .int 0])), (u, .inl (cB, n, .inl f))]) hC (cj_append4S l (a := a) (v := v) (n := 0) (t := t) (k := n) (f := fun _ => 0) (by omega) f0) ⟨rfl, rfl⟩ kw_747 kw_748 kw_749 kw_750 kw_14 (by decide +kernel) rfl (va_recv hK hP (ci := 12) (q0 := 2) rfl rfl) [2, 3] [0, 1] rfl rfl rfl rfl (by decide) (sj_ES t n) hK hP hD hS hA ⟨(sq_down sj_EB hXB hS (va_free hD hS hA [2, 3] rfl)), sj_sof hts hK hP 0 1 rfl rfl hf (sj_out [2, 3] rfl hD hP 0 rfl (by decide)) (sj_out [2, 3] rfl hD hP 1 rfl (by decide))⟩ hl.1 rfl (Nat.le_of_ble_eq_true rfl) ⟨Nat.le_of_ble_eq_true rfl, Nat.le_of_ble_eq_true rfl⟩ ⟨by show 4 * r + 1 + 1 + 0 ≤ 16; omega, by show 40 * r + 4 + 16 + 0 ≤ 160; omega⟩ (by decide +kernel : decode cL_sky 21 = .ok (.invokevirtual 38, 3)) (fun v9 w9 H locs h9 hP hD hS => ?_)
      obtain ⟨rfl, f1, hf1, rfl⟩ := h9
      have hP : va_P D vwCl [(t, .inr (11, [.ref u, .int 0, .int 0, .int 0])), (u, .inl (cB, n, .inl f)), (a, .inr (12, [.ref v, .int 0, .int 0, .int (nI (0 + n))])), (v, .inl (cB, 16, .inl f1))] H := hP
      have hD : va_D A [(t, .inr (11, [.ref u, .int 0, .int 0, .int 0])), (u, .inl (cB, n, .inl f)), (a, .inr (12, [.ref v, .int 0, .int 0, .int (nI (0 + n))])), (v, .inl (cB, 16, .inl f1))] := hD
      refine W.eq (g2 := F0 m 24 ls [.ref a]) rfl ?_
      refine lv_iload_n hx hb (by decide +kernel : decode cL_sky 24 = .ok (.iload_n 2, 1)) rfl (lv_at hl 0 rfl) ?_
      refine lv_if_le (tgt := 33) hx hb (by decide +kernel : decode cL_sky 25 = .ok (.ifCond .le 8, 3)) (by decide) (fun h9 => absurd h9 (nI_nle (by omega) (by omega))) (fun _ => ?_)
      refine va_ldcS hx hb hown hk1 (by decide +kernel : decode cL_sky 28 = .ok (.ldc 42, 2)) ?_
      refine lv_goto (tgt := 35) hx hb (by decide +kernel : decode cL_sky 30 = .ok (.goto 5, 3)) (by decide) ?_
      refine sq_cv (n := 1) (wr := [(t, .inr (11, [.ref u, .int 0, .int 0, .int 0])), (u, .inl (cB, n, .inl f))]) hC (cj_append4S l (a := a) (v := v) (n := (0 + n)) (t := k1) (k := 1) (f := f1) (by omega) hf1) ⟨rfl, rfl⟩ kw_747 kw_748 kw_749 kw_750 kw_14 (by decide +kernel) rfl (va_recv hK hP (ci := 12) (q0 := 2) rfl rfl) [2, 3] [0, 1] rfl rfl rfl rfl (by decide) (sj_ES k1 1) hK hP hD hS hA (sq_down (sj_ES k1 1) hX1 hS (va_free hD hS hA [2, 3] rfl)) hl.1 rfl (Nat.le_of_ble_eq_true rfl) ⟨Nat.le_of_ble_eq_true rfl, Nat.le_of_ble_eq_true rfl⟩ ⟨by show 4 * r + 1 + 1 + 0 ≤ 16; omega, by show 40 * r + 4 + 16 + 0 ≤ 160; omega⟩ (by decide +kernel : decode cL_sky 35 = .ok (.invokevirtual 38, 3)) (fun v9 w9 H locs h9 hP hD hS => ?_)
      obtain ⟨rfl, f2, hf2, rfl⟩ := h9
      have hP : va_P D vwCl [(t, .inr (11, [.ref u, .int 0, .int 0, .int 0])), (u, .inl (cB, n, .inl f)), (a, .inr (12, [.ref v, .int 0, .int 0, .int (nI ((0 + n) + 1))])), (v, .inl (cB, 16, .inl f2))] H := hP
      have hD : va_D A [(t, .inr (11, [.ref u, .int 0, .int 0, .int 0])), (u, .inl (cB, n, .inl f)), (a, .inr (12, [.ref v, .int 0, .int 0, .int (nI ((0 + n) + 1))])), (v, .inl (cB, 16, .inl f2))] := hD
      refine W.eq (g2 := F0 m 38 ls [.ref a]) rfl ?_
      refine va_ldcS hx hb hown hk2 (by decide +kernel : decode cL_sky 38 = .ok (.ldc 44, 2)) ?_
      refine lv_aload_n hx hb (by decide +kernel : decode cL_sky 40 = .ok (.aload_n 0, 1)) rfl (lv_at hl 2 rfl) ?_
      refine lv_iload_n hx hb (by decide +kernel : decode cL_sky 41 = .ok (.iload_n 2, 1)) rfl (lv_at hl 0 rfl) ?_
      refine sq_cs (n := 2) (wr := [(t, .inr (11, [.ref u, .int 0, .int 0, .int 0])), (u, .inl (cB, n, .inl f)), (a, .inr (12, [.ref v, .int 0, .int 0, .int (nI ((0 + n) + 1))])), (v, .inl (cB, 16, .inl f2))]) hC (cl_weather l (b := b) (L := L) (xs := xs) hL ((nI r))) ⟨rfl, rfl⟩ kw_863 kw_864 kw_865 kw_0 (by decide +kernel) rfl [] [0, 1, 2, 3] rfl rfl rfl rfl (by decide) (sj_EX b L xs) hK hP hD hS hA (sq_down (sj_EX b L xs) hXX hS (va_free hD hS hA [] rfl)) hl.1 rfl (Nat.le_of_ble_eq_true rfl) ⟨Nat.le_of_ble_eq_true rfl, Nat.le_of_ble_eq_true rfl⟩ ⟨by show 4 * r + 1 + 1 + 0 ≤ 16; omega, by show 40 * r + 4 + 16 + 0 ≤ 160; omega⟩ (by decide +kernel : decode cL_sky 42 = .ok (.invokestatic 46, 3)) (fun v9 w9 H locs h9 hP hD hS => ?_)
      obtain ⟨⟨j, hj, rfl⟩, rfl⟩ := h9
      have hP : va_P D vwCl [(t, .inr (11, [.ref u, .int 0, .int 0, .int 0])), (u, .inl (cB, n, .inl f)), (a, .inr (12, [.ref v, .int 0, .int 0, .int (nI ((0 + n) + 1))])), (v, .inl (cB, 16, .inl f2))] H := hP
      have hD : va_D A [(t, .inr (11, [.ref u, .int 0, .int 0, .int 0])), (u, .inl (cB, n, .inl f)), (a, .inr (12, [.ref v, .int 0, .int 0, .int (nI ((0 + n) + 1))])), (v, .inl (cB, 16, .inl f2))] := hD
      refine W.eq (g2 := F0 m 45 ls [.int (nI j), .ref k2, .ref a]) rfl ?_
      refine sq_cv (n := 1) (wr := [(t, .inr (11, [.ref u, .int 0, .int 0, .int 0])), (u, .inl (cB, n, .inl f)), (a, .inr (12, [.ref v, .int 0, .int 0, .int (nI ((0 + n) + 1))])), (v, .inl (cB, 16, .inl f2))]) hC (cj_charAt l (t := k2) (k := 3) (i := j) hj (by decide)) ⟨rfl, rfl⟩ kw_866 kw_867 kw_868 kw_869 kw_15 (by decide +kernel) rfl (vk_rc hs2.1 hS) [] [0, 1, 2, 3] rfl rfl rfl rfl (by decide) (sj_ES k2 3) hK hP hD hS hA (sq_down (sj_ES k2 3) hX2 hS (va_free hD hS hA [] rfl)) hl.1 rfl (Nat.le_of_ble_eq_true rfl) ⟨Nat.le_of_ble_eq_true rfl, Nat.le_of_ble_eq_true rfl⟩ ⟨by show 4 * r + 1 + 1 + 0 ≤ 16; omega, by show 40 * r + 4 + 16 + 0 ≤ 160; omega⟩ (by decide +kernel : decode cL_sky 45 = .ok (.invokevirtual 13, 3)) (fun v9 w9 H locs h9 hP hD hS => ?_)
      obtain ⟨⟨ch, rfl, hch⟩, rfl⟩ := h9
      have hP : va_P D vwCl [(t, .inr (11, [.ref u, .int 0, .int 0, .int 0])), (u, .inl (cB, n, .inl f)), (a, .inr (12, [.ref v, .int 0, .int 0, .int (nI ((0 + n) + 1))])), (v, .inl (cB, 16, .inl f2))] H := hP
      have hD : va_D A [(t, .inr (11, [.ref u, .int 0, .int 0, .int 0])), (u, .inl (cB, n, .inl f)), (a, .inr (12, [.ref v, .int 0, .int 0, .int (nI ((0 + n) + 1))])), (v, .inl (cB, 16, .inl f2))] := hD
      refine W.eq (g2 := F0 m 48 ls [.int ch, .ref a]) rfl ?_
      refine sq_cv (n := 1) (wr := [(t, .inr (11, [.ref u, .int 0, .int 0, .int 0])), (u, .inl (cB, n, .inl f))]) hC (cj_append4C l (a := a) (v := v) (n := ((0 + n) + 1)) (f := f2) (ch := ch) hch (by omega) hf2) ⟨rfl, rfl⟩ kw_893 kw_894 kw_895 kw_896 kw_14 (by decide +kernel) rfl (va_recv hK hP (ci := 12) (q0 := 2) rfl rfl) [2, 3] [0, 1] rfl rfl rfl rfl (by decide) sj_EB hK hP hD hS hA (sq_down sj_EB hXB hS (va_free hD hS hA [2, 3] rfl)) hl.1 rfl (Nat.le_of_ble_eq_true rfl) ⟨Nat.le_of_ble_eq_true rfl, Nat.le_of_ble_eq_true rfl⟩ ⟨by show 4 * r + 1 + 1 + 0 ≤ 16; omega, by show 40 * r + 4 + 16 + 0 ≤ 160; omega⟩ (by decide +kernel : decode cL_sky 48 = .ok (.invokevirtual 49, 3)) (fun v9 w9 H locs h9 hP hD hS => ?_)
      obtain ⟨rfl, f3, hf3, rfl⟩ := h9
      have hP : va_P D vwCl [(t, .inr (11, [.ref u, .int 0, .int 0, .int 0])), (u, .inl (cB, n, .inl f)), (a, .inr (12, [.ref v, .int 0, .int 0, .int (nI (((0 + n) + 1) + 1))])), (v, .inl (cB, 16, .inl f3))] H := hP
      have hD : va_D A [(t, .inr (11, [.ref u, .int 0, .int 0, .int 0])), (u, .inl (cB, n, .inl f)), (a, .inr (12, [.ref v, .int 0, .int 0, .int (nI (((0 + n) + 1) + 1))])), (v, .inl (cB, 16, .inl f3))] := hD
      refine W.eq (g2 := F0 m 51 ls [.ref a]) rfl ?_
      refine lv_aload_n hx hb (by decide +kernel : decode cL_sky 51 = .ok (.aload_n 0, 1)) rfl (lv_at hl 2 rfl) ?_
      refine lv_iload_n hx hb (by decide +kernel : decode cL_sky 52 = .ok (.iload_n 2, 1)) rfl (lv_at hl 0 rfl) ?_
      refine sq_cs (n := 2) (wr := [(t, .inr (11, [.ref u, .int 0, .int 0, .int 0])), (u, .inl (cB, n, .inl f)), (a, .inr (12, [.ref v, .int 0, .int 0, .int (nI (((0 + n) + 1) + 1))])), (v, .inl (cB, 16, .inl f3))]) hC (cl_len l (b := b) (L := L) (xs := xs) hL ((nI r))) ⟨rfl, rfl⟩ kw_906 kw_907 kw_908 kw_0 (by decide +kernel) rfl [] [0, 1, 2, 3] rfl rfl rfl rfl (by decide) (sj_EX b L xs) hK hP hD hS hA (sq_down (sj_EX b L xs) hXX hS (va_free hD hS hA [] rfl)) hl.1 rfl (Nat.le_of_ble_eq_true rfl) ⟨Nat.le_of_ble_eq_true rfl, Nat.le_of_ble_eq_true rfl⟩ ⟨by show 4 * r + 1 + 1 + 0 ≤ 16; omega, by show 40 * r + 4 + 16 + 0 ≤ 160; omega⟩ (by decide +kernel : decode cL_sky 53 = .ok (.invokestatic 52, 3)) (fun v9 w9 H locs h9 hP hD hS => ?_)
      obtain ⟨⟨i, hi1, hi2, rfl⟩, rfl⟩ := h9
      have hP : va_P D vwCl [(t, .inr (11, [.ref u, .int 0, .int 0, .int 0])), (u, .inl (cB, n, .inl f)), (a, .inr (12, [.ref v, .int 0, .int 0, .int (nI (((0 + n) + 1) + 1))])), (v, .inl (cB, 16, .inl f3))] H := hP
      have hD : va_D A [(t, .inr (11, [.ref u, .int 0, .int 0, .int 0])), (u, .inl (cB, n, .inl f)), (a, .inr (12, [.ref v, .int 0, .int 0, .int (nI (((0 + n) + 1) + 1))])), (v, .inl (cB, 16, .inl f3))] := hD
      refine W.eq (g2 := F0 m 56 ls [.int (nI i), .ref a]) rfl ?_
      rcases Nat.lt_or_ge i 10 with hi | hi
      · refine sq_cv (n := 1) (wr := [(t, .inr (11, [.ref u, .int 0, .int 0, .int 0])), (u, .inl (cB, n, .inl f))]) hC (cj_append4I1 l (a := a) (v := v) (n := (((0 + n) + 1) + 1)) (i := i) (f := f3) hi1 hi (by omega) hf3) ⟨rfl, rfl⟩ kw_909 kw_910 kw_911 kw_912 kw_14 (by decide +kernel) rfl (va_recv hK hP (ci := 12) (q0 := 2) rfl rfl) [2, 3] [0, 1] rfl rfl rfl rfl (by decide) sj_EB hK hP hD hS hA (sq_down sj_EB hXB hS (va_free hD hS hA [2, 3] rfl)) hl.1 rfl (Nat.le_of_ble_eq_true rfl) ⟨Nat.le_of_ble_eq_true rfl, Nat.le_of_ble_eq_true rfl⟩ ⟨by show 4 * r + 1 + 1 + 0 ≤ 16; omega, by show 40 * r + 4 + 16 + 0 ≤ 160; omega⟩ (by decide +kernel : decode cL_sky 56 = .ok (.invokevirtual 54, 3)) (fun v9 w9 H locs h9 hP hD hS => ?_)
        obtain ⟨rfl, f4, hf4, rfl⟩ := h9
        have hP : va_P D vwCl [(t, .inr (11, [.ref u, .int 0, .int 0, .int 0])), (u, .inl (cB, n, .inl f)), (a, .inr (12, [.ref v, .int 0, .int 0, .int (nI ((((0 + n) + 1) + 1) + 1))])), (v, .inl (cB, 16, .inl f4))] H := hP
        have hD : va_D A [(t, .inr (11, [.ref u, .int 0, .int 0, .int 0])), (u, .inl (cB, n, .inl f)), (a, .inr (12, [.ref v, .int 0, .int 0, .int (nI ((((0 + n) + 1) + 1) + 1))])), (v, .inl (cB, 16, .inl f4))] := hD
        refine W.eq (g2 := F0 m 59 ls [.ref a]) rfl ?_
        refine sq_cv (n := 0) (wr := [(t, .inr (11, [.ref u, .int 0, .int 0, .int 0])), (u, .inl (cB, n, .inl f))]) hC (cj_toString l (a := a) (v := v) (n := ((((0 + n) + 1) + 1) + 1)) (f := f4) (by omega) hf4) ⟨rfl, rfl⟩ kw_934 kw_935 kw_936 kw_937 kw_14 (by decide +kernel) rfl (va_recv hK hP (ci := 12) (q0 := 2) rfl rfl) [2, 3] [0, 1] rfl rfl rfl rfl (by decide) sj_EB hK hP hD hS hA (sq_down sj_EB hXB hS (va_free hD hS hA [2, 3] rfl)) hl.1 rfl (Nat.le_of_ble_eq_true rfl) ⟨Nat.le_of_ble_eq_true rfl, Nat.le_of_ble_eq_true rfl⟩ ⟨by show 4 * r + 1 + 1 + 2 ≤ 16; omega, by show 40 * r + 4 + 16 + 20 ≤ 160; omega⟩ (by decide +kernel : decode cL_sky 59 = .ok (.invokevirtual 57, 3)) (fun v9 w9 H locs h9 hP hD hS => ?_)
        obtain ⟨q, u2, f5, rfl, hf5, rfl⟩ := h9
        have hP : va_P D vwCl [(t, .inr (11, [.ref u, .int 0, .int 0, .int 0])), (u, .inl (cB, n, .inl f)), (a, .inr (12, [.ref v, .int 0, .int 0, .int (nI ((((0 + n) + 1) + 1) + 1))])), (v, .inl (cB, 16, .inl f4)), (q, .inr (11, [.ref u2, .int 0, .int 0, .int 0])), (u2, .inl (cB, ((((0 + n) + 1) + 1) + 1), .inl f5))] H := hP
        have hD : va_D A [(t, .inr (11, [.ref u, .int 0, .int 0, .int 0])), (u, .inl (cB, n, .inl f)), (a, .inr (12, [.ref v, .int 0, .int 0, .int (nI ((((0 + n) + 1) + 1) + 1))])), (v, .inl (cB, 16, .inl f4)), (q, .inr (11, [.ref u2, .int 0, .int 0, .int 0])), (u2, .inl (cB, ((((0 + n) + 1) + 1) + 1), .inl f5))] := hD
        refine W.eq (g2 := F0 m 62 ls [.ref q]) rfl ?_
        refine lv_astore_n (lv' := [(1, .ref q), (2, .int (nI r)), (0, .ref b)]) hx hb (by decide +kernel : decode cL_sky 62 = .ok (.astore_n 1, 1)) rfl hl (by decide) rfl (fun ls hl => ?_)
        refine lv_iinc (lv' := [(2, .int ((nI r) + (1))), (1, .ref q), (0, .ref b)]) hx hb (by decide +kernel : decode cL_sky 63 = .ok (.iinc 2 1, 3)) hl (k := 1) rfl rfl (by decide) rfl (fun ls hl => ?_)
        refine lv_goto (tgt := 5) hx hb (by decide +kernel : decode cL_sky 66 = .ok (.goto (-61), 3)) (by decide) ?_
        have hP := hP.sub (ws' := [(q, .inr (11, [.ref u2, .int 0, .int 0, .int 0])), (u2, .inl (cB, ((((0 + n) + 1) + 1) + 1), .inl f5))]) [4, 5] rfl
        have hD := hD.sub (ws' := [(q, .inr (11, [.ref u2, .int 0, .int 0, .int 0])), (u2, .inl (cB, ((((0 + n) + 1) + 1) + 1), .inl f5))]) [4, 5] (by decide) rfl
        refine W.widen (k := 4 * (r + 1)) (n := 40 * (r + 1)) (by omega) (by omega) ?_
        have hl := lv_sub hl [0, 1, 2] (l' := [(2, .int (nI (r + 1))), (1, .ref q), (0, .ref b)]) (by rw [← nI_1 r]; rfl)
        exact ih (r + 1) q u2 ((((0 + n) + 1) + 1) + 1) f5 H locs ls (by omega) (by omega) (by omega) hf5 hP hD hS hl
      · refine sq_cv (n := 1) (wr := [(t, .inr (11, [.ref u, .int 0, .int 0, .int 0])), (u, .inl (cB, n, .inl f))]) hC (cj_append4I2 l (a := a) (v := v) (n := (((0 + n) + 1) + 1)) (i := i) (f := f3) hi (by omega) (by omega) hf3) ⟨rfl, rfl⟩ kw_909 kw_910 kw_911 kw_912 kw_14 (by decide +kernel) rfl (va_recv hK hP (ci := 12) (q0 := 2) rfl rfl) [2, 3] [0, 1] rfl rfl rfl rfl (by decide) sj_EB hK hP hD hS hA (sq_down sj_EB hXB hS (va_free hD hS hA [2, 3] rfl)) hl.1 rfl (Nat.le_of_ble_eq_true rfl) ⟨Nat.le_of_ble_eq_true rfl, Nat.le_of_ble_eq_true rfl⟩ ⟨by show 4 * r + 1 + 1 + 0 ≤ 16; omega, by show 40 * r + 4 + 16 + 0 ≤ 160; omega⟩ (by decide +kernel : decode cL_sky 56 = .ok (.invokevirtual 54, 3)) (fun v9 w9 H locs h9 hP hD hS => ?_)
        obtain ⟨rfl, f4, hf4, rfl⟩ := h9
        have hP : va_P D vwCl [(t, .inr (11, [.ref u, .int 0, .int 0, .int 0])), (u, .inl (cB, n, .inl f)), (a, .inr (12, [.ref v, .int 0, .int 0, .int (nI ((((0 + n) + 1) + 1) + 2))])), (v, .inl (cB, 16, .inl f4))] H := hP
        have hD : va_D A [(t, .inr (11, [.ref u, .int 0, .int 0, .int 0])), (u, .inl (cB, n, .inl f)), (a, .inr (12, [.ref v, .int 0, .int 0, .int (nI ((((0 + n) + 1) + 1) + 2))])), (v, .inl (cB, 16, .inl f4))] := hD
        refine W.eq (g2 := F0 m 59 ls [.ref a]) rfl ?_
        refine sq_cv (n := 0) (wr := [(t, .inr (11, [.ref u, .int 0, .int 0, .int 0])), (u, .inl (cB, n, .inl f))]) hC (cj_toString l (a := a) (v := v) (n := ((((0 + n) + 1) + 1) + 2)) (f := f4) (by omega) hf4) ⟨rfl, rfl⟩ kw_934 kw_935 kw_936 kw_937 kw_14 (by decide +kernel) rfl (va_recv hK hP (ci := 12) (q0 := 2) rfl rfl) [2, 3] [0, 1] rfl rfl rfl rfl (by decide) sj_EB hK hP hD hS hA (sq_down sj_EB hXB hS (va_free hD hS hA [2, 3] rfl)) hl.1 rfl (Nat.le_of_ble_eq_true rfl) ⟨Nat.le_of_ble_eq_true rfl, Nat.le_of_ble_eq_true rfl⟩ ⟨by show 4 * r + 1 + 1 + 2 ≤ 16; omega, by show 40 * r + 4 + 16 + 20 ≤ 160; omega⟩ (by decide +kernel : decode cL_sky 59 = .ok (.invokevirtual 57, 3)) (fun v9 w9 H locs h9 hP hD hS => ?_)
        obtain ⟨q, u2, f5, rfl, hf5, rfl⟩ := h9
        have hP : va_P D vwCl [(t, .inr (11, [.ref u, .int 0, .int 0, .int 0])), (u, .inl (cB, n, .inl f)), (a, .inr (12, [.ref v, .int 0, .int 0, .int (nI ((((0 + n) + 1) + 1) + 2))])), (v, .inl (cB, 16, .inl f4)), (q, .inr (11, [.ref u2, .int 0, .int 0, .int 0])), (u2, .inl (cB, ((((0 + n) + 1) + 1) + 2), .inl f5))] H := hP
        have hD : va_D A [(t, .inr (11, [.ref u, .int 0, .int 0, .int 0])), (u, .inl (cB, n, .inl f)), (a, .inr (12, [.ref v, .int 0, .int 0, .int (nI ((((0 + n) + 1) + 1) + 2))])), (v, .inl (cB, 16, .inl f4)), (q, .inr (11, [.ref u2, .int 0, .int 0, .int 0])), (u2, .inl (cB, ((((0 + n) + 1) + 1) + 2), .inl f5))] := hD
        refine W.eq (g2 := F0 m 62 ls [.ref q]) rfl ?_
        refine lv_astore_n (lv' := [(1, .ref q), (2, .int (nI r)), (0, .ref b)]) hx hb (by decide +kernel : decode cL_sky 62 = .ok (.astore_n 1, 1)) rfl hl (by decide) rfl (fun ls hl => ?_)
        refine lv_iinc (lv' := [(2, .int ((nI r) + (1))), (1, .ref q), (0, .ref b)]) hx hb (by decide +kernel : decode cL_sky 63 = .ok (.iinc 2 1, 3)) hl (k := 1) rfl rfl (by decide) rfl (fun ls hl => ?_)
        refine lv_goto (tgt := 5) hx hb (by decide +kernel : decode cL_sky 66 = .ok (.goto (-61), 3)) (by decide) ?_
        have hP := hP.sub (ws' := [(q, .inr (11, [.ref u2, .int 0, .int 0, .int 0])), (u2, .inl (cB, ((((0 + n) + 1) + 1) + 2), .inl f5))]) [4, 5] rfl
        have hD := hD.sub (ws' := [(q, .inr (11, [.ref u2, .int 0, .int 0, .int 0])), (u2, .inl (cB, ((((0 + n) + 1) + 1) + 2), .inl f5))]) [4, 5] (by decide) rfl
        refine W.widen (k := 4 * (r + 1)) (n := 40 * (r + 1)) (by omega) (by omega) ?_
        have hl := lv_sub hl [0, 1, 2] (l' := [(2, .int (nI (r + 1))), (1, .ref q), (0, .ref b)]) (by rw [← nI_1 r]; rfl)
        exact ih (r + 1) q u2 ((((0 + n) + 1) + 1) + 2) f5 H locs ls (by omega) (by omega) (by omega) hf5 hP hD hS hl
  refine va_ldcS hx hb hown hk0 (by decide +kernel : decode cL_sky 0 = .ok (.ldc 29, 2)) ?_
  refine lv_astore_n (lv' := [(1, .ref k0), (0, .ref b)]) hx hb (by decide +kernel : decode cL_sky 2 = .ok (.astore_n 1, 1)) rfl hl (by decide) rfl (fun ls hl => ?_)
  refine lv_iconst (v := 0) hx hb (by decide +kernel : decode cL_sky 3 = .ok (.iconst 0, 1)) (by decide) ?_
  refine lv_istore_n (lv' := [(2, .int (0)), (1, .ref k0), (0, .ref b)]) hx hb (by decide +kernel : decode cL_sky 4 = .ok (.istore_n 2, 1)) rfl hl (by decide) rfl (fun ls hl => ?_)
  refine lv_iload_n hx hb (by decide +kernel : decode cL_sky 5 = .ok (.iload_n 2, 1)) rfl (lv_at hl 0 rfl) ?_
  refine lv_aload_n hx hb (by decide +kernel : decode cL_sky 6 = .ok (.aload_n 0, 1)) rfl (lv_at hl 2 rfl) ?_
  refine sq_cs (n := 1) (wr := []) hC (cl_runs l (b := b) (L := L) (xs := xs) hL) ⟨rfl, rfl⟩ kw_712 kw_713 kw_714 kw_0 (by decide +kernel) rfl [] [] rfl rfl rfl rfl (by decide) (sj_EX b L xs) hK hP hD hS hA (sq_down (sj_EX b L xs) hXX hS (va_free hD hS hA [] rfl)) hl.1 rfl (Nat.le_of_ble_eq_true rfl) ⟨Nat.le_of_ble_eq_true rfl, Nat.le_of_ble_eq_true rfl⟩ ⟨by show 0 + 0 ≤ 16; omega, by show 0 + 0 ≤ 160; omega⟩ (by decide +kernel : decode cL_sky 7 = .ok (.invokestatic 31, 3)) (fun v9 w9 H locs h9 hP hD hS => ?_)
  obtain ⟨rfl, rfl⟩ := h9
  have hP : va_P D vwCl [] H := hP
  have hD : va_D A [] := hD
  refine W.eq (g2 := F0 m 10 ls [.int (lRuns xs L), .int (0)]) rfl ?_
  refine lv_topi (fun z9 e9 => ?_)
  obtain rfl : z9 = (nI R9) := by rw [e9]; exact hR
  refine lv_icmp_ge (tgt := 69) hx hb (by decide +kernel : decode cL_sky 10 = .ok (.if_icmp .ge 59, 3)) (by decide) (fun h9 => absurd h9 (nI_nle (by omega) (by omega))) (fun _ => ?_)
  refine va_new (ci := 12) (fs := [.null, .int 0, .int 0, .int 0]) (C := RJ4) (T := TJ4) (N := 4) hx hb hts sj_in4 tyJ4 tyJ4_ok hown (hts _ kw_715) (hts _ kw_716) (hts _ kw_14) hK hP hD hS hA rfl (fun j hj => by rcases (show j = 0 ∨ j = 1 ∨ j = 2 ∨ j = 3 by omega) with rfl | rfl | rfl | rfl <;> rfl) (by show 0 + 1 ≤ 16; omega) (by show 0 + 4 ≤ 160; omega) (by decide +kernel : decode cL_sky 13 = .ok (.new 35, 3)) (fun a H hP hD hS => ?_)
  have hP : va_P D vwCl [(a, .inr (12, [.null, .int 0, .int 0, .int 0]))] H := hP
  have hD : va_D A [(a, .inr (12, [.null, .int 0, .int 0, .int 0]))] := hD
  refine lv_dup hx hb (by decide +kernel : decode cL_sky 16 = .ok (.dup, 1)) rfl ?_
  refine sq_ci (n := 0) (wr := []) hC (cj_init4 l (a := a)) ⟨rfl, rfl⟩ rfl kw_717 kw_718 kw_719 kw_14 (by decide +kernel) rfl [0] [] rfl rfl rfl rfl (by decide) sj_EB hK hP hD hS hA (sq_down sj_EB hXB hS (va_free hD hS hA [0] rfl)) hl.1 rfl (Nat.le_of_ble_eq_true rfl) ⟨Nat.le_of_ble_eq_true rfl, Nat.le_of_ble_eq_true rfl⟩ ⟨by show 0 + 1 + 1 ≤ 16; omega, by show 0 + 4 + 16 ≤ 160; omega⟩ (by decide +kernel : decode cL_sky 17 = .ok (.invokespecial 37, 3)) (fun v9 w9 H locs h9 hP hD hS => ?_)
  obtain ⟨rfl, v, rfl⟩ := h9
  have hP : va_P D vwCl [(a, .inr (12, [.ref v, .int 0, .int 0, .int (nI 0)])), (v, .inl (cB, 16, .inl (fun _ => 0)))] H := hP
  have hD : va_D A [(a, .inr (12, [.ref v, .int 0, .int 0, .int (nI 0)])), (v, .inl (cB, 16, .inl (fun _ => 0)))] := hD
  refine W.eq (g2 := F0 m 20 ls [.ref a]) rfl ?_
  refine lv_aload_n hx hb (by decide +kernel : decode cL_sky 20 = .ok (.aload_n 1, 1)) rfl (lv_at hl 1 rfl) ?_
  have f0 : sb_Fit (fun _ => 0) := sb_fit0
  refine sq_cv (n := 1) (wr := []) hC (cj_append4S l (a := a) (v := v) (n := 0) (t := k0) (k := 0) (f := fun _ => 0) (by decide) f0) ⟨rfl, rfl⟩ kw_747 kw_748 kw_749 kw_750 kw_14 (by decide +kernel) rfl (va_recv hK hP (ci := 12) (q0 := 0) rfl rfl) [0, 1] [] rfl rfl rfl rfl (by decide) (sj_ES k0 0) hK hP hD hS hA (sq_down (sj_ES k0 0) hX0 hS (va_free hD hS hA [0, 1] rfl)) hl.1 rfl (Nat.le_of_ble_eq_true rfl) ⟨Nat.le_of_ble_eq_true rfl, Nat.le_of_ble_eq_true rfl⟩ ⟨by show 0 + 1 + 1 + 0 ≤ 16; omega, by show 0 + 4 + 16 + 0 ≤ 160; omega⟩ (by decide +kernel : decode cL_sky 21 = .ok (.invokevirtual 38, 3)) (fun v9 w9 H locs h9 hP hD hS => ?_)
  obtain ⟨rfl, f1, hf1, rfl⟩ := h9
  have hP : va_P D vwCl [(a, .inr (12, [.ref v, .int 0, .int 0, .int (nI (0 + 0))])), (v, .inl (cB, 16, .inl f1))] H := hP
  have hD : va_D A [(a, .inr (12, [.ref v, .int 0, .int 0, .int (nI (0 + 0))])), (v, .inl (cB, 16, .inl f1))] := hD
  refine W.eq (g2 := F0 m 24 ls [.ref a]) rfl ?_
  refine lv_iload_n hx hb (by decide +kernel : decode cL_sky 24 = .ok (.iload_n 2, 1)) rfl (lv_at hl 0 rfl) ?_
  refine lv_if_le (tgt := 33) hx hb (by decide +kernel : decode cL_sky 25 = .ok (.ifCond .le 8, 3)) (by decide) (fun _ => ?_) (fun h9 => absurd (by decide) h9)
  refine va_ldcS hx hb hown hk0 (by decide +kernel : decode cL_sky 33 = .ok (.ldc 29, 2)) ?_
  refine sq_cv (n := 1) (wr := []) hC (cj_append4S l (a := a) (v := v) (n := (0 + 0)) (t := k0) (k := 0) (f := f1) (by omega) hf1) ⟨rfl, rfl⟩ kw_747 kw_748 kw_749 kw_750 kw_14 (by decide +kernel) rfl (va_recv hK hP (ci := 12) (q0 := 0) rfl rfl) [0, 1] [] rfl rfl rfl rfl (by decide) (sj_ES k0 0) hK hP hD hS hA (sq_down (sj_ES k0 0) hX0 hS (va_free hD hS hA [0, 1] rfl)) hl.1 rfl (Nat.le_of_ble_eq_true rfl) ⟨Nat.le_of_ble_eq_true rfl, Nat.le_of_ble_eq_true rfl⟩ ⟨by show 0 + 1 + 1 + 0 ≤ 16; omega, by show 0 + 4 + 16 + 0 ≤ 160; omega⟩ (by decide +kernel : decode cL_sky 35 = .ok (.invokevirtual 38, 3)) (fun v9 w9 H locs h9 hP hD hS => ?_)
  obtain ⟨rfl, f2, hf2, rfl⟩ := h9
  have hP : va_P D vwCl [(a, .inr (12, [.ref v, .int 0, .int 0, .int (nI ((0 + 0) + 0))])), (v, .inl (cB, 16, .inl f2))] H := hP
  have hD : va_D A [(a, .inr (12, [.ref v, .int 0, .int 0, .int (nI ((0 + 0) + 0))])), (v, .inl (cB, 16, .inl f2))] := hD
  refine W.eq (g2 := F0 m 38 ls [.ref a]) rfl ?_
  refine va_ldcS hx hb hown hk2 (by decide +kernel : decode cL_sky 38 = .ok (.ldc 44, 2)) ?_
  refine lv_aload_n hx hb (by decide +kernel : decode cL_sky 40 = .ok (.aload_n 0, 1)) rfl (lv_at hl 2 rfl) ?_
  refine lv_iload_n hx hb (by decide +kernel : decode cL_sky 41 = .ok (.iload_n 2, 1)) rfl (lv_at hl 0 rfl) ?_
  refine sq_cs (n := 2) (wr := [(a, .inr (12, [.ref v, .int 0, .int 0, .int (nI ((0 + 0) + 0))])), (v, .inl (cB, 16, .inl f2))]) hC (cl_weather l (b := b) (L := L) (xs := xs) hL ((0))) ⟨rfl, rfl⟩ kw_863 kw_864 kw_865 kw_0 (by decide +kernel) rfl [] [0, 1] rfl rfl rfl rfl (by decide) (sj_EX b L xs) hK hP hD hS hA (sq_down (sj_EX b L xs) hXX hS (va_free hD hS hA [] rfl)) hl.1 rfl (Nat.le_of_ble_eq_true rfl) ⟨Nat.le_of_ble_eq_true rfl, Nat.le_of_ble_eq_true rfl⟩ ⟨by show 0 + 1 + 1 + 0 ≤ 16; omega, by show 0 + 4 + 16 + 0 ≤ 160; omega⟩ (by decide +kernel : decode cL_sky 42 = .ok (.invokestatic 46, 3)) (fun v9 w9 H locs h9 hP hD hS => ?_)
  obtain ⟨⟨j, hj, rfl⟩, rfl⟩ := h9
  have hP : va_P D vwCl [(a, .inr (12, [.ref v, .int 0, .int 0, .int (nI ((0 + 0) + 0))])), (v, .inl (cB, 16, .inl f2))] H := hP
  have hD : va_D A [(a, .inr (12, [.ref v, .int 0, .int 0, .int (nI ((0 + 0) + 0))])), (v, .inl (cB, 16, .inl f2))] := hD
  refine W.eq (g2 := F0 m 45 ls [.int (nI j), .ref k2, .ref a]) rfl ?_
  refine sq_cv (n := 1) (wr := [(a, .inr (12, [.ref v, .int 0, .int 0, .int (nI ((0 + 0) + 0))])), (v, .inl (cB, 16, .inl f2))]) hC (cj_charAt l (t := k2) (k := 3) (i := j) hj (by decide)) ⟨rfl, rfl⟩ kw_866 kw_867 kw_868 kw_869 kw_15 (by decide +kernel) rfl (vk_rc hs2.1 hS) [] [0, 1] rfl rfl rfl rfl (by decide) (sj_ES k2 3) hK hP hD hS hA (sq_down (sj_ES k2 3) hX2 hS (va_free hD hS hA [] rfl)) hl.1 rfl (Nat.le_of_ble_eq_true rfl) ⟨Nat.le_of_ble_eq_true rfl, Nat.le_of_ble_eq_true rfl⟩ ⟨by show 0 + 1 + 1 + 0 ≤ 16; omega, by show 0 + 4 + 16 + 0 ≤ 160; omega⟩ (by decide +kernel : decode cL_sky 45 = .ok (.invokevirtual 13, 3)) (fun v9 w9 H locs h9 hP hD hS => ?_)
  obtain ⟨⟨ch, rfl, hch⟩, rfl⟩ := h9
  have hP : va_P D vwCl [(a, .inr (12, [.ref v, .int 0, .int 0, .int (nI ((0 + 0) + 0))])), (v, .inl (cB, 16, .inl f2))] H := hP
  have hD : va_D A [(a, .inr (12, [.ref v, .int 0, .int 0, .int (nI ((0 + 0) + 0))])), (v, .inl (cB, 16, .inl f2))] := hD
  refine W.eq (g2 := F0 m 48 ls [.int ch, .ref a]) rfl ?_
  refine sq_cv (n := 1) (wr := []) hC (cj_append4C l (a := a) (v := v) (n := ((0 + 0) + 0)) (f := f2) (ch := ch) hch (by omega) hf2) ⟨rfl, rfl⟩ kw_893 kw_894 kw_895 kw_896 kw_14 (by decide +kernel) rfl (va_recv hK hP (ci := 12) (q0 := 0) rfl rfl) [0, 1] [] rfl rfl rfl rfl (by decide) sj_EB hK hP hD hS hA (sq_down sj_EB hXB hS (va_free hD hS hA [0, 1] rfl)) hl.1 rfl (Nat.le_of_ble_eq_true rfl) ⟨Nat.le_of_ble_eq_true rfl, Nat.le_of_ble_eq_true rfl⟩ ⟨by show 0 + 1 + 1 + 0 ≤ 16; omega, by show 0 + 4 + 16 + 0 ≤ 160; omega⟩ (by decide +kernel : decode cL_sky 48 = .ok (.invokevirtual 49, 3)) (fun v9 w9 H locs h9 hP hD hS => ?_)
  obtain ⟨rfl, f3, hf3, rfl⟩ := h9
  have hP : va_P D vwCl [(a, .inr (12, [.ref v, .int 0, .int 0, .int (nI (((0 + 0) + 0) + 1))])), (v, .inl (cB, 16, .inl f3))] H := hP
  have hD : va_D A [(a, .inr (12, [.ref v, .int 0, .int 0, .int (nI (((0 + 0) + 0) + 1))])), (v, .inl (cB, 16, .inl f3))] := hD
  refine W.eq (g2 := F0 m 51 ls [.ref a]) rfl ?_
  refine lv_aload_n hx hb (by decide +kernel : decode cL_sky 51 = .ok (.aload_n 0, 1)) rfl (lv_at hl 2 rfl) ?_
  refine lv_iload_n hx hb (by decide +kernel : decode cL_sky 52 = .ok (.iload_n 2, 1)) rfl (lv_at hl 0 rfl) ?_
  refine sq_cs (n := 2) (wr := [(a, .inr (12, [.ref v, .int 0, .int 0, .int (nI (((0 + 0) + 0) + 1))])), (v, .inl (cB, 16, .inl f3))]) hC (cl_len l (b := b) (L := L) (xs := xs) hL ((0))) ⟨rfl, rfl⟩ kw_906 kw_907 kw_908 kw_0 (by decide +kernel) rfl [] [0, 1] rfl rfl rfl rfl (by decide) (sj_EX b L xs) hK hP hD hS hA (sq_down (sj_EX b L xs) hXX hS (va_free hD hS hA [] rfl)) hl.1 rfl (Nat.le_of_ble_eq_true rfl) ⟨Nat.le_of_ble_eq_true rfl, Nat.le_of_ble_eq_true rfl⟩ ⟨by show 0 + 1 + 1 + 0 ≤ 16; omega, by show 0 + 4 + 16 + 0 ≤ 160; omega⟩ (by decide +kernel : decode cL_sky 53 = .ok (.invokestatic 52, 3)) (fun v9 w9 H locs h9 hP hD hS => ?_)
  obtain ⟨⟨i, hi1, hi2, rfl⟩, rfl⟩ := h9
  have hP : va_P D vwCl [(a, .inr (12, [.ref v, .int 0, .int 0, .int (nI (((0 + 0) + 0) + 1))])), (v, .inl (cB, 16, .inl f3))] H := hP
  have hD : va_D A [(a, .inr (12, [.ref v, .int 0, .int 0, .int (nI (((0 + 0) + 0) + 1))])), (v, .inl (cB, 16, .inl f3))] := hD
  refine W.eq (g2 := F0 m 56 ls [.int (nI i), .ref a]) rfl ?_
  rcases Nat.lt_or_ge i 10 with hi | hi
  · refine sq_cv (n := 1) (wr := []) hC (cj_append4I1 l (a := a) (v := v) (n := (((0 + 0) + 0) + 1)) (i := i) (f := f3) hi1 hi (by omega) hf3) ⟨rfl, rfl⟩ kw_909 kw_910 kw_911 kw_912 kw_14 (by decide +kernel) rfl (va_recv hK hP (ci := 12) (q0 := 0) rfl rfl) [0, 1] [] rfl rfl rfl rfl (by decide) sj_EB hK hP hD hS hA (sq_down sj_EB hXB hS (va_free hD hS hA [0, 1] rfl)) hl.1 rfl (Nat.le_of_ble_eq_true rfl) ⟨Nat.le_of_ble_eq_true rfl, Nat.le_of_ble_eq_true rfl⟩ ⟨by show 0 + 1 + 1 + 0 ≤ 16; omega, by show 0 + 4 + 16 + 0 ≤ 160; omega⟩ (by decide +kernel : decode cL_sky 56 = .ok (.invokevirtual 54, 3)) (fun v9 w9 H locs h9 hP hD hS => ?_)
    obtain ⟨rfl, f4, hf4, rfl⟩ := h9
    have hP : va_P D vwCl [(a, .inr (12, [.ref v, .int 0, .int 0, .int (nI ((((0 + 0) + 0) + 1) + 1))])), (v, .inl (cB, 16, .inl f4))] H := hP
    have hD : va_D A [(a, .inr (12, [.ref v, .int 0, .int 0, .int (nI ((((0 + 0) + 0) + 1) + 1))])), (v, .inl (cB, 16, .inl f4))] := hD
    refine W.eq (g2 := F0 m 59 ls [.ref a]) rfl ?_
    refine sq_cv (n := 0) (wr := []) hC (cj_toString l (a := a) (v := v) (n := ((((0 + 0) + 0) + 1) + 1)) (f := f4) (by omega) hf4) ⟨rfl, rfl⟩ kw_934 kw_935 kw_936 kw_937 kw_14 (by decide +kernel) rfl (va_recv hK hP (ci := 12) (q0 := 0) rfl rfl) [0, 1] [] rfl rfl rfl rfl (by decide) sj_EB hK hP hD hS hA (sq_down sj_EB hXB hS (va_free hD hS hA [0, 1] rfl)) hl.1 rfl (Nat.le_of_ble_eq_true rfl) ⟨Nat.le_of_ble_eq_true rfl, Nat.le_of_ble_eq_true rfl⟩ ⟨by show 0 + 1 + 1 + 2 ≤ 16; omega, by show 0 + 4 + 16 + 20 ≤ 160; omega⟩ (by decide +kernel : decode cL_sky 59 = .ok (.invokevirtual 57, 3)) (fun v9 w9 H locs h9 hP hD hS => ?_)
    obtain ⟨q, u2, f5, rfl, hf5, rfl⟩ := h9
    have hP : va_P D vwCl [(a, .inr (12, [.ref v, .int 0, .int 0, .int (nI ((((0 + 0) + 0) + 1) + 1))])), (v, .inl (cB, 16, .inl f4)), (q, .inr (11, [.ref u2, .int 0, .int 0, .int 0])), (u2, .inl (cB, ((((0 + 0) + 0) + 1) + 1), .inl f5))] H := hP
    have hD : va_D A [(a, .inr (12, [.ref v, .int 0, .int 0, .int (nI ((((0 + 0) + 0) + 1) + 1))])), (v, .inl (cB, 16, .inl f4)), (q, .inr (11, [.ref u2, .int 0, .int 0, .int 0])), (u2, .inl (cB, ((((0 + 0) + 0) + 1) + 1), .inl f5))] := hD
    refine W.eq (g2 := F0 m 62 ls [.ref q]) rfl ?_
    refine lv_astore_n (lv' := [(1, .ref q), (2, .int (0)), (0, .ref b)]) hx hb (by decide +kernel : decode cL_sky 62 = .ok (.astore_n 1, 1)) rfl hl (by decide) rfl (fun ls hl => ?_)
    refine lv_iinc (lv' := [(2, .int ((0) + (1))), (1, .ref q), (0, .ref b)]) hx hb (by decide +kernel : decode cL_sky 63 = .ok (.iinc 2 1, 3)) hl (k := 1) rfl rfl (by decide) rfl (fun ls hl => ?_)
    refine lv_goto (tgt := 5) hx hb (by decide +kernel : decode cL_sky 66 = .ok (.goto (-61), 3)) (by decide) ?_
    have hP := hP.sub (ws' := [(q, .inr (11, [.ref u2, .int 0, .int 0, .int 0])), (u2, .inl (cB, ((((0 + 0) + 0) + 1) + 1), .inl f5))]) [2, 3] rfl
    have hD := hD.sub (ws' := [(q, .inr (11, [.ref u2, .int 0, .int 0, .int 0])), (u2, .inl (cB, ((((0 + 0) + 0) + 1) + 1), .inl f5))]) [2, 3] (by decide) rfl
    refine W.widen (k := 4 * 1) (n := 40 * 1) (by omega) (by omega) ?_
    have hl := lv_sub hl [0, 1, 2] (l' := [(2, .int (nI 1)), (1, .ref q), (0, .ref b)]) rfl
    exact loop (R9 - 1) 1 q u2 ((((0 + 0) + 0) + 1) + 1) f5 H locs ls (by omega) (Nat.le_refl _) (by omega) hf5 hP hD hS hl
  · refine sq_cv (n := 1) (wr := []) hC (cj_append4I2 l (a := a) (v := v) (n := (((0 + 0) + 0) + 1)) (i := i) (f := f3) hi (by omega) (by omega) hf3) ⟨rfl, rfl⟩ kw_909 kw_910 kw_911 kw_912 kw_14 (by decide +kernel) rfl (va_recv hK hP (ci := 12) (q0 := 0) rfl rfl) [0, 1] [] rfl rfl rfl rfl (by decide) sj_EB hK hP hD hS hA (sq_down sj_EB hXB hS (va_free hD hS hA [0, 1] rfl)) hl.1 rfl (Nat.le_of_ble_eq_true rfl) ⟨Nat.le_of_ble_eq_true rfl, Nat.le_of_ble_eq_true rfl⟩ ⟨by show 0 + 1 + 1 + 0 ≤ 16; omega, by show 0 + 4 + 16 + 0 ≤ 160; omega⟩ (by decide +kernel : decode cL_sky 56 = .ok (.invokevirtual 54, 3)) (fun v9 w9 H locs h9 hP hD hS => ?_)
    obtain ⟨rfl, f4, hf4, rfl⟩ := h9
    have hP : va_P D vwCl [(a, .inr (12, [.ref v, .int 0, .int 0, .int (nI ((((0 + 0) + 0) + 1) + 2))])), (v, .inl (cB, 16, .inl f4))] H := hP
    have hD : va_D A [(a, .inr (12, [.ref v, .int 0, .int 0, .int (nI ((((0 + 0) + 0) + 1) + 2))])), (v, .inl (cB, 16, .inl f4))] := hD
    refine W.eq (g2 := F0 m 59 ls [.ref a]) rfl ?_
    refine sq_cv (n := 0) (wr := []) hC (cj_toString l (a := a) (v := v) (n := ((((0 + 0) + 0) + 1) + 2)) (f := f4) (by omega) hf4) ⟨rfl, rfl⟩ kw_934 kw_935 kw_936 kw_937 kw_14 (by decide +kernel) rfl (va_recv hK hP (ci := 12) (q0 := 0) rfl rfl) [0, 1] [] rfl rfl rfl rfl (by decide) sj_EB hK hP hD hS hA (sq_down sj_EB hXB hS (va_free hD hS hA [0, 1] rfl)) hl.1 rfl (Nat.le_of_ble_eq_true rfl) ⟨Nat.le_of_ble_eq_true rfl, Nat.le_of_ble_eq_true rfl⟩ ⟨by show 0 + 1 + 1 + 2 ≤ 16; omega, by show 0 + 4 + 16 + 20 ≤ 160; omega⟩ (by decide +kernel : decode cL_sky 59 = .ok (.invokevirtual 57, 3)) (fun v9 w9 H locs h9 hP hD hS => ?_)
    obtain ⟨q, u2, f5, rfl, hf5, rfl⟩ := h9
    have hP : va_P D vwCl [(a, .inr (12, [.ref v, .int 0, .int 0, .int (nI ((((0 + 0) + 0) + 1) + 2))])), (v, .inl (cB, 16, .inl f4)), (q, .inr (11, [.ref u2, .int 0, .int 0, .int 0])), (u2, .inl (cB, ((((0 + 0) + 0) + 1) + 2), .inl f5))] H := hP
    have hD : va_D A [(a, .inr (12, [.ref v, .int 0, .int 0, .int (nI ((((0 + 0) + 0) + 1) + 2))])), (v, .inl (cB, 16, .inl f4)), (q, .inr (11, [.ref u2, .int 0, .int 0, .int 0])), (u2, .inl (cB, ((((0 + 0) + 0) + 1) + 2), .inl f5))] := hD
    refine W.eq (g2 := F0 m 62 ls [.ref q]) rfl ?_
    refine lv_astore_n (lv' := [(1, .ref q), (2, .int (0)), (0, .ref b)]) hx hb (by decide +kernel : decode cL_sky 62 = .ok (.astore_n 1, 1)) rfl hl (by decide) rfl (fun ls hl => ?_)
    refine lv_iinc (lv' := [(2, .int ((0) + (1))), (1, .ref q), (0, .ref b)]) hx hb (by decide +kernel : decode cL_sky 63 = .ok (.iinc 2 1, 3)) hl (k := 1) rfl rfl (by decide) rfl (fun ls hl => ?_)
    refine lv_goto (tgt := 5) hx hb (by decide +kernel : decode cL_sky 66 = .ok (.goto (-61), 3)) (by decide) ?_
    have hP := hP.sub (ws' := [(q, .inr (11, [.ref u2, .int 0, .int 0, .int 0])), (u2, .inl (cB, ((((0 + 0) + 0) + 1) + 2), .inl f5))]) [2, 3] rfl
    have hD := hD.sub (ws' := [(q, .inr (11, [.ref u2, .int 0, .int 0, .int 0])), (u2, .inl (cB, ((((0 + 0) + 0) + 1) + 2), .inl f5))]) [2, 3] (by decide) rfl
    refine W.widen (k := 4 * 1) (n := 40 * 1) (by omega) (by omega) ?_
    have hl := lv_sub hl [0, 1, 2] (l' := [(2, .int (nI 1)), (1, .ref q), (0, .ref b)]) rfl
    exact loop (R9 - 1) 1 q u2 ((((0 + 0) + 0) + 1) + 2) f5 H locs ls (by omega) (Nat.le_refl _) (by omega) hf5 hP hD hS hl

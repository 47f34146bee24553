/-! leaves -/
theorem vk_rc {E : String} {t : Nat} {A : Nat → Prop} {s : State} {H : Heap} {locs : List Loc} (h : va_O E t A s s.heap) (hS : va_S A s.heap H locs) : ∃ cell : Cell, H[t]? = some cell ∧ cell.vm.isStatics = false ∧ s.vm.findClass E = some cell.cls := by
  obtain ⟨cell, h1, h2, h3, -⟩ := h.kept hS.2.1
  exact ⟨cell, h1, h2, h3⟩
theorem sj_nle {q : Nat} (h : q ≤ 16) : nI q - nI 16 ≤ 0 := by
  have e : (nI q - nI 16).toInt = (q : Int) - 16 := pk_sub_toInt (by omega) (by omega)
  rw [Int32.le_iff_toInt_le, e, Int32.toInt_zero]
  omega
set_option maxRecDepth 100000 in
set_option maxHeartbeats 4000000 in
theorem cj_coder (l : Launch) {D : va_G} {cB : ClassId} {t k : Nat} : sq_ok l yJ0_coder_7d493 cJ0_coder_7d493 1 (some .byte) ({ frames := 0, cells := 0, slots := 0, locals := 0 }) D [(cB, .byte)] (sj_S t k) [.ref t] [] (fun v w => v = some (.int 0) ∧ w = []) 0 0 := by
  refine sq_met (by decide +kernel) (Nat.le_of_ble_eq_true rfl) ?_
  intro p e s m args below meth c A ls hC hlocks hr hin hP hK hD hA hX hl
  obtain ⟨hx, hb, hml, hown, hts⟩ := id hC
  have hS : va_S A s.heap s.heap [] := va_S.rf
  have hl : lv_has ls 1 [(0, .ref t)] := hl
  obtain ⟨⟨hZ, -⟩, -, hO, -⟩ := id hX
  refine va_gets hx hb hZ hS hown (hts _ kw_826) (fun _ h9 => h9) (by decide +kernel : decode cJ0_coder_7d493 0 = .ok (.getstatic 38, 3)) ?_
  refine lv_if_eq (tgt := 13) hx hb (by decide +kernel : decode cJ0_coder_7d493 3 = .ok (.ifCond .eq 10, 3)) (by decide) (fun h9 => absurd h9 (by decide)) (fun _ => ?_)
  refine lv_aload_n hx hb (by decide +kernel : decode cJ0_coder_7d493 6 = .ok (.aload_n 0, 1)) rfl (lv_at hl 0 rfl) ?_
  refine vk_getf hx hb hO hS hown (hts _ kw_981) (fun _ h9 => h9) (by decide +kernel : decode cJ0_coder_7d493 7 = .ok (.getfield 15, 3)) ?_
  refine lv_goto (tgt := 14) hx hb (by decide +kernel : decode cJ0_coder_7d493 10 = .ok (.goto 4, 3)) (by decide) ?_
  exact sq_zret hx hb hlocks hr rfl (⟨rfl, rfl⟩) hP hD hS (by decide +kernel : decode cJ0_coder_7d493 14 = .ok (.ireturn, 1))
set_option maxRecDepth 100000 in
set_option maxHeartbeats 4000000 in
theorem cj_isLatinS (l : Launch) {D : va_G} {cB : ClassId} {t k : Nat} : sq_ok l yJ0_isLatin1_aae02 cJ0_isLatin1_aae02 1 (some .boolean) ({ frames := 0, cells := 0, slots := 0, locals := 0 }) D [(cB, .byte)] (sj_S t k) [.ref t] [] (fun v w => v = some (.int 1) ∧ w = []) 0 0 := by
  refine sq_met (by decide +kernel) (Nat.le_of_ble_eq_true rfl) ?_
  intro p e s m args below meth c A ls hC hlocks hr hin hP hK hD hA hX hl
  obtain ⟨hx, hb, hml, hown, hts⟩ := id hC
  have hS : va_S A s.heap s.heap [] := va_S.rf
  have hl : lv_has ls 1 [(0, .ref t)] := hl
  obtain ⟨⟨hZ, -⟩, -, hO, -⟩ := id hX
  refine va_gets hx hb hZ hS hown (hts _ kw_826) (fun _ h9 => h9) (by decide +kernel : decode cJ0_isLatin1_aae02 0 = .ok (.getstatic 38, 3)) ?_
  refine lv_if_eq (tgt := 17) hx hb (by decide +kernel : decode cJ0_isLatin1_aae02 3 = .ok (.ifCond .eq 14, 3)) (by decide) (fun h9 => absurd h9 (by decide)) (fun _ => ?_)
  refine lv_aload_n hx hb (by decide +kernel : decode cJ0_isLatin1_aae02 6 = .ok (.aload_n 0, 1)) rfl (lv_at hl 0 rfl) ?_
  refine vk_getf hx hb hO hS hown (hts _ kw_981) (fun _ h9 => h9) (by decide +kernel : decode cJ0_isLatin1_aae02 7 = .ok (.getfield 15, 3)) ?_
  refine lv_if_ne (tgt := 17) hx hb (by decide +kernel : decode cJ0_isLatin1_aae02 10 = .ok (.ifCond .ne 7, 3)) (by decide) (fun h9 => absurd h9 (by decide)) (fun _ => ?_)
  refine lv_iconst (v := 1) hx hb (by decide +kernel : decode cJ0_isLatin1_aae02 13 = .ok (.iconst 1, 1)) (by decide) ?_
  refine lv_goto (tgt := 18) hx hb (by decide +kernel : decode cJ0_isLatin1_aae02 14 = .ok (.goto 4, 3)) (by decide) ?_
  exact sq_zret hx hb hlocks hr rfl (⟨rfl, rfl⟩) hP hD hS (by decide +kernel : decode cJ0_isLatin1_aae02 18 = .ok (.ireturn, 1))
set_option maxRecDepth 100000 in
set_option maxHeartbeats 4000000 in
theorem cj_length (l : Launch) {D : va_G} {cB : ClassId} {t k : Nat} (hk : k < 2 ^ 31) : sq_ok l yJ0_length_8abf5 cJ0_length_8abf5 1 (some .int) ({ frames := 1, cells := 0, slots := 0, locals := 20 }) D [(cB, .byte)] (sj_S t k) [.ref t] [] (fun v w => v = some (.int (nI k)) ∧ w = []) 0 0 := by
  refine sq_met (by decide +kernel) (Nat.le_of_ble_eq_true rfl) ?_
  intro p e s m args below meth c A ls hC hlocks hr hin hP hK hD hA hX hl
  obtain ⟨hx, hb, hml, hown, hts⟩ := id hC
  have hS : va_S A s.heap s.heap [] := va_S.rf
  have hl : lv_has ls 1 [(0, .ref t)] := hl
  obtain ⟨-, hO0, hO, v, f, hV, hT, hf⟩ := id hX
  refine lv_aload_n hx hb (by decide +kernel : decode cJ0_length_8abf5 0 = .ok (.aload_n 0, 1)) rfl (lv_at hl 0 rfl) ?_
  refine vk_getf hx hb hV hS hown (hts _ kw_980) (fun _ h9 => h9) (by decide +kernel : decode cJ0_length_8abf5 1 = .ok (.getfield 9, 3)) ?_
  refine va_tlen hx hb hT hS (v := nI k) rfl (by decide +kernel : decode cJ0_length_8abf5 4 = .ok (.arraylength, 1)) ?_
  refine lv_aload_n hx hb (by decide +kernel : decode cJ0_length_8abf5 5 = .ok (.aload_n 0, 1)) rfl (lv_at hl 0 rfl) ?_
  refine sq_cv (n := 0) (wr := []) hC (cj_coder l (t := t) (k := k)) ⟨rfl, rfl⟩ kw_822 kw_823 kw_824 kw_825 kw_15 (by decide +kernel) rfl (vk_rc (hO0) hS) [] [] rfl rfl rfl rfl (by decide) (sj_ES t k) hK hP hD hS hA (sq_down (sj_ES t k) hX hS (va_free hD hS hA [] rfl)) hl.1 rfl (Nat.le_of_ble_eq_true rfl) ⟨Nat.le_of_ble_eq_true rfl, Nat.le_of_ble_eq_true rfl⟩ ⟨Nat.le_of_ble_eq_true rfl, Nat.le_of_ble_eq_true rfl⟩ (by decide +kernel : decode cJ0_length_8abf5 6 = .ok (.invokevirtual 335, 3)) (fun v9 w9 H locs h9 hP hD hS => ?_)
  obtain ⟨rfl, rfl⟩ := h9
  have hP : va_P D vwCl [] H := hP
  have hD : va_D A [] := hD
  refine W.eq (g2 := F0 m 9 ls [.int 0, .int (nI k)]) rfl ?_
  refine lv_ishr hx hb (by decide +kernel : decode cJ0_length_8abf5 9 = .ok (.ishr, 1)) ?_
  refine lv_topi (fun z9 e9 => ?_)
  obtain rfl : z9 = (nI k) := by rw [e9]; exact sc_shr0 hk
  exact sq_iret hx hb hlocks hr (⟨rfl, rfl⟩) hP hD hS (by decide +kernel : decode cJ0_length_8abf5 10 = .ok (.ireturn, 1))
set_option maxRecDepth 100000 in
set_option maxHeartbeats 4000000 in
theorem cj_isLatinB (l : Launch) {D : va_G} {cB : ClassId} {a v n : Nat} {f : Nat → Int32} : sq_ok l yJ5_isLatin1_aae02 cJ5_isLatin1_aae02 1 (some .boolean) ({ frames := 0, cells := 0, slots := 0, locals := 0 }) D [(cB, .byte)] sj_B [.ref a] [(a, .inr (12, [.ref v, .int 0, .int 0, .int (nI n)])), (v, .inl (cB, 16, .inl f))] (fun r w => r = some (.int 1) ∧ w = [(a, .inr (12, [.ref v, .int 0, .int 0, .int (nI n)])), (v, .inl (cB, 16, .inl f))]) 0 0 := by
  refine sq_met (by decide +kernel) (Nat.le_of_ble_eq_true rfl) ?_
  intro p e s m args below meth c A ls hC hlocks hr hin hP hK hD hA hX hl
  obtain ⟨hx, hb, hml, hown, hts⟩ := id hC
  have hS : va_S A s.heap s.heap [] := va_S.rf
  have hl : lv_has ls 1 [(0, .ref a)] := hl
  obtain ⟨hZ, -⟩ := id hX
  refine va_gets hx hb hZ hS hown (hts _ kw_724) (fun _ h9 => h9) (by decide +kernel : decode cJ5_isLatin1_aae02 0 = .ok (.getstatic 18, 3)) ?_
  refine lv_if_eq (tgt := 17) hx hb (by decide +kernel : decode cJ5_isLatin1_aae02 3 = .ok (.ifCond .eq 14, 3)) (by decide) (fun h9 => absurd h9 (by decide)) (fun _ => ?_)
  refine lv_aload_n hx hb (by decide +kernel : decode cJ5_isLatin1_aae02 6 = .ok (.aload_n 0, 1)) rfl (lv_at hl 0 rfl) ?_
  refine va_get (D := D) (ci := 12) (v := .int 0) (C := RJ4) (T := TJ4) (N := 4) hx hb hts sj_in4 hown hK hP 0 rfl rfl 1 (by decide) (hts _ kw_734) (fun _ h9 => h9) rfl (by decide +kernel : decode cJ5_isLatin1_aae02 7 = .ok (.getfield 22, 3)) ?_
  refine lv_if_ne (tgt := 17) hx hb (by decide +kernel : decode cJ5_isLatin1_aae02 10 = .ok (.ifCond .ne 7, 3)) (by decide) (fun h9 => absurd h9 (by decide)) (fun _ => ?_)
  refine lv_iconst (v := 1) hx hb (by decide +kernel : decode cJ5_isLatin1_aae02 13 = .ok (.iconst 1, 1)) (by decide) ?_
  refine lv_goto (tgt := 18) hx hb (by decide +kernel : decode cJ5_isLatin1_aae02 14 = .ok (.goto 4, 3)) (by decide) ?_
  exact sq_zret hx hb hlocks hr rfl (⟨rfl, rfl⟩) hP hD hS (by decide +kernel : decode cJ5_isLatin1_aae02 18 = .ok (.ireturn, 1))
set_option maxRecDepth 100000 in
set_option maxHeartbeats 4000000 in
theorem cj_ensure (l : Launch) {D : va_G} {cB : ClassId} {a v n q : Nat} {f : Nat → Int32} (hq : q ≤ 16) : sq_ok l yJ5_ensureCapacityInternal_d00df cJ5_ensureCapacityInternal_d00df 3 none ({ frames := 0, cells := 0, slots := 0, locals := 0 }) D [(cB, .byte)] sj_B [.ref a, .int (nI q)] [(a, .inr (12, [.ref v, .int 0, .int 0, .int (nI n)])), (v, .inl (cB, 16, .inl f))] (fun r w => r = none ∧ w = [(a, .inr (12, [.ref v, .int 0, .int 0, .int (nI n)])), (v, .inl (cB, 16, .inl f))]) 0 0 := by
  refine sq_met (by decide +kernel) (Nat.le_of_ble_eq_true rfl) ?_
  intro p e s m args below meth c A ls hC hlocks hr hin hP hK hD hA hX hl
  obtain ⟨hx, hb, hml, hown, hts⟩ := id hC
  have hS : va_S A s.heap s.heap [] := va_S.rf
  have hl : lv_has ls 3 [(0, .ref a), (1, .int (nI q))] := hl
  refine lv_aload_n hx hb (by decide +kernel : decode cJ5_ensureCapacityInternal_d00df 0 = .ok (.aload_n 0, 1)) rfl (lv_at hl 0 rfl) ?_
  refine va_get (D := D) (ci := 12) (v := .ref v) (C := RJ4) (T := TJ4) (N := 4) hx hb hts sj_in4 hown hK hP 0 rfl rfl 0 (by decide) (hts _ kw_733) (fun _ h9 => h9) rfl (by decide +kernel : decode cJ5_ensureCapacityInternal_d00df 1 = .ok (.getfield 15, 3)) ?_
  refine va_alen hx hb hK hP 1 0 rfl rfl (v := nI 16) rfl (by decide +kernel : decode cJ5_ensureCapacityInternal_d00df 4 = .ok (.arraylength, 1)) ?_
  refine lv_aload_n hx hb (by decide +kernel : decode cJ5_ensureCapacityInternal_d00df 5 = .ok (.aload_n 0, 1)) rfl (lv_at hl 0 rfl) ?_
  refine va_get (D := D) (ci := 12) (v := .int 0) (C := RJ4) (T := TJ4) (N := 4) hx hb hts sj_in4 hown hK hP 0 rfl rfl 1 (by decide) (hts _ kw_734) (fun _ h9 => h9) rfl (by decide +kernel : decode cJ5_ensureCapacityInternal_d00df 6 = .ok (.getfield 22, 3)) ?_
  refine lv_ishr hx hb (by decide +kernel : decode cJ5_ensureCapacityInternal_d00df 9 = .ok (.ishr, 1)) ?_
  refine lv_topi (fun z9 e9 => ?_)
  obtain rfl : z9 = (nI 16) := by rw [e9]; decide
  refine lv_istore_n (lv' := [(2, .int (nI 16)), (0, .ref a), (1, .int (nI q))]) hx hb (by decide +kernel : decode cJ5_ensureCapacityInternal_d00df 10 = .ok (.istore_n 2, 1)) rfl hl (by decide) rfl (fun ls hl => ?_)
  refine lv_iload_n hx hb (by decide +kernel : decode cJ5_ensureCapacityInternal_d00df 11 = .ok (.iload_n 1, 1)) rfl (lv_at hl 2 rfl) ?_
  refine lv_iload_n hx hb (by decide +kernel : decode cJ5_ensureCapacityInternal_d00df 12 = .ok (.iload_n 2, 1)) rfl (lv_at hl 0 rfl) ?_
  refine lv_isub hx hb (by decide +kernel : decode cJ5_ensureCapacityInternal_d00df 13 = .ok (.isub, 1)) ?_
  refine lv_if_le (tgt := 38) hx hb (by decide +kernel : decode cJ5_ensureCapacityInternal_d00df 14 = .ok (.ifCond .le 24, 3)) (by decide) (fun _ => ?_) (fun h9 => absurd (sj_nle hq) h9)
  exact sq_vret hx hb hlocks hr (⟨rfl, rfl⟩) hP hD hS (by decide +kernel : decode cJ5_ensureCapacityInternal_d00df 38 = .ok (.return_, 1))
set_option maxRecDepth 100000 in
set_option maxHeartbeats 4000000 in
theorem cj_inflateIf (l : Launch) {D : va_G} {cB : ClassId} {a v n t k : Nat} {f : Nat → Int32} : sq_ok l yJ5_inflateIfNeededFor_a7421 cJ5_inflateIfNeededFor_a7421 2 none ({ frames := 1, cells := 0, slots := 0, locals := 20 }) D [(cB, .byte)] (sj_S t k) [.ref a, .ref t] [(a, .inr (12, [.ref v, .int 0, .int 0, .int (nI n)])), (v, .inl (cB, 16, .inl f))] (fun r w => r = none ∧ w = [(a, .inr (12, [.ref v, .int 0, .int 0, .int (nI n)])), (v, .inl (cB, 16, .inl f))]) 0 0 := by
  refine sq_met (by decide +kernel) (Nat.le_of_ble_eq_true rfl) ?_
  intro p e s m args below meth c A ls hC hlocks hr hin hP hK hD hA hX hl
  obtain ⟨hx, hb, hml, hown, hts⟩ := id hC
  have hS : va_S A s.heap s.heap [] := va_S.rf
  have hl : lv_has ls 2 [(0, .ref a), (1, .ref t)] := hl
  obtain ⟨⟨hZ, -⟩, hO0, hO, -⟩ := id hX
  refine va_gets hx hb hZ hS hown (hts _ kw_724) (fun _ h9 => h9) (by decide +kernel : decode cJ5_inflateIfNeededFor_a7421 0 = .ok (.getstatic 18, 3)) ?_
  refine lv_if_eq (tgt := 21) hx hb (by decide +kernel : decode cJ5_inflateIfNeededFor_a7421 3 = .ok (.ifCond .eq 18, 3)) (by decide) (fun h9 => absurd h9 (by decide)) (fun _ => ?_)
  refine lv_aload_n hx hb (by decide +kernel : decode cJ5_inflateIfNeededFor_a7421 6 = .ok (.aload_n 0, 1)) rfl (lv_at hl 0 rfl) ?_
  refine va_get (D := D) (ci := 12) (v := .int 0) (C := RJ4) (T := TJ4) (N := 4) hx hb hts sj_in4 hown hK hP 0 rfl rfl 1 (by decide) (hts _ kw_734) (fun _ h9 => h9) rfl (by decide +kernel : decode cJ5_inflateIfNeededFor_a7421 7 = .ok (.getfield 22, 3)) ?_
  refine lv_aload_n hx hb (by decide +kernel : decode cJ5_inflateIfNeededFor_a7421 10 = .ok (.aload_n 1, 1)) rfl (lv_at hl 1 rfl) ?_
  refine sq_cv (n := 0) (wr := [(a, .inr (12, [.ref v, .int 0, .int 0, .int (nI n)])), (v, .inl (cB, 16, .inl f))]) hC (cj_coder l (t := t) (k := k)) ⟨rfl, rfl⟩ kw_835 kw_823 kw_824 kw_825 kw_15 (by decide +kernel) rfl (vk_rc (hO0) hS) [] [0, 1] rfl rfl rfl rfl (by decide) (sj_ES t k) hK hP hD hS hA (sq_down (sj_ES t k) hX hS (va_free hD hS hA [] rfl)) hl.1 rfl (Nat.le_of_ble_eq_true rfl) ⟨Nat.le_of_ble_eq_true rfl, Nat.le_of_ble_eq_true rfl⟩ ⟨Nat.le_of_ble_eq_true rfl, Nat.le_of_ble_eq_true rfl⟩ (by decide +kernel : decode cJ5_inflateIfNeededFor_a7421 11 = .ok (.invokevirtual 40, 3)) (fun v9 w9 H locs h9 hP hD hS => ?_)
  obtain ⟨rfl, rfl⟩ := h9
  have hP : va_P D vwCl [(a, .inr (12, [.ref v, .int 0, .int 0, .int (nI n)])), (v, .inl (cB, 16, .inl f))] H := hP
  have hD : va_D A [(a, .inr (12, [.ref v, .int 0, .int 0, .int (nI n)])), (v, .inl (cB, 16, .inl f))] := hD
  refine W.eq (g2 := F0 m 14 ls [.int 0, .int 0]) rfl ?_
  refine lv_icmp_eq (tgt := 21) hx hb (by decide +kernel : decode cJ5_inflateIfNeededFor_a7421 14 = .ok (.if_icmp .eq 7, 3)) (by decide) (fun _ => ?_) (fun h9 => absurd (rfl) h9)
  exact sq_vret hx hb hlocks hr (⟨rfl, rfl⟩) hP hD hS (by decide +kernel : decode cJ5_inflateIfNeededFor_a7421 21 = .ok (.return_, 1))

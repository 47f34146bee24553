/-! StringBuilder.append -/
theorem sj_l10 {v : Nat} (h : v < 2 ^ 31) (h0 : 10 ≤ v) : -nI v ≤ (-10) := (sb_nle (a := v) (b := 10) h (by decide)).mpr h0
theorem sj_g10 {v : Nat} (h : v < 2 ^ 31) (h0 : v < 10) : ¬ -nI v ≤ (-10) := fun z => by have := (sb_nle (a := v) (b := 10) h (by decide)).mp z; omega
theorem sj_g100 {v : Nat} (h : v < 2 ^ 31) (h0 : v < 100) : ¬ -nI v ≤ 10 * (-10) := fun z => by have := (sb_nle (a := v) (b := 100) h (by decide)).mp (show -nI v ≤ -nI 100 from z); omega
theorem sj_h100 {v : Nat} (h : v < 2 ^ 31) (h0 : v < 100) : (-100) < -nI v := (sb_nlt (a := 100) (b := v) (by decide) h).mpr h0
theorem sj_l9 {v : Nat} (h : v < 2 ^ 31) (h0 : v < 10) : (-9) ≤ -nI v := (sb_nle (a := 9) (b := v) (by decide) h).mpr (by omega)
theorem sj_g9 {v : Nat} (h : v < 2 ^ 31) (h0 : 10 ≤ v) : ¬ (-9) ≤ -nI v := fun z => by have := (sb_nle (a := 9) (b := v) (by decide) h).mp z; omega
theorem sj_m2 {p : Nat} (h : 2 ≤ p) : nI p + (-1) + (-1) = nI (p - 2) := by rw [sb_m1 (by omega), sb_m1 (by omega)]; rfl
theorem kq_1096 : (Jvm.Cond.sameMethod "java/lang/AbstractStringBuilder" "java/lang/AbstractStringBuilder" "inflateIfNeededFor" "(Ljava/lang/String;)V") ∈ kx_tbl := kx_m 1109 (by decide +kernel) (by decide +kernel)
theorem kq_1093 : (Jvm.Cond.sameMethod "java/lang/AbstractStringBuilder" "java/lang/AbstractStringBuilder" "ensureCapacityInternal" "(I)V") ∈ kx_tbl := kx_m 1106 (by decide +kernel) (by decide +kernel)
theorem kq_1095 : (Jvm.Cond.sameMethod "java/lang/AbstractStringBuilder" "java/lang/AbstractStringBuilder" "putStringAt" "(ILjava/lang/String;)V") ∈ kx_tbl := kx_m 1108 (by decide +kernel) (by decide +kernel)
theorem kq_1091 : (Jvm.Cond.sameMethod "java/lang/AbstractStringBuilder" "java/lang/AbstractStringBuilder" "append" "(Ljava/lang/String;)Ljava/lang/AbstractStringBuilder;") ∈ kx_tbl := kx_m 1104 (by decide +kernel) (by decide +kernel)
theorem kq_745 : (Jvm.Cond.superclass "java/lang/StringBuilder" "java/lang/AbstractStringBuilder") ∈ kx_tbl := kx_m 758 (by decide +kernel) (by decide +kernel)
theorem kq_789 : (Jvm.Cond.sameMethod "java/lang/AbstractStringBuilder" "java/lang/AbstractStringBuilder" "isLatin1" "()Z") ∈ kx_tbl := kx_m 802 (by decide +kernel) (by decide +kernel)
theorem kq_1098 : (Jvm.Cond.sameMethod "java/lang/AbstractStringBuilder" "java/lang/AbstractStringBuilder" "append" "(C)Ljava/lang/AbstractStringBuilder;") ∈ kx_tbl := kx_m 1111 (by decide +kernel) (by decide +kernel)
theorem kq_1099 : (Jvm.Cond.sameMethod "java/lang/AbstractStringBuilder" "java/lang/AbstractStringBuilder" "append" "(I)Ljava/lang/AbstractStringBuilder;") ∈ kx_tbl := kx_m 1112 (by decide +kernel) (by decide +kernel)
set_option maxRecDepth 100000 in
set_option maxHeartbeats 4000000 in
theorem cj_getBytes (l : Launch) {D : va_G} {cB : ClassId} {t r n k : Nat} {f : Nat → Int32} (hn : n + k ≤ 16) (hf : sb_Fit f) : sq_ok l yJ0_getBytes_840e7 cJ0_getBytes_840e7 4 none ({ frames := 1, cells := 0, slots := 0, locals := 40 }) D [(cB, .byte)] (sj_S t k) [.ref t, .ref r, .int (nI n), .int 0] [(r, .inl (cB, 16, .inl f))] (fun v w => v = none ∧ ∃ f2, sb_Fit f2 ∧ w = [(r, .inl (cB, 16, .inl f2))]) 0 0 := by
  refine sq_met (by decide +kernel) (Nat.le_of_ble_eq_true rfl) ?_
  intro p e s m args below meth c A ls hC hlocks hr hin hP hK hD hA hX hl
  obtain ⟨hx, hb, hml, hown, hts⟩ := id hC
  have hS : va_S A s.heap s.heap [] := va_S.rf
  have hl : lv_has ls 4 [(0, .ref t), (1, .ref r), (2, .int (nI n)), (3, .int 0)] := hl
  obtain ⟨-, hO0, hO, v, g, hV, hT, hg⟩ := id hX
  refine lv_aload_n hx hb (by decide +kernel : decode cJ0_getBytes_840e7 0 = .ok (.aload_n 0, 1)) rfl (lv_at hl 0 rfl) ?_
  refine sq_cv (n := 0) (wr := [(r, .inl (cB, 16, .inl f))]) hC (cj_coder l (t := t) (k := k)) ⟨rfl, rfl⟩ kw_822 kw_823 kw_824 kw_825 kw_15 (by decide +kernel) rfl (vk_rc (hO0) hS) [] [0] rfl rfl rfl rfl (by decide) (sj_ES t k) hK hP hD hS hA (sq_down (sj_ES t k) hX hS (va_free hD hS hA [] rfl)) hl.1 rfl (Nat.le_of_ble_eq_true rfl) ⟨Nat.le_of_ble_eq_true rfl, Nat.le_of_ble_eq_true rfl⟩ ⟨Nat.le_of_ble_eq_true rfl, Nat.le_of_ble_eq_true rfl⟩ (by decide +kernel : decode cJ0_getBytes_840e7 1 = .ok (.invokevirtual 335, 3)) (fun v9 w9 H locs h9 hP hD hS => ?_)
  obtain ⟨rfl, rfl⟩ := h9
  have hP : va_P D vwCl [(r, .inl (cB, 16, .inl f))] H := hP
  have hD : va_D A [(r, .inl (cB, 16, .inl f))] := hD
  refine W.eq (g2 := F0 m 4 ls [.int 0]) rfl ?_
  refine lv_iload_n hx hb (by decide +kernel : decode cJ0_getBytes_840e7 4 = .ok (.iload_n 3, 1)) rfl (lv_at hl 3 rfl) ?_
  refine lv_icmp_ne (tgt := 28) hx hb (by decide +kernel : decode cJ0_getBytes_840e7 5 = .ok (.if_icmp .ne 23, 3)) (by decide) (fun h9 => absurd h9 (fun h => h rfl)) (fun _ => ?_)
  refine lv_aload_n hx hb (by decide +kernel : decode cJ0_getBytes_840e7 8 = .ok (.aload_n 0, 1)) rfl (lv_at hl 0 rfl) ?_
  refine vk_getf hx hb hV hS hown (hts _ kw_980) (fun _ h9 => h9) (by decide +kernel : decode cJ0_getBytes_840e7 9 = .ok (.getfield 9, 3)) ?_
  refine lv_iconst (v := 0) hx hb (by decide +kernel : decode cJ0_getBytes_840e7 12 = .ok (.iconst 0, 1)) (by decide) ?_
  refine lv_aload_n hx hb (by decide +kernel : decode cJ0_getBytes_840e7 13 = .ok (.aload_n 1, 1)) rfl (lv_at hl 1 rfl) ?_
  refine lv_iload_n hx hb (by decide +kernel : decode cJ0_getBytes_840e7 14 = .ok (.iload_n 2, 1)) rfl (lv_at hl 2 rfl) ?_
  refine lv_iload_n hx hb (by decide +kernel : decode cJ0_getBytes_840e7 15 = .ok (.iload_n 3, 1)) rfl (lv_at hl 3 rfl) ?_
  refine lv_ishl hx hb (by decide +kernel : decode cJ0_getBytes_840e7 16 = .ok (.ishl, 1)) ?_
  refine lv_topi (fun z9 e9 => ?_)
  obtain rfl : z9 = (nI n) := by rw [e9]; exact sb_shl0 _
  refine lv_aload_n hx hb (by decide +kernel : decode cJ0_getBytes_840e7 17 = .ok (.aload_n 0, 1)) rfl (lv_at hl 0 rfl) ?_
  refine vk_getf hx hb hV hS hown (hts _ kw_980) (fun _ h9 => h9) (by decide +kernel : decode cJ0_getBytes_840e7 18 = .ok (.getfield 9, 3)) ?_
  refine va_tlen hx hb hT hS (v := nI k) rfl (by decide +kernel : decode cJ0_getBytes_840e7 21 = .ok (.arraylength, 1)) ?_
  refine vk_copyt hx hb (hml.trans hl.1.symm) hown (hts _ kw_859) (hts _ kw_306) (hts _ kw_305) (hts _ kw_19) hK hP hD hS hT 0 0 rfl rfl (by decide) (nI_pos (by omega)) (nI_pos (by omega)) (by rw [nI_clamp (by omega), sb_cl0]; omega) (by rw [nI_clamp (by omega), nI_clamp (by omega)]; omega) (fun i _ => hg _) (Nat.le_of_ble_eq_true rfl) (Nat.le_of_ble_eq_true rfl) (by decide +kernel : decode cJ0_getBytes_840e7 22 = .ok (.invokestatic 212, 3)) (fun H locs hP hD hS => ?_)
  generalize hg22 : (va_cpy _ f _ _ _ : Nat → Int32) = f2 at hP hD
  have hP : va_P D vwCl [(r, .inl (cB, 16, .inl f2))] H := hP
  have hD : va_D A [(r, .inl (cB, 16, .inl f2))] := hD
  refine lv_goto (tgt := 43) hx hb (by decide +kernel : decode cJ0_getBytes_840e7 25 = .ok (.goto 18, 3)) (by decide) ?_
  exact sq_vret hx hb hlocks hr (⟨rfl, f2, by rw [← hg22]; exact sb_fitC hg hf, rfl⟩) hP hD hS (by decide +kernel : decode cJ0_getBytes_840e7 43 = .ok (.return_, 1))
set_option maxRecDepth 100000 in
set_option maxHeartbeats 4000000 in
theorem cj_putStringAt (l : Launch) {D : va_G} {cB : ClassId} {a v n t k : Nat} {f : Nat → Int32} (hn : n + k ≤ 16) (hf : sb_Fit f) : sq_ok l yJ5_putStringAt_47b60 cJ5_putStringAt_47b60 3 none ({ frames := 2, cells := 0, slots := 0, locals := 63 }) D [(cB, .byte)] (sj_S t k) [.ref a, .int (nI n), .ref t] [(a, .inr (12, [.ref v, .int 0, .int 0, .int (nI n)])), (v, .inl (cB, 16, .inl f))] (fun r w => r = none ∧ ∃ f2, sb_Fit f2 ∧ w = [(a, .inr (12, [.ref v, .int 0, .int 0, .int (nI n)])), (v, .inl (cB, 16, .inl f2))]) 0 0 := by
  refine sq_met (by decide +kernel) (Nat.le_of_ble_eq_true rfl) ?_
  intro p e s m args below meth c A ls hC hlocks hr hin hP hK hD hA hX hl
  obtain ⟨hx, hb, hml, hown, hts⟩ := id hC
  have hS : va_S A s.heap s.heap [] := va_S.rf
  have hl : lv_has ls 3 [(0, .ref a), (1, .int (nI n)), (2, .ref t)] := hl
  obtain ⟨-, hO0, -⟩ := id hX
  refine lv_aload_n hx hb (by decide +kernel : decode cJ5_putStringAt_47b60 0 = .ok (.aload_n 0, 1)) rfl (lv_at hl 0 rfl) ?_
  refine lv_aload_n hx hb (by decide +kernel : decode cJ5_putStringAt_47b60 1 = .ok (.aload_n 2, 1)) rfl (lv_at hl 2 rfl) ?_
  refine sq_cu (n := 1) (wr := []) (C := "java/lang/StringBuilder") (owner := "java/lang/AbstractStringBuilder") hC (cj_inflateIf l (a := a) (v := v) (n := n) (t := t) (k := k) (f := f)) ⟨rfl, rfl⟩ kw_831 kq_1096 kw_833 (hts _ kzp_0) kw_834 kw_13 rfl (by decide +kernel) rfl (va_recv hK hP (ci := 12) (q0 := 0) rfl rfl) [0, 1] [] rfl rfl rfl rfl (by decide) (sj_ES t k) hK hP hD hS hA (sq_down (sj_ES t k) hX hS (va_free hD hS hA [0, 1] rfl)) hl.1 rfl (Nat.le_of_ble_eq_true rfl) ⟨Nat.le_of_ble_eq_true rfl, Nat.le_of_ble_eq_true rfl⟩ ⟨Nat.le_of_ble_eq_true rfl, Nat.le_of_ble_eq_true rfl⟩ (by decide +kernel : decode cJ5_putStringAt_47b60 2 = .ok (.invokevirtual 397, 3)) (fun v9 w9 H locs h9 hP hD hS => ?_)
  obtain ⟨rfl, rfl⟩ := h9
  have hP : va_P D vwCl [(a, .inr (12, [.ref v, .int 0, .int 0, .int (nI n)])), (v, .inl (cB, 16, .inl f))] H := hP
  have hD : va_D A [(a, .inr (12, [.ref v, .int 0, .int 0, .int (nI n)])), (v, .inl (cB, 16, .inl f))] := hD
  refine W.eq (g2 := F0 m 5 ls []) rfl ?_
  refine lv_aload_n hx hb (by decide +kernel : decode cJ5_putStringAt_47b60 5 = .ok (.aload_n 2, 1)) rfl (lv_at hl 2 rfl) ?_
  refine lv_aload_n hx hb (by decide +kernel : decode cJ5_putStringAt_47b60 6 = .ok (.aload_n 0, 1)) rfl (lv_at hl 0 rfl) ?_
  refine va_get (D := D) (ci := 12) (v := .ref v) (C := RJ4) (T := TJ4) (N := 4) hx hb hts sj_in4 hown hK hP 0 rfl rfl 0 (by decide) (hts _ kw_733) (fun _ h9 => h9) rfl (by decide +kernel : decode cJ5_putStringAt_47b60 7 = .ok (.getfield 15, 3)) ?_
  refine lv_iload_n hx hb (by decide +kernel : decode cJ5_putStringAt_47b60 10 = .ok (.iload_n 1, 1)) rfl (lv_at hl 1 rfl) ?_
  refine lv_aload_n hx hb (by decide +kernel : decode cJ5_putStringAt_47b60 11 = .ok (.aload_n 0, 1)) rfl (lv_at hl 0 rfl) ?_
  refine va_get (D := D) (ci := 12) (v := .int 0) (C := RJ4) (T := TJ4) (N := 4) hx hb hts sj_in4 hown hK hP 0 rfl rfl 1 (by decide) (hts _ kw_734) (fun _ h9 => h9) rfl (by decide +kernel : decode cJ5_putStringAt_47b60 12 = .ok (.getfield 22, 3)) ?_
  refine sq_cv (n := 3) (wr := [(a, .inr (12, [.ref v, .int 0, .int 0, .int (nI n)]))]) hC (cj_getBytes l (t := t) (r := v) (n := n) (k := k) (f := f) hn hf) ⟨rfl, rfl⟩ kw_855 kw_856 kw_857 kw_858 kw_15 (by decide +kernel) rfl (vk_rc (hO0) hS) [1] [0] rfl rfl rfl rfl (by decide) (sj_ES t k) hK hP hD hS hA (sq_down (sj_ES t k) hX hS (va_free hD hS hA [1] rfl)) hl.1 rfl (Nat.le_of_ble_eq_true rfl) ⟨Nat.le_of_ble_eq_true rfl, Nat.le_of_ble_eq_true rfl⟩ ⟨Nat.le_of_ble_eq_true rfl, Nat.le_of_ble_eq_true rfl⟩ (by decide +kernel : decode cJ5_putStringAt_47b60 15 = .ok (.invokevirtual 399, 3)) (fun v9 w9 H locs h9 hP hD hS => ?_)
  obtain ⟨rfl, f2, hf2, rfl⟩ := h9
  have hP : va_P D vwCl [(a, .inr (12, [.ref v, .int 0, .int 0, .int (nI n)])), (v, .inl (cB, 16, .inl f2))] H := hP
  have hD : va_D A [(a, .inr (12, [.ref v, .int 0, .int 0, .int (nI n)])), (v, .inl (cB, 16, .inl f2))] := hD
  refine W.eq (g2 := F0 m 18 ls []) rfl ?_
  exact sq_vret hx hb hlocks hr (⟨rfl, f2, hf2, rfl⟩) hP hD hS (by decide +kernel : decode cJ5_putStringAt_47b60 18 = .ok (.return_, 1))
set_option maxRecDepth 100000 in
set_option maxHeartbeats 4000000 in
theorem cj_append5S (l : Launch) {D : va_G} {cB : ClassId} {a v n t k : Nat} {f : Nat → Int32} (hn : n + k ≤ 16) (hf : sb_Fit f) : sq_ok l yJ5_append_cf1ce cJ5_append_cf1ce 3 (some (.object "java/lang/AbstractStringBuilder")) ({ frames := 3, cells := 0, slots := 0, locals := 85 }) D [(cB, .byte)] (sj_S t k) [.ref a, .ref t] [(a, .inr (12, [.ref v, .int 0, .int 0, .int (nI n)])), (v, .inl (cB, 16, .inl f))] (fun r w => r = some (.ref a) ∧ ∃ f2, sb_Fit f2 ∧ w = [(a, .inr (12, [.ref v, .int 0, .int 0, .int (nI (n + k))])), (v, .inl (cB, 16, .inl f2))]) 0 0 := by
  refine sq_met (by decide +kernel) (Nat.le_of_ble_eq_true rfl) ?_
  intro p e s m args below meth c A ls hC hlocks hr hin hP hK hD hA hX hl
  obtain ⟨hx, hb, hml, hown, hts⟩ := id hC
  have hS : va_S A s.heap s.heap [] := va_S.rf
  have hl : lv_has ls 3 [(0, .ref a), (1, .ref t)] := hl
  obtain ⟨-, hO0, -⟩ := id hX
  refine lv_aload_n hx hb (by decide +kernel : decode cJ5_append_cf1ce 0 = .ok (.aload_n 1, 1)) rfl (lv_at hl 1 rfl) ?_
  refine lv_ifnonnull (tgt := 9) hx hb (by decide +kernel : decode cJ5_append_cf1ce 1 = .ok (.ifnonnull 8, 3)) (by decide) ?_
  refine lv_aload_n hx hb (by decide +kernel : decode cJ5_append_cf1ce 9 = .ok (.aload_n 1, 1)) rfl (lv_at hl 1 rfl) ?_
  refine sq_cv (n := 0) (wr := [(a, .inr (12, [.ref v, .int 0, .int 0, .int (nI n)])), (v, .inl (cB, 16, .inl f))]) hC (cj_length l (t := t) (k := k) (by omega)) ⟨rfl, rfl⟩ kw_818 kw_819 kw_820 kw_821 kw_15 (by decide +kernel) rfl (vk_rc (hO0) hS) [] [0, 1] rfl rfl rfl rfl (by decide) (sj_ES t k) hK hP hD hS hA (sq_down (sj_ES t k) hX hS (va_free hD hS hA [] rfl)) hl.1 rfl (Nat.le_of_ble_eq_true rfl) ⟨Nat.le_of_ble_eq_true rfl, Nat.le_of_ble_eq_true rfl⟩ ⟨Nat.le_of_ble_eq_true rfl, Nat.le_of_ble_eq_true rfl⟩ (by decide +kernel : decode cJ5_append_cf1ce 10 = .ok (.invokevirtual 32, 3)) (fun v9 w9 H locs h9 hP hD hS => ?_)
  obtain ⟨rfl, rfl⟩ := h9
  have hP : va_P D vwCl [(a, .inr (12, [.ref v, .int 0, .int 0, .int (nI n)])), (v, .inl (cB, 16, .inl f))] H := hP
  have hD : va_D A [(a, .inr (12, [.ref v, .int 0, .int 0, .int (nI n)])), (v, .inl (cB, 16, .inl f))] := hD
  refine W.eq (g2 := F0 m 13 ls [.int (nI k)]) rfl ?_
  refine lv_istore_n (lv' := [(2, .int (nI k)), (0, .ref a), (1, .ref t)]) hx hb (by decide +kernel : decode cJ5_append_cf1ce 13 = .ok (.istore_n 2, 1)) rfl hl (by decide) rfl (fun ls hl => ?_)
  refine lv_aload_n hx hb (by decide +kernel : decode cJ5_append_cf1ce 14 = .ok (.aload_n 0, 1)) rfl (lv_at hl 1 rfl) ?_
  refine lv_aload_n hx hb (by decide +kernel : decode cJ5_append_cf1ce 15 = .ok (.aload_n 0, 1)) rfl (lv_at hl 1 rfl) ?_
  refine va_get (D := D) (ci := 12) (v := .int (nI n)) (C := RJ4) (T := TJ4) (N := 4) hx hb hts sj_in4 hown hK hP 0 rfl rfl 3 (by decide) (hts _ kw_736) (fun _ h9 => h9) rfl (by decide +kernel : decode cJ5_append_cf1ce 16 = .ok (.getfield 79, 3)) ?_
  refine lv_iload_n hx hb (by decide +kernel : decode cJ5_append_cf1ce 19 = .ok (.iload_n 2, 1)) rfl (lv_at hl 0 rfl) ?_
  refine lv_iadd hx hb (by decide +kernel : decode cJ5_append_cf1ce 20 = .ok (.iadd, 1)) ?_
  refine lv_topi (fun z9 e9 => ?_)
  obtain rfl : z9 = (nI (n + k)) := by rw [e9]; exact nI_add n k
  refine sq_cu (n := 1) (wr := []) (C := "java/lang/StringBuilder") (owner := "java/lang/AbstractStringBuilder") hC (cj_ensure l (a := a) (v := v) (n := n) (q := n + k) (f := f) hn) ⟨rfl, rfl⟩ kw_758 kq_1093 kw_760 (hts _ kzp_1) kw_761 kw_13 rfl (by decide +kernel) rfl (va_recv hK hP (ci := 12) (q0 := 0) rfl rfl) [0, 1] [] rfl rfl rfl rfl (by decide) sj_EB hK hP hD hS hA (sq_down sj_EB hX.1 hS (va_free hD hS hA [0, 1] rfl)) hl.1 rfl (Nat.le_of_ble_eq_true rfl) ⟨Nat.le_of_ble_eq_true rfl, Nat.le_of_ble_eq_true rfl⟩ ⟨Nat.le_of_ble_eq_true rfl, Nat.le_of_ble_eq_true rfl⟩ (by decide +kernel : decode cJ5_append_cf1ce 21 = .ok (.invokevirtual 100, 3)) (fun v9 w9 H locs h9 hP hD hS => ?_)
  obtain ⟨rfl, rfl⟩ := h9
  have hP : va_P D vwCl [(a, .inr (12, [.ref v, .int 0, .int 0, .int (nI n)])), (v, .inl (cB, 16, .inl f))] H := hP
  have hD : va_D A [(a, .inr (12, [.ref v, .int 0, .int 0, .int (nI n)])), (v, .inl (cB, 16, .inl f))] := hD
  refine W.eq (g2 := F0 m 24 ls []) rfl ?_
  refine lv_aload_n hx hb (by decide +kernel : decode cJ5_append_cf1ce 24 = .ok (.aload_n 0, 1)) rfl (lv_at hl 1 rfl) ?_
  refine lv_aload_n hx hb (by decide +kernel : decode cJ5_append_cf1ce 25 = .ok (.aload_n 0, 1)) rfl (lv_at hl 1 rfl) ?_
  refine va_get (D := D) (ci := 12) (v := .int (nI n)) (C := RJ4) (T := TJ4) (N := 4) hx hb hts sj_in4 hown hK hP 0 rfl rfl 3 (by decide) (hts _ kw_736) (fun _ h9 => h9) rfl (by decide +kernel : decode cJ5_append_cf1ce 26 = .ok (.getfield 79, 3)) ?_
  refine lv_aload_n hx hb (by decide +kernel : decode cJ5_append_cf1ce 29 = .ok (.aload_n 1, 1)) rfl (lv_at hl 2 rfl) ?_
  refine sq_cu (n := 2) (wr := []) (C := "java/lang/StringBuilder") (owner := "java/lang/AbstractStringBuilder") hC (cj_putStringAt l (a := a) (v := v) (n := n) (t := t) (k := k) (f := f) hn hf) ⟨rfl, rfl⟩ kw_827 kq_1095 kw_829 (hts _ kzp_2) kw_830 kw_13 rfl (by decide +kernel) rfl (va_recv hK hP (ci := 12) (q0 := 0) rfl rfl) [0, 1] [] rfl rfl rfl rfl (by decide) (sj_ES t k) hK hP hD hS hA (sq_down (sj_ES t k) hX hS (va_free hD hS hA [0, 1] rfl)) hl.1 rfl (Nat.le_of_ble_eq_true rfl) ⟨Nat.le_of_ble_eq_true rfl, Nat.le_of_ble_eq_true rfl⟩ ⟨Nat.le_of_ble_eq_true rfl, Nat.le_of_ble_eq_true rfl⟩ (by decide +kernel : decode cJ5_append_cf1ce 30 = .ok (.invokevirtual 208, 3)) (fun v9 w9 H locs h9 hP hD hS => ?_)
  obtain ⟨rfl, f2, hf2, rfl⟩ := h9
  have hP : va_P D vwCl [(a, .inr (12, [.ref v, .int 0, .int 0, .int (nI n)])), (v, .inl (cB, 16, .inl f2))] H := hP
  have hD : va_D A [(a, .inr (12, [.ref v, .int 0, .int 0, .int (nI n)])), (v, .inl (cB, 16, .inl f2))] := hD
  refine W.eq (g2 := F0 m 33 ls []) rfl ?_
  refine lv_aload_n hx hb (by decide +kernel : decode cJ5_append_cf1ce 33 = .ok (.aload_n 0, 1)) rfl (lv_at hl 1 rfl) ?_
  refine lv_dup hx hb (by decide +kernel : decode cJ5_append_cf1ce 34 = .ok (.dup, 1)) rfl ?_
  refine va_get (D := D) (ci := 12) (v := .int (nI n)) (C := RJ4) (T := TJ4) (N := 4) hx hb hts sj_in4 hown hK hP 0 rfl rfl 3 (by decide) (hts _ kw_736) (fun _ h9 => h9) rfl (by decide +kernel : decode cJ5_append_cf1ce 35 = .ok (.getfield 79, 3)) ?_
  refine lv_iload_n hx hb (by decide +kernel : decode cJ5_append_cf1ce 38 = .ok (.iload_n 2, 1)) rfl (lv_at hl 0 rfl) ?_
  refine lv_iadd hx hb (by decide +kernel : decode cJ5_append_cf1ce 39 = .ok (.iadd, 1)) ?_
  refine lv_topi (fun z9 e9 => ?_)
  obtain rfl : z9 = (nI (n + k)) := by rw [e9]; exact nI_add n k
  refine va_put (D := D) (ci := 12) (v := .int (nI (n + k))) (ty := .int) (C := RJ4) (T := TJ4) (N := 4) hx hb hts sj_in4 tyJ4 tyJ4_ok nmJ4 hown hK hP hD hS 0 rfl rfl 3 (by decide) (hts _ kw_736) (fun _ h9 => h9) rfl (by decide +kernel) rfl rfl (Nat.le_of_ble_eq_true rfl) (by decide +kernel : decode cJ5_append_cf1ce 40 = .ok (.putfield 79, 3)) (fun H locs hP hD hS => ?_)
  have hP : va_P D vwCl [(a, .inr (12, [.ref v, .int 0, .int 0, .int (nI (n + k))])), (v, .inl (cB, 16, .inl f2))] H := hP
  have hD : va_D A [(a, .inr (12, [.ref v, .int 0, .int 0, .int (nI (n + k))])), (v, .inl (cB, 16, .inl f2))] := hD
  refine lv_aload_n hx hb (by decide +kernel : decode cJ5_append_cf1ce 43 = .ok (.aload_n 0, 1)) rfl (lv_at hl 1 rfl) ?_
  exact sq_aret hx hb hlocks hr (by first | exact Or.inl ⟨_, rfl⟩ | exact Or.inr ⟨_, rfl⟩) (⟨rfl, f2, hf2, rfl⟩) hP hD hS (by decide +kernel : decode cJ5_append_cf1ce 44 = .ok (.areturn, 1))
set_option maxRecDepth 100000 in
set_option maxHeartbeats 4000000 in
theorem cj_append4S (l : Launch) {D : va_G} {cB : ClassId} {a v n t k : Nat} {f : Nat → Int32} (hn : n + k ≤ 16) (hf : sb_Fit f) : sq_ok l yJ4_append_15ec4 cJ4_append_15ec4 2 (some (.object "java/lang/StringBuilder")) ({ frames := 4, cells := 0, slots := 0, locals := 107 }) D [(cB, .byte)] (sj_S t k) [.ref a, .ref t] [(a, .inr (12, [.ref v, .int 0, .int 0, .int (nI n)])), (v, .inl (cB, 16, .inl f))] (fun r w => r = some (.ref a) ∧ ∃ f2, sb_Fit f2 ∧ w = [(a, .inr (12, [.ref v, .int 0, .int 0, .int (nI (n + k))])), (v, .inl (cB, 16, .inl f2))]) 0 0 := by
  refine sq_met (by decide +kernel) (Nat.le_of_ble_eq_true rfl) ?_
  intro p e s m args below meth c A ls hC hlocks hr hin hP hK hD hA hX hl
  obtain ⟨hx, hb, hml, hown, hts⟩ := id hC
  have hS : va_S A s.heap s.heap [] := va_S.rf
  have hl : lv_has ls 2 [(0, .ref a), (1, .ref t)] := hl
  refine lv_aload_n hx hb (by decide +kernel : decode cJ4_append_15ec4 0 = .ok (.aload_n 0, 1)) rfl (lv_at hl 0 rfl) ?_
  refine lv_aload_n hx hb (by decide +kernel : decode cJ4_append_15ec4 1 = .ok (.aload_n 1, 1)) rfl (lv_at hl 1 rfl) ?_
  refine sq_csu (n := 1) (wr := []) hC (hK.1 12 _ rfl).2 (cj_append5S l (a := a) (v := v) (n := n) (t := t) (k := k) (f := f) hn hf) ⟨rfl, rfl⟩ kw_751 kq_1091 kq_745 kw_752 kw_753 kw_13 (by decide +kernel) rfl (va_recv hK hP (ci := 12) (q0 := 0) rfl rfl) [0, 1] [] rfl rfl rfl rfl (by decide) (sj_ES t k) hK hP hD hS hA (sq_down (sj_ES t k) hX hS (va_free hD hS hA [0, 1] rfl)) hl.1 rfl (Nat.le_of_ble_eq_true rfl) ⟨Nat.le_of_ble_eq_true rfl, Nat.le_of_ble_eq_true rfl⟩ ⟨Nat.le_of_ble_eq_true rfl, Nat.le_of_ble_eq_true rfl⟩ (by decide +kernel : decode cJ4_append_15ec4 2 = .ok (.invokespecial 29, 3)) (fun v9 w9 H locs h9 hP hD hS => ?_)
  obtain ⟨rfl, f2, hf2, rfl⟩ := h9
  have hP : va_P D vwCl [(a, .inr (12, [.ref v, .int 0, .int 0, .int (nI (n + k))])), (v, .inl (cB, 16, .inl f2))] H := hP
  have hD : va_D A [(a, .inr (12, [.ref v, .int 0, .int 0, .int (nI (n + k))])), (v, .inl (cB, 16, .inl f2))] := hD
  refine W.eq (g2 := F0 m 5 ls [.ref a]) rfl ?_
  refine lv_pop hx hb (by decide +kernel : decode cJ4_append_15ec4 5 = .ok (.pop, 1)) rfl ?_
  refine lv_aload_n hx hb (by decide +kernel : decode cJ4_append_15ec4 6 = .ok (.aload_n 0, 1)) rfl (lv_at hl 0 rfl) ?_
  exact sq_aret hx hb hlocks hr (by first | exact Or.inl ⟨_, rfl⟩ | exact Or.inr ⟨_, rfl⟩) (⟨rfl, f2, hf2, rfl⟩) hP hD hS (by decide +kernel : decode cJ4_append_15ec4 7 = .ok (.areturn, 1))
set_option maxRecDepth 100000 in
set_option maxHeartbeats 4000000 in
theorem cj_canEncode (l : Launch) {D : va_G} {cB : ClassId} {ch : Int32} (hc : ¬ 255 < ch) : sq_ok l yJ1_canEncode_fc78d cJ1_canEncode_fc78d 1 (some .boolean) ({ frames := 0, cells := 0, slots := 0, locals := 0 }) D [(cB, .byte)] sj_B [.int ch] [] (fun r w => r = some (.int 1) ∧ w = []) 0 0 := by
  refine sq_met (by decide +kernel) (Nat.le_of_ble_eq_true rfl) ?_
  intro p e s m args below meth c A ls hC hlocks hr hin hP hK hD hA hX hl
  obtain ⟨hx, hb, hml, hown, hts⟩ := id hC
  have hS : va_S A s.heap s.heap [] := va_S.rf
  have hl : lv_has ls 1 [(0, .int ch)] := hl
  refine lv_iload_n hx hb (by decide +kernel : decode cJ1_canEncode_fc78d 0 = .ok (.iload_n 0, 1)) rfl (lv_at hl 0 rfl) ?_
  refine lv_sipush (v := 255) hx hb (by decide +kernel : decode cJ1_canEncode_fc78d 1 = .ok (.sipush 255, 3)) (by decide) ?_
  refine lv_icmp_gt (tgt := 11) hx hb (by decide +kernel : decode cJ1_canEncode_fc78d 4 = .ok (.if_icmp .gt 7, 3)) (by decide) (fun h9 => absurd h9 (hc)) (fun _ => ?_)
  refine lv_iconst (v := 1) hx hb (by decide +kernel : decode cJ1_canEncode_fc78d 7 = .ok (.iconst 1, 1)) (by decide) ?_
  refine lv_goto (tgt := 12) hx hb (by decide +kernel : decode cJ1_canEncode_fc78d 8 = .ok (.goto 4, 3)) (by decide) ?_
  exact sq_zret hx hb hlocks hr rfl (⟨rfl, rfl⟩) hP hD hS (by decide +kernel : decode cJ1_canEncode_fc78d 12 = .ok (.ireturn, 1))
set_option maxRecDepth 100000 in
set_option maxHeartbeats 4000000 in
theorem cj_append5C (l : Launch) {D : va_G} {cB : ClassId} {a v n : Nat} {f : Nat → Int32} {ch : Int32} (hc : ¬ 255 < ch) (hn : n + 1 ≤ 16) (hf : sb_Fit f) : sq_ok l yJ5_append_3fe6f cJ5_append_3fe6f 2 (some (.object "java/lang/AbstractStringBuilder")) ({ frames := 1, cells := 0, slots := 0, locals := 22 }) D [(cB, .byte)] sj_B [.ref a, .int ch] [(a, .inr (12, [.ref v, .int 0, .int 0, .int (nI n)])), (v, .inl (cB, 16, .inl f))] (fun r w => r = some (.ref a) ∧ ∃ f2, sb_Fit f2 ∧ w = [(a, .inr (12, [.ref v, .int 0, .int 0, .int (nI (n + 1))])), (v, .inl (cB, 16, .inl f2))]) 0 0 := by
  refine sq_met (by decide +kernel) (Nat.le_of_ble_eq_true rfl) ?_
  intro p e s m args below meth c A ls hC hlocks hr hin hP hK hD hA hX hl
  obtain ⟨hx, hb, hml, hown, hts⟩ := id hC
  have hS : va_S A s.heap s.heap [] := va_S.rf
  have hl : lv_has ls 2 [(0, .ref a), (1, .int ch)] := hl
  refine lv_aload_n hx hb (by decide +kernel : decode cJ5_append_3fe6f 0 = .ok (.aload_n 0, 1)) rfl (lv_at hl 0 rfl) ?_
  refine lv_aload_n hx hb (by decide +kernel : decode cJ5_append_3fe6f 1 = .ok (.aload_n 0, 1)) rfl (lv_at hl 0 rfl) ?_
  refine va_get (D := D) (ci := 12) (v := .int (nI n)) (C := RJ4) (T := TJ4) (N := 4) hx hb hts sj_in4 hown hK hP 0 rfl rfl 3 (by decide) (hts _ kw_736) (fun _ h9 => h9) rfl (by decide +kernel : decode cJ5_append_3fe6f 2 = .ok (.getfield 79, 3)) ?_
  refine lv_iconst (v := 1) hx hb (by decide +kernel : decode cJ5_append_3fe6f 5 = .ok (.iconst 1, 1)) (by decide) ?_
  refine lv_iadd hx hb (by decide +kernel : decode cJ5_append_3fe6f 6 = .ok (.iadd, 1)) ?_
  refine lv_topi (fun z9 e9 => ?_)
  obtain rfl : z9 = (nI (n + 1)) := by rw [e9]; exact nI_1 n
  refine sq_cu (n := 1) (wr := []) (C := "java/lang/StringBuilder") (owner := "java/lang/AbstractStringBuilder") hC (cj_ensure l (a := a) (v := v) (n := n) (q := n + 1) (f := f) hn) ⟨rfl, rfl⟩ kw_758 kq_1093 kw_760 (hts _ kzp_1) kw_761 kw_13 rfl (by decide +kernel) rfl (va_recv hK hP (ci := 12) (q0 := 0) rfl rfl) [0, 1] [] rfl rfl rfl rfl (by decide) sj_EB hK hP hD hS hA (sq_down sj_EB hX hS (va_free hD hS hA [0, 1] rfl)) hl.1 rfl (Nat.le_of_ble_eq_true rfl) ⟨Nat.le_of_ble_eq_true rfl, Nat.le_of_ble_eq_true rfl⟩ ⟨Nat.le_of_ble_eq_true rfl, Nat.le_of_ble_eq_true rfl⟩ (by decide +kernel : decode cJ5_append_3fe6f 7 = .ok (.invokevirtual 100, 3)) (fun v9 w9 H locs h9 hP hD hS => ?_)
  obtain ⟨rfl, rfl⟩ := h9
  have hP : va_P D vwCl [(a, .inr (12, [.ref v, .int 0, .int 0, .int (nI n)])), (v, .inl (cB, 16, .inl f))] H := hP
  have hD : va_D A [(a, .inr (12, [.ref v, .int 0, .int 0, .int (nI n)])), (v, .inl (cB, 16, .inl f))] := hD
  refine W.eq (g2 := F0 m 10 ls []) rfl ?_
  refine lv_aload_n hx hb (by decide +kernel : decode cJ5_append_3fe6f 10 = .ok (.aload_n 0, 1)) rfl (lv_at hl 0 rfl) ?_
  refine sq_cu (n := 0) (wr := []) (C := "java/lang/StringBuilder") (owner := "java/lang/AbstractStringBuilder") hC (cj_isLatinB l (a := a) (v := v) (n := n) (f := f)) ⟨rfl, rfl⟩ kw_787 kq_789 kw_788 (hts _ kw_790) kw_791 kw_13 rfl (by decide +kernel) rfl (va_recv hK hP (ci := 12) (q0 := 0) rfl rfl) [0, 1] [] rfl rfl rfl rfl (by decide) sj_EB hK hP hD hS hA (sq_down sj_EB hX hS (va_free hD hS hA [0, 1] rfl)) hl.1 rfl (Nat.le_of_ble_eq_true rfl) ⟨Nat.le_of_ble_eq_true rfl, Nat.le_of_ble_eq_true rfl⟩ ⟨Nat.le_of_ble_eq_true rfl, Nat.le_of_ble_eq_true rfl⟩ (by decide +kernel : decode cJ5_append_3fe6f 11 = .ok (.invokevirtual 83, 3)) (fun v9 w9 H locs h9 hP hD hS => ?_)
  obtain ⟨rfl, rfl⟩ := h9
  have hP : va_P D vwCl [(a, .inr (12, [.ref v, .int 0, .int 0, .int (nI n)])), (v, .inl (cB, 16, .inl f))] H := hP
  have hD : va_D A [(a, .inr (12, [.ref v, .int 0, .int 0, .int (nI n)])), (v, .inl (cB, 16, .inl f))] := hD
  refine W.eq (g2 := F0 m 14 ls [.int 1]) rfl ?_
  refine lv_if_eq (tgt := 45) hx hb (by decide +kernel : decode cJ5_append_3fe6f 14 = .ok (.ifCond .eq 31, 3)) (by decide) (fun h9 => absurd h9 (by decide)) (fun _ => ?_)
  refine lv_iload_n hx hb (by decide +kernel : decode cJ5_append_3fe6f 17 = .ok (.iload_n 1, 1)) rfl (lv_at hl 1 rfl) ?_
  refine sq_cs (n := 1) (wr := [(a, .inr (12, [.ref v, .int 0, .int 0, .int (nI n)])), (v, .inl (cB, 16, .inl f))]) hC (cj_canEncode l (ch := ch) hc) ⟨rfl, rfl⟩ kw_900 kw_901 kw_902 kw_21 (by decide +kernel) rfl [] [0, 1] rfl rfl rfl rfl (by decide) sj_EB hK hP hD hS hA (sq_down sj_EB hX hS (va_free hD hS hA [] rfl)) hl.1 rfl (Nat.le_of_ble_eq_true rfl) ⟨Nat.le_of_ble_eq_true rfl, Nat.le_of_ble_eq_true rfl⟩ ⟨Nat.le_of_ble_eq_true rfl, Nat.le_of_ble_eq_true rfl⟩ (by decide +kernel : decode cJ5_append_3fe6f 18 = .ok (.invokestatic 191, 3)) (fun v9 w9 H locs h9 hP hD hS => ?_)
  obtain ⟨rfl, rfl⟩ := h9
  have hP : va_P D vwCl [(a, .inr (12, [.ref v, .int 0, .int 0, .int (nI n)])), (v, .inl (cB, 16, .inl f))] H := hP
  have hD : va_D A [(a, .inr (12, [.ref v, .int 0, .int 0, .int (nI n)])), (v, .inl (cB, 16, .inl f))] := hD
  refine W.eq (g2 := F0 m 21 ls [.int 1]) rfl ?_
  refine lv_if_eq (tgt := 45) hx hb (by decide +kernel : decode cJ5_append_3fe6f 21 = .ok (.ifCond .eq 24, 3)) (by decide) (fun h9 => absurd h9 (by decide)) (fun _ => ?_)
  refine lv_aload_n hx hb (by decide +kernel : decode cJ5_append_3fe6f 24 = .ok (.aload_n 0, 1)) rfl (lv_at hl 0 rfl) ?_
  refine va_get (D := D) (ci := 12) (v := .ref v) (C := RJ4) (T := TJ4) (N := 4) hx hb hts sj_in4 hown hK hP 0 rfl rfl 0 (by decide) (hts _ kw_733) (fun _ h9 => h9) rfl (by decide +kernel : decode cJ5_append_3fe6f 25 = .ok (.getfield 15, 3)) ?_
  refine lv_aload_n hx hb (by decide +kernel : decode cJ5_append_3fe6f 28 = .ok (.aload_n 0, 1)) rfl (lv_at hl 0 rfl) ?_
  refine lv_dup hx hb (by decide +kernel : decode cJ5_append_3fe6f 29 = .ok (.dup, 1)) rfl ?_
  refine va_get (D := D) (ci := 12) (v := .int (nI n)) (C := RJ4) (T := TJ4) (N := 4) hx hb hts sj_in4 hown hK hP 0 rfl rfl 3 (by decide) (hts _ kw_736) (fun _ h9 => h9) rfl (by decide +kernel : decode cJ5_append_3fe6f 30 = .ok (.getfield 79, 3)) ?_
  refine lv_dup_x1 hx hb (by decide +kernel : decode cJ5_append_3fe6f 33 = .ok (.dup_x1, 1)) rfl rfl ?_
  refine lv_iconst (v := 1) hx hb (by decide +kernel : decode cJ5_append_3fe6f 34 = .ok (.iconst 1, 1)) (by decide) ?_
  refine lv_iadd hx hb (by decide +kernel : decode cJ5_append_3fe6f 35 = .ok (.iadd, 1)) ?_
  refine lv_topi (fun z9 e9 => ?_)
  obtain rfl : z9 = (nI (n + 1)) := by rw [e9]; exact nI_1 n
  refine va_put (D := D) (ci := 12) (v := .int (nI (n + 1))) (ty := .int) (C := RJ4) (T := TJ4) (N := 4) hx hb hts sj_in4 tyJ4 tyJ4_ok nmJ4 hown hK hP hD hS 0 rfl rfl 3 (by decide) (hts _ kw_736) (fun _ h9 => h9) rfl (by decide +kernel) rfl rfl (Nat.le_of_ble_eq_true rfl) (by decide +kernel : decode cJ5_append_3fe6f 36 = .ok (.putfield 79, 3)) (fun H locs hP hD hS => ?_)
  have hP : va_P D vwCl [(a, .inr (12, [.ref v, .int 0, .int 0, .int (nI (n + 1))])), (v, .inl (cB, 16, .inl f))] H := hP
  have hD : va_D A [(a, .inr (12, [.ref v, .int 0, .int 0, .int (nI (n + 1))])), (v, .inl (cB, 16, .inl f))] := hD
  refine lv_iload_n hx hb (by decide +kernel : decode cJ5_append_3fe6f 39 = .ok (.iload_n 1, 1)) rfl (lv_at hl 1 rfl) ?_
  refine lv_i2b hx hb (by decide +kernel : decode cJ5_append_3fe6f 40 = .ok (.i2b, 1)) rfl ?_
  refine va_bast hx hb hK hP hD hS 1 0 rfl rfl (vp_in_nI (by omega) (by omega)) (by decide +kernel : decode cJ5_append_3fe6f 41 = .ok (.bastore, 1)) (fun H locs hP hD hS => ?_)
  generalize hg41 : (upd f _ _) = f2 at hP hD
  have hP : va_P D vwCl [(a, .inr (12, [.ref v, .int 0, .int 0, .int (nI (n + 1))])), (v, .inl (cB, 16, .inl f2))] H := hP
  have hD : va_D A [(a, .inr (12, [.ref v, .int 0, .int 0, .int (nI (n + 1))])), (v, .inl (cB, 16, .inl f2))] := hD
  refine lv_goto (tgt := 75) hx hb (by decide +kernel : decode cJ5_append_3fe6f 42 = .ok (.goto 33, 3)) (by decide) ?_
  refine lv_aload_n hx hb (by decide +kernel : decode cJ5_append_3fe6f 75 = .ok (.aload_n 0, 1)) rfl (lv_at hl 0 rfl) ?_
  exact sq_aret hx hb hlocks hr (by first | exact Or.inl ⟨_, rfl⟩ | exact Or.inr ⟨_, rfl⟩) (⟨rfl, f2, by rw [← hg41]; exact sb_fitU hf (by rw [vp_nar_byte]; exact pk_fb _), rfl⟩) hP hD hS (by decide +kernel : decode cJ5_append_3fe6f 76 = .ok (.areturn, 1))
set_option maxRecDepth 100000 in
set_option maxHeartbeats 4000000 in
theorem cj_append4C (l : Launch) {D : va_G} {cB : ClassId} {a v n : Nat} {f : Nat → Int32} {ch : Int32} (hc : ¬ 255 < ch) (hn : n + 1 ≤ 16) (hf : sb_Fit f) : sq_ok l yJ4_append_cf468 cJ4_append_cf468 2 (some (.object "java/lang/StringBuilder")) ({ frames := 2, cells := 0, slots := 0, locals := 43 }) D [(cB, .byte)] sj_B [.ref a, .int ch] [(a, .inr (12, [.ref v, .int 0, .int 0, .int (nI n)])), (v, .inl (cB, 16, .inl f))] (fun r w => r = some (.ref a) ∧ ∃ f2, sb_Fit f2 ∧ w = [(a, .inr (12, [.ref v, .int 0, .int 0, .int (nI (n + 1))])), (v, .inl (cB, 16, .inl f2))]) 0 0 := by
  refine sq_met (by decide +kernel) (Nat.le_of_ble_eq_true rfl) ?_
  intro p e s m args below meth c A ls hC hlocks hr hin hP hK hD hA hX hl
  obtain ⟨hx, hb, hml, hown, hts⟩ := id hC
  have hS : va_S A s.heap s.heap [] := va_S.rf
  have hl : lv_has ls 2 [(0, .ref a), (1, .int ch)] := hl
  refine lv_aload_n hx hb (by decide +kernel : decode cJ4_append_cf468 0 = .ok (.aload_n 0, 1)) rfl (lv_at hl 0 rfl) ?_
  refine lv_iload_n hx hb (by decide +kernel : decode cJ4_append_cf468 1 = .ok (.iload_n 1, 1)) rfl (lv_at hl 1 rfl) ?_
  refine sq_csu (n := 1) (wr := []) hC (hK.1 12 _ rfl).2 (cj_append5C l (a := a) (v := v) (n := n) (f := f) (ch := ch) hc hn hf) ⟨rfl, rfl⟩ kw_897 kq_1098 kq_745 kw_898 kw_899 kw_13 (by decide +kernel) rfl (va_recv hK hP (ci := 12) (q0 := 0) rfl rfl) [0, 1] [] rfl rfl rfl rfl (by decide) sj_EB hK hP hD hS hA (sq_down sj_EB hX hS (va_free hD hS hA [0, 1] rfl)) hl.1 rfl (Nat.le_of_ble_eq_true rfl) ⟨Nat.le_of_ble_eq_true rfl, Nat.le_of_ble_eq_true rfl⟩ ⟨Nat.le_of_ble_eq_true rfl, Nat.le_of_ble_eq_true rfl⟩ (by decide +kernel : decode cJ4_append_cf468 2 = .ok (.invokespecial 50, 3)) (fun v9 w9 H locs h9 hP hD hS => ?_)
  obtain ⟨rfl, f2, hf2, rfl⟩ := h9
  have hP : va_P D vwCl [(a, .inr (12, [.ref v, .int 0, .int 0, .int (nI (n + 1))])), (v, .inl (cB, 16, .inl f2))] H := hP
  have hD : va_D A [(a, .inr (12, [.ref v, .int 0, .int 0, .int (nI (n + 1))])), (v, .inl (cB, 16, .inl f2))] := hD
  refine W.eq (g2 := F0 m 5 ls [.ref a]) rfl ?_
  refine lv_pop hx hb (by decide +kernel : decode cJ4_append_cf468 5 = .ok (.pop, 1)) rfl ?_
  refine lv_aload_n hx hb (by decide +kernel : decode cJ4_append_cf468 6 = .ok (.aload_n 0, 1)) rfl (lv_at hl 0 rfl) ?_
  exact sq_aret hx hb hlocks hr (by first | exact Or.inl ⟨_, rfl⟩ | exact Or.inr ⟨_, rfl⟩) (⟨rfl, f2, hf2, rfl⟩) hP hD hS (by decide +kernel : decode cJ4_append_cf468 7 = .ok (.areturn, 1))
set_option maxRecDepth 100000 in
set_option maxHeartbeats 4000000 in
theorem cj_size1 (l : Launch) {D : va_G} {cB : ClassId} {v : Nat} (h0 : 1 ≤ v) (h1 : v < 10) : sq_ok l yJ6_stringSize_0f7a4 cJ6_stringSize_0f7a4 4 (some .int) ({ frames := 0, cells := 0, slots := 0, locals := 0 }) D [(cB, .byte)] sj_B [.int (nI v)] [] (fun r w => r = some (.int 1) ∧ w = []) 0 0 := by
  refine sq_met (by decide +kernel) (Nat.le_of_ble_eq_true rfl) ?_
  intro p e s m args below meth c A ls hC hlocks hr hin hP hK hD hA hX hl
  obtain ⟨hx, hb, hml, hown, hts⟩ := id hC
  have hS : va_S A s.heap s.heap [] := va_S.rf
  have hl : lv_has ls 4 [(0, .int (nI v))] := hl
  refine lv_iconst (v := 1) hx hb (by decide +kernel : decode cJ6_stringSize_0f7a4 0 = .ok (.iconst 1, 1)) (by decide) ?_
  refine lv_istore_n (lv' := [(1, .int (1)), (0, .int (nI v))]) hx hb (by decide +kernel : decode cJ6_stringSize_0f7a4 1 = .ok (.istore_n 1, 1)) rfl hl (by decide) rfl (fun ls hl => ?_)
  refine lv_iload_n hx hb (by decide +kernel : decode cJ6_stringSize_0f7a4 2 = .ok (.iload_n 0, 1)) rfl (lv_at hl 1 rfl) ?_
  refine lv_if_lt (tgt := 11) hx hb (by decide +kernel : decode cJ6_stringSize_0f7a4 3 = .ok (.ifCond .lt 8, 3)) (by decide) (fun h9 => absurd h9 (nI_pos (by omega))) (fun _ => ?_)
  refine lv_iconst (v := 0) hx hb (by decide +kernel : decode cJ6_stringSize_0f7a4 6 = .ok (.iconst 0, 1)) (by decide) ?_
  refine lv_istore_n (lv' := [(1, .int (0)), (0, .int (nI v))]) hx hb (by decide +kernel : decode cJ6_stringSize_0f7a4 7 = .ok (.istore_n 1, 1)) rfl hl (by decide) rfl (fun ls hl => ?_)
  refine lv_iload_n hx hb (by decide +kernel : decode cJ6_stringSize_0f7a4 8 = .ok (.iload_n 0, 1)) rfl (lv_at hl 1 rfl) ?_
  refine lv_ineg hx hb (by decide +kernel : decode cJ6_stringSize_0f7a4 9 = .ok (.ineg, 1)) ?_
  refine lv_istore_n (lv' := [(0, .int (-(nI v))), (1, .int (0))]) hx hb (by decide +kernel : decode cJ6_stringSize_0f7a4 10 = .ok (.istore_n 0, 1)) rfl hl (by decide) rfl (fun ls hl => ?_)
  refine lv_bipush (v := -10) hx hb (by decide +kernel : decode cJ6_stringSize_0f7a4 11 = .ok (.bipush (-10), 2)) (by decide) ?_
  refine lv_istore_n (lv' := [(2, .int (-10)), (0, .int (-(nI v))), (1, .int (0))]) hx hb (by decide +kernel : decode cJ6_stringSize_0f7a4 13 = .ok (.istore_n 2, 1)) rfl hl (by decide) rfl (fun ls hl => ?_)
  refine lv_iconst (v := 1) hx hb (by decide +kernel : decode cJ6_stringSize_0f7a4 14 = .ok (.iconst 1, 1)) (by decide) ?_
  refine lv_istore_n (lv' := [(3, .int (1)), (2, .int (-10)), (0, .int (-(nI v))), (1, .int (0))]) hx hb (by decide +kernel : decode cJ6_stringSize_0f7a4 15 = .ok (.istore_n 3, 1)) rfl hl (by decide) rfl (fun ls hl => ?_)
  refine lv_iload_n hx hb (by decide +kernel : decode cJ6_stringSize_0f7a4 16 = .ok (.iload_n 3, 1)) rfl (lv_at hl 0 rfl) ?_
  refine lv_bipush (v := 10) hx hb (by decide +kernel : decode cJ6_stringSize_0f7a4 17 = .ok (.bipush 10, 2)) (by decide) ?_
  refine lv_icmp_ge (tgt := 42) hx hb (by decide +kernel : decode cJ6_stringSize_0f7a4 19 = .ok (.if_icmp .ge 23, 3)) (by decide) (fun h9 => absurd h9 (by decide)) (fun _ => ?_)
  refine lv_iload_n hx hb (by decide +kernel : decode cJ6_stringSize_0f7a4 22 = .ok (.iload_n 0, 1)) rfl (lv_at hl 2 rfl) ?_
  refine lv_iload_n hx hb (by decide +kernel : decode cJ6_stringSize_0f7a4 23 = .ok (.iload_n 2, 1)) rfl (lv_at hl 1 rfl) ?_
  refine lv_icmp_le (tgt := 31) hx hb (by decide +kernel : decode cJ6_stringSize_0f7a4 24 = .ok (.if_icmp .le 7, 3)) (by decide) (fun h9 => absurd h9 (sj_g10 (by omega) h1)) (fun _ => ?_)
  refine lv_iload_n hx hb (by decide +kernel : decode cJ6_stringSize_0f7a4 27 = .ok (.iload_n 3, 1)) rfl (lv_at hl 0 rfl) ?_
  refine lv_iload_n hx hb (by decide +kernel : decode cJ6_stringSize_0f7a4 28 = .ok (.iload_n 1, 1)) rfl (lv_at hl 3 rfl) ?_
  refine lv_iadd hx hb (by decide +kernel : decode cJ6_stringSize_0f7a4 29 = .ok (.iadd, 1)) ?_
  refine lv_topi (fun z9 e9 => ?_)
  obtain rfl : z9 = 1 := by rw [e9]; decide
  exact sq_iret hx hb hlocks hr (⟨rfl, rfl⟩) hP hD hS (by decide +kernel : decode cJ6_stringSize_0f7a4 30 = .ok (.ireturn, 1))
set_option maxRecDepth 100000 in
set_option maxHeartbeats 4000000 in
theorem cj_size2 (l : Launch) {D : va_G} {cB : ClassId} {v : Nat} (h0 : 10 ≤ v) (h1 : v < 100) : sq_ok l yJ6_stringSize_0f7a4 cJ6_stringSize_0f7a4 4 (some .int) ({ frames := 0, cells := 0, slots := 0, locals := 0 }) D [(cB, .byte)] sj_B [.int (nI v)] [] (fun r w => r = some (.int 2) ∧ w = []) 0 0 := by
  refine sq_met (by decide +kernel) (Nat.le_of_ble_eq_true rfl) ?_
  intro p e s m args below meth c A ls hC hlocks hr hin hP hK hD hA hX hl
  obtain ⟨hx, hb, hml, hown, hts⟩ := id hC
  have hS : va_S A s.heap s.heap [] := va_S.rf
  have hl : lv_has ls 4 [(0, .int (nI v))] := hl
  refine lv_iconst (v := 1) hx hb (by decide +kernel : decode cJ6_stringSize_0f7a4 0 = .ok (.iconst 1, 1)) (by decide) ?_
  refine lv_istore_n (lv' := [(1, .int (1)), (0, .int (nI v))]) hx hb (by decide +kernel : decode cJ6_stringSize_0f7a4 1 = .ok (.istore_n 1, 1)) rfl hl (by decide) rfl (fun ls hl => ?_)
  refine lv_iload_n hx hb (by decide +kernel : decode cJ6_stringSize_0f7a4 2 = .ok (.iload_n 0, 1)) rfl (lv_at hl 1 rfl) ?_
  refine lv_if_lt (tgt := 11) hx hb (by decide +kernel : decode cJ6_stringSize_0f7a4 3 = .ok (.ifCond .lt 8, 3)) (by decide) (fun h9 => absurd h9 (nI_pos (by omega))) (fun _ => ?_)
  refine lv_iconst (v := 0) hx hb (by decide +kernel : decode cJ6_stringSize_0f7a4 6 = .ok (.iconst 0, 1)) (by decide) ?_
  refine lv_istore_n (lv' := [(1, .int (0)), (0, .int (nI v))]) hx hb (by decide +kernel : decode cJ6_stringSize_0f7a4 7 = .ok (.istore_n 1, 1)) rfl hl (by decide) rfl (fun ls hl => ?_)
  refine lv_iload_n hx hb (by decide +kernel : decode cJ6_stringSize_0f7a4 8 = .ok (.iload_n 0, 1)) rfl (lv_at hl 1 rfl) ?_
  refine lv_ineg hx hb (by decide +kernel : decode cJ6_stringSize_0f7a4 9 = .ok (.ineg, 1)) ?_
  refine lv_istore_n (lv' := [(0, .int (-(nI v))), (1, .int (0))]) hx hb (by decide +kernel : decode cJ6_stringSize_0f7a4 10 = .ok (.istore_n 0, 1)) rfl hl (by decide) rfl (fun ls hl => ?_)
  refine lv_bipush (v := -10) hx hb (by decide +kernel : decode cJ6_stringSize_0f7a4 11 = .ok (.bipush (-10), 2)) (by decide) ?_
  refine lv_istore_n (lv' := [(2, .int (-10)), (0, .int (-(nI v))), (1, .int (0))]) hx hb (by decide +kernel : decode cJ6_stringSize_0f7a4 13 = .ok (.istore_n 2, 1)) rfl hl (by decide) rfl (fun ls hl => ?_)
  refine lv_iconst (v := 1) hx hb (by decide +kernel : decode cJ6_stringSize_0f7a4 14 = .ok (.iconst 1, 1)) (by decide) ?_
  refine lv_istore_n (lv' := [(3, .int (1)), (2, .int (-10)), (0, .int (-(nI v))), (1, .int (0))]) hx hb (by decide +kernel : decode cJ6_stringSize_0f7a4 15 = .ok (.istore_n 3, 1)) rfl hl (by decide) rfl (fun ls hl => ?_)
  refine lv_iload_n hx hb (by decide +kernel : decode cJ6_stringSize_0f7a4 16 = .ok (.iload_n 3, 1)) rfl (lv_at hl 0 rfl) ?_
  refine lv_bipush (v := 10) hx hb (by decide +kernel : decode cJ6_stringSize_0f7a4 17 = .ok (.bipush 10, 2)) (by decide) ?_
  refine lv_icmp_ge (tgt := 42) hx hb (by decide +kernel : decode cJ6_stringSize_0f7a4 19 = .ok (.if_icmp .ge 23, 3)) (by decide) (fun h9 => absurd h9 (by decide)) (fun _ => ?_)
  refine lv_iload_n hx hb (by decide +kernel : decode cJ6_stringSize_0f7a4 22 = .ok (.iload_n 0, 1)) rfl (lv_at hl 2 rfl) ?_
  refine lv_iload_n hx hb (by decide +kernel : decode cJ6_stringSize_0f7a4 23 = .ok (.iload_n 2, 1)) rfl (lv_at hl 1 rfl) ?_
  refine lv_icmp_le (tgt := 31) hx hb (by decide +kernel : decode cJ6_stringSize_0f7a4 24 = .ok (.if_icmp .le 7, 3)) (by decide) (fun _ => ?_) (fun h9 => absurd (sj_l10 (by omega) h0) h9)
  refine lv_bipush (v := 10) hx hb (by decide +kernel : decode cJ6_stringSize_0f7a4 31 = .ok (.bipush 10, 2)) (by decide) ?_
  refine lv_iload_n hx hb (by decide +kernel : decode cJ6_stringSize_0f7a4 33 = .ok (.iload_n 2, 1)) rfl (lv_at hl 1 rfl) ?_
  refine lv_imul hx hb (by decide +kernel : decode cJ6_stringSize_0f7a4 34 = .ok (.imul, 1)) ?_
  refine lv_istore_n (lv' := [(2, .int ((10) * (-10))), (3, .int (1)), (0, .int (-(nI v))), (1, .int (0))]) hx hb (by decide +kernel : decode cJ6_stringSize_0f7a4 35 = .ok (.istore_n 2, 1)) rfl hl (by decide) rfl (fun ls hl => ?_)
  refine lv_iinc (lv' := [(3, .int ((1) + (1))), (2, .int ((10) * (-10))), (0, .int (-(nI v))), (1, .int (0))]) hx hb (by decide +kernel : decode cJ6_stringSize_0f7a4 36 = .ok (.iinc 3 1, 3)) hl (k := 1) rfl rfl (by decide) rfl (fun ls hl => ?_)
  refine lv_goto (tgt := 16) hx hb (by decide +kernel : decode cJ6_stringSize_0f7a4 39 = .ok (.goto (-23), 3)) (by decide) ?_
  refine lv_iload_n hx hb (by decide +kernel : decode cJ6_stringSize_0f7a4 16 = .ok (.iload_n 3, 1)) rfl (lv_at hl 0 rfl) ?_
  refine lv_bipush (v := 10) hx hb (by decide +kernel : decode cJ6_stringSize_0f7a4 17 = .ok (.bipush 10, 2)) (by decide) ?_
  refine lv_icmp_ge (tgt := 42) hx hb (by decide +kernel : decode cJ6_stringSize_0f7a4 19 = .ok (.if_icmp .ge 23, 3)) (by decide) (fun h9 => absurd h9 (by decide)) (fun _ => ?_)
  refine lv_iload_n hx hb (by decide +kernel : decode cJ6_stringSize_0f7a4 22 = .ok (.iload_n 0, 1)) rfl (lv_at hl 2 rfl) ?_
  refine lv_iload_n hx hb (by decide +kernel : decode cJ6_stringSize_0f7a4 23 = .ok (.iload_n 2, 1)) rfl (lv_at hl 1 rfl) ?_
  refine lv_icmp_le (tgt := 31) hx hb (by decide +kernel : decode cJ6_stringSize_0f7a4 24 = .ok (.if_icmp .le 7, 3)) (by decide) (fun h9 => absurd h9 (sj_g100 (by omega) h1)) (fun _ => ?_)
  refine lv_iload_n hx hb (by decide +kernel : decode cJ6_stringSize_0f7a4 27 = .ok (.iload_n 3, 1)) rfl (lv_at hl 0 rfl) ?_
  refine lv_iload_n hx hb (by decide +kernel : decode cJ6_stringSize_0f7a4 28 = .ok (.iload_n 1, 1)) rfl (lv_at hl 3 rfl) ?_
  refine lv_iadd hx hb (by decide +kernel : decode cJ6_stringSize_0f7a4 29 = .ok (.iadd, 1)) ?_
  refine lv_topi (fun z9 e9 => ?_)
  obtain rfl : z9 = 2 := by rw [e9]; decide
  exact sq_iret hx hb hlocks hr (⟨rfl, rfl⟩) hP hD hS (by decide +kernel : decode cJ6_stringSize_0f7a4 30 = .ok (.ireturn, 1))
set_option maxRecDepth 100000 in
set_option maxHeartbeats 4000000 in
theorem cj_chars1 (l : Launch) {D : va_G} {cB : ClassId} {v x r : Nat} {f : Nat → Int32} (h0 : 1 ≤ v) (h1 : v < 10) (hp : 1 ≤ x) (hp1 : x ≤ 16) (hf : sb_Fit f) : sq_ok l yJ6_getChars_ba4f3 cJ6_getChars_ba4f3 7 (some .int) ({ frames := 0, cells := 0, slots := 0, locals := 0 }) D [(cB, .byte)] sj_B [.int (nI v), .int (nI x), .ref r] [(r, .inl (cB, 16, .inl f))] (fun z w => (∃ i, z = some (.int i)) ∧ ∃ f2, sb_Fit f2 ∧ w = [(r, .inl (cB, 16, .inl f2))]) 0 0 := by
  refine sq_met (by decide +kernel) (Nat.le_of_ble_eq_true rfl) ?_
  intro p e s m args below meth c A ls hC hlocks hr hin hP hK hD hA hX hl
  obtain ⟨hx, hb, hml, hown, hts⟩ := id hC
  have hS : va_S A s.heap s.heap [] := va_S.rf
  have hl : lv_has ls 7 [(0, .int (nI v)), (1, .int (nI x)), (2, .ref r)] := hl
  obtain ⟨-, -, t1, t2, f1, g1, hZ1, hZ2, hT1, hT2⟩ := id hX
  refine lv_iload_n hx hb (by decide +kernel : decode cJ6_getChars_ba4f3 0 = .ok (.iload_n 1, 1)) rfl (lv_at hl 1 rfl) ?_
  refine lv_istore (lv' := [(5, .int (nI x)), (0, .int (nI v)), (1, .int (nI x)), (2, .ref r)]) hx hb (by decide +kernel : decode cJ6_getChars_ba4f3 1 = .ok (.istore 5, 2)) hl (by decide) rfl (fun ls hl => ?_)
  refine lv_iload_n hx hb (by decide +kernel : decode cJ6_getChars_ba4f3 3 = .ok (.iload_n 0, 1)) rfl (lv_at hl 1 rfl) ?_
  refine lv_if_ge (tgt := 11) hx hb (by decide +kernel : decode cJ6_getChars_ba4f3 4 = .ok (.ifCond .ge 7, 3)) (by decide) (fun _ => ?_) (fun h9 => absurd (nI_pos' (by omega)) h9)
  refine lv_iconst (v := 0) hx hb (by decide +kernel : decode cJ6_getChars_ba4f3 11 = .ok (.iconst 0, 1)) (by decide) ?_
  refine lv_istore (lv' := [(6, .int (0)), (5, .int (nI x)), (0, .int (nI v)), (1, .int (nI x)), (2, .ref r)]) hx hb (by decide +kernel : decode cJ6_getChars_ba4f3 12 = .ok (.istore 6, 2)) hl (by decide) rfl (fun ls hl => ?_)
  refine lv_iload hx hb (by decide +kernel : decode cJ6_getChars_ba4f3 14 = .ok (.iload 6, 2)) (lv_at hl 0 rfl) ?_
  refine lv_if_ne (tgt := 22) hx hb (by decide +kernel : decode cJ6_getChars_ba4f3 16 = .ok (.ifCond .ne 6, 3)) (by decide) (fun h9 => absurd h9 (fun h => h rfl)) (fun _ => ?_)
  refine lv_iload_n hx hb (by decide +kernel : decode cJ6_getChars_ba4f3 19 = .ok (.iload_n 0, 1)) rfl (lv_at hl 2 rfl) ?_
  refine lv_ineg hx hb (by decide +kernel : decode cJ6_getChars_ba4f3 20 = .ok (.ineg, 1)) ?_
  refine lv_istore_n (lv' := [(0, .int (-(nI v))), (6, .int (0)), (5, .int (nI x)), (1, .int (nI x)), (2, .ref r)]) hx hb (by decide +kernel : decode cJ6_getChars_ba4f3 21 = .ok (.istore_n 0, 1)) rfl hl (by decide) rfl (fun ls hl => ?_)
  refine lv_iload_n hx hb (by decide +kernel : decode cJ6_getChars_ba4f3 22 = .ok (.iload_n 0, 1)) rfl (lv_at hl 0 rfl) ?_
  refine lv_bipush (v := -100) hx hb (by decide +kernel : decode cJ6_getChars_ba4f3 23 = .ok (.bipush (-100), 2)) (by decide) ?_
  refine lv_icmp_gt (tgt := 72) hx hb (by decide +kernel : decode cJ6_getChars_ba4f3 25 = .ok (.if_icmp .gt 47, 3)) (by decide) (fun _ => ?_) (fun h9 => absurd (sj_h100 (by omega) (by omega)) h9)
  refine lv_aload_n hx hb (by decide +kernel : decode cJ6_getChars_ba4f3 72 = .ok (.aload_n 2, 1)) rfl (lv_at hl 4 rfl) ?_
  refine lv_iinc (lv' := [(5, .int ((nI x) + (-1))), (0, .int (-(nI v))), (6, .int (0)), (1, .int (nI x)), (2, .ref r)]) hx hb (by decide +kernel : decode cJ6_getChars_ba4f3 73 = .ok (.iinc 5 (-1), 3)) hl (k := 2) rfl rfl (by decide) rfl (fun ls hl => ?_)
  refine lv_iload hx hb (by decide +kernel : decode cJ6_getChars_ba4f3 76 = .ok (.iload 5, 2)) (lv_at hl 0 rfl) ?_
  refine lv_topi (fun z9 e9 => ?_)
  obtain rfl : z9 = (nI (x - 1)) := by rw [e9]; exact sb_m1 (by omega)
  refine va_gets hx hb hZ1 hS hown (hts _ kw_922) (fun _ h9 => h9) (by decide +kernel : decode cJ6_getChars_ba4f3 78 = .ok (.getstatic 83, 3)) ?_
  refine lv_iload_n hx hb (by decide +kernel : decode cJ6_getChars_ba4f3 81 = .ok (.iload_n 0, 1)) rfl (lv_at hl 1 rfl) ?_
  refine lv_ineg hx hb (by decide +kernel : decode cJ6_getChars_ba4f3 82 = .ok (.ineg, 1)) ?_
  refine lv_topi (fun z9 e9 => ?_)
  obtain rfl : z9 = (nI v) := by rw [e9]; exact Int32.neg_neg
  refine va_tb hx hb hT1 hS (v := .int (f1 (nI v).toNatClampNeg)) (vp_in_nI (by omega) (by omega)) rfl (by decide +kernel : decode cJ6_getChars_ba4f3 83 = .ok (.baload, 1)) ?_
  refine va_bast hx hb hK hP hD hS 0 0 rfl rfl (vp_in_nI (by omega) (by omega)) (by decide +kernel : decode cJ6_getChars_ba4f3 84 = .ok (.bastore, 1)) (fun H locs hP hD hS => ?_)
  generalize hg84 : (upd f _ _) = f2 at hP hD
  have hP : va_P D vwCl [(r, .inl (cB, 16, .inl f2))] H := hP
  have hD : va_D A [(r, .inl (cB, 16, .inl f2))] := hD
  have hf2 : sb_Fit f2 := by rw [← hg84]; exact sb_fitU hf (by rw [vp_nar_byte]; exact pk_fb _)
  refine lv_iload_n hx hb (by decide +kernel : decode cJ6_getChars_ba4f3 85 = .ok (.iload_n 0, 1)) rfl (lv_at hl 1 rfl) ?_
  refine lv_bipush (v := -9) hx hb (by decide +kernel : decode cJ6_getChars_ba4f3 86 = .ok (.bipush (-9), 2)) (by decide) ?_
  refine lv_icmp_ge (tgt := 104) hx hb (by decide +kernel : decode cJ6_getChars_ba4f3 88 = .ok (.if_icmp .ge 16, 3)) (by decide) (fun _ => ?_) (fun h9 => absurd (sj_l9 (by omega) h1) h9)
  refine lv_iload hx hb (by decide +kernel : decode cJ6_getChars_ba4f3 104 = .ok (.iload 6, 2)) (lv_at hl 2 rfl) ?_
  refine lv_if_eq (tgt := 118) hx hb (by decide +kernel : decode cJ6_getChars_ba4f3 106 = .ok (.ifCond .eq 12, 3)) (by decide) (fun _ => ?_) (fun h9 => absurd (rfl) h9)
  refine lv_iload hx hb (by decide +kernel : decode cJ6_getChars_ba4f3 118 = .ok (.iload 5, 2)) (lv_at hl 0 rfl) ?_
  exact sq_iret hx hb hlocks hr (⟨⟨_, rfl⟩, f2, hf2, rfl⟩) hP hD hS (by decide +kernel : decode cJ6_getChars_ba4f3 120 = .ok (.ireturn, 1))
set_option maxRecDepth 100000 in
set_option maxHeartbeats 4000000 in
theorem cj_chars2 (l : Launch) {D : va_G} {cB : ClassId} {v x r : Nat} {f : Nat → Int32} (h0 : 10 ≤ v) (h1 : v < 100) (hp : 2 ≤ x) (hp1 : x ≤ 16) (hf : sb_Fit f) : sq_ok l yJ6_getChars_ba4f3 cJ6_getChars_ba4f3 7 (some .int) ({ frames := 0, cells := 0, slots := 0, locals := 0 }) D [(cB, .byte)] sj_B [.int (nI v), .int (nI x), .ref r] [(r, .inl (cB, 16, .inl f))] (fun z w => (∃ i, z = some (.int i)) ∧ ∃ f2, sb_Fit f2 ∧ w = [(r, .inl (cB, 16, .inl f2))]) 0 0 := by
  refine sq_met (by decide +kernel) (Nat.le_of_ble_eq_true rfl) ?_
  intro p e s m args below meth c A ls hC hlocks hr hin hP hK hD hA hX hl
  obtain ⟨hx, hb, hml, hown, hts⟩ := id hC
  have hS : va_S A s.heap s.heap [] := va_S.rf
  have hl : lv_has ls 7 [(0, .int (nI v)), (1, .int (nI x)), (2, .ref r)] := hl
  obtain ⟨-, -, t1, t2, f1, g1, hZ1, hZ2, hT1, hT2⟩ := id hX
  refine lv_iload_n hx hb (by decide +kernel : decode cJ6_getChars_ba4f3 0 = .ok (.iload_n 1, 1)) rfl (lv_at hl 1 rfl) ?_
  refine lv_istore (lv' := [(5, .int (nI x)), (0, .int (nI v)), (1, .int (nI x)), (2, .ref r)]) hx hb (by decide +kernel : decode cJ6_getChars_ba4f3 1 = .ok (.istore 5, 2)) hl (by decide) rfl (fun ls hl => ?_)
  refine lv_iload_n hx hb (by decide +kernel : decode cJ6_getChars_ba4f3 3 = .ok (.iload_n 0, 1)) rfl (lv_at hl 1 rfl) ?_
  refine lv_if_ge (tgt := 11) hx hb (by decide +kernel : decode cJ6_getChars_ba4f3 4 = .ok (.ifCond .ge 7, 3)) (by decide) (fun _ => ?_) (fun h9 => absurd (nI_pos' (by omega)) h9)
  refine lv_iconst (v := 0) hx hb (by decide +kernel : decode cJ6_getChars_ba4f3 11 = .ok (.iconst 0, 1)) (by decide) ?_
  refine lv_istore (lv' := [(6, .int (0)), (5, .int (nI x)), (0, .int (nI v)), (1, .int (nI x)), (2, .ref r)]) hx hb (by decide +kernel : decode cJ6_getChars_ba4f3 12 = .ok (.istore 6, 2)) hl (by decide) rfl (fun ls hl => ?_)
  refine lv_iload hx hb (by decide +kernel : decode cJ6_getChars_ba4f3 14 = .ok (.iload 6, 2)) (lv_at hl 0 rfl) ?_
  refine lv_if_ne (tgt := 22) hx hb (by decide +kernel : decode cJ6_getChars_ba4f3 16 = .ok (.ifCond .ne 6, 3)) (by decide) (fun h9 => absurd h9 (fun h => h rfl)) (fun _ => ?_)
  refine lv_iload_n hx hb (by decide +kernel : decode cJ6_getChars_ba4f3 19 = .ok (.iload_n 0, 1)) rfl (lv_at hl 2 rfl) ?_
  refine lv_ineg hx hb (by decide +kernel : decode cJ6_getChars_ba4f3 20 = .ok (.ineg, 1)) ?_
  refine lv_istore_n (lv' := [(0, .int (-(nI v))), (6, .int (0)), (5, .int (nI x)), (1, .int (nI x)), (2, .ref r)]) hx hb (by decide +kernel : decode cJ6_getChars_ba4f3 21 = .ok (.istore_n 0, 1)) rfl hl (by decide) rfl (fun ls hl => ?_)
  refine lv_iload_n hx hb (by decide +kernel : decode cJ6_getChars_ba4f3 22 = .ok (.iload_n 0, 1)) rfl (lv_at hl 0 rfl) ?_
  refine lv_bipush (v := -100) hx hb (by decide +kernel : decode cJ6_getChars_ba4f3 23 = .ok (.bipush (-100), 2)) (by decide) ?_
  refine lv_icmp_gt (tgt := 72) hx hb (by decide +kernel : decode cJ6_getChars_ba4f3 25 = .ok (.if_icmp .gt 47, 3)) (by decide) (fun _ => ?_) (fun h9 => absurd (sj_h100 (by omega) (by omega)) h9)
  refine lv_aload_n hx hb (by decide +kernel : decode cJ6_getChars_ba4f3 72 = .ok (.aload_n 2, 1)) rfl (lv_at hl 4 rfl) ?_
  refine lv_iinc (lv' := [(5, .int ((nI x) + (-1))), (0, .int (-(nI v))), (6, .int (0)), (1, .int (nI x)), (2, .ref r)]) hx hb (by decide +kernel : decode cJ6_getChars_ba4f3 73 = .ok (.iinc 5 (-1), 3)) hl (k := 2) rfl rfl (by decide) rfl (fun ls hl => ?_)
  refine lv_iload hx hb (by decide +kernel : decode cJ6_getChars_ba4f3 76 = .ok (.iload 5, 2)) (lv_at hl 0 rfl) ?_
  refine lv_topi (fun z9 e9 => ?_)
  obtain rfl : z9 = (nI (x - 1)) := by rw [e9]; exact sb_m1 (by omega)
  refine va_gets hx hb hZ1 hS hown (hts _ kw_922) (fun _ h9 => h9) (by decide +kernel : decode cJ6_getChars_ba4f3 78 = .ok (.getstatic 83, 3)) ?_
  refine lv_iload_n hx hb (by decide +kernel : decode cJ6_getChars_ba4f3 81 = .ok (.iload_n 0, 1)) rfl (lv_at hl 1 rfl) ?_
  refine lv_ineg hx hb (by decide +kernel : decode cJ6_getChars_ba4f3 82 = .ok (.ineg, 1)) ?_
  refine lv_topi (fun z9 e9 => ?_)
  obtain rfl : z9 = (nI v) := by rw [e9]; exact Int32.neg_neg
  refine va_tb hx hb hT1 hS (v := .int (f1 (nI v).toNatClampNeg)) (vp_in_nI (by omega) (by omega)) rfl (by decide +kernel : decode cJ6_getChars_ba4f3 83 = .ok (.baload, 1)) ?_
  refine va_bast hx hb hK hP hD hS 0 0 rfl rfl (vp_in_nI (by omega) (by omega)) (by decide +kernel : decode cJ6_getChars_ba4f3 84 = .ok (.bastore, 1)) (fun H locs hP hD hS => ?_)
  generalize hg84 : (upd f _ _) = f2 at hP hD
  have hP : va_P D vwCl [(r, .inl (cB, 16, .inl f2))] H := hP
  have hD : va_D A [(r, .inl (cB, 16, .inl f2))] := hD
  have hf2 : sb_Fit f2 := by rw [← hg84]; exact sb_fitU hf (by rw [vp_nar_byte]; exact pk_fb _)
  refine lv_iload_n hx hb (by decide +kernel : decode cJ6_getChars_ba4f3 85 = .ok (.iload_n 0, 1)) rfl (lv_at hl 1 rfl) ?_
  refine lv_bipush (v := -9) hx hb (by decide +kernel : decode cJ6_getChars_ba4f3 86 = .ok (.bipush (-9), 2)) (by decide) ?_
  refine lv_icmp_ge (tgt := 104) hx hb (by decide +kernel : decode cJ6_getChars_ba4f3 88 = .ok (.if_icmp .ge 16, 3)) (by decide) (fun h9 => absurd h9 (sj_g9 (by omega) h0)) (fun _ => ?_)
  refine lv_aload_n hx hb (by decide +kernel : decode cJ6_getChars_ba4f3 91 = .ok (.aload_n 2, 1)) rfl (lv_at hl 4 rfl) ?_
  refine lv_iinc (lv' := [(5, .int (((nI x) + (-1)) + (-1))), (0, .int (-(nI v))), (6, .int (0)), (1, .int (nI x)), (2, .ref r)]) hx hb (by decide +kernel : decode cJ6_getChars_ba4f3 92 = .ok (.iinc 5 (-1), 3)) hl (k := 0) rfl rfl (by decide) rfl (fun ls hl => ?_)
  refine lv_iload hx hb (by decide +kernel : decode cJ6_getChars_ba4f3 95 = .ok (.iload 5, 2)) (lv_at hl 0 rfl) ?_
  refine lv_topi (fun z9 e9 => ?_)
  obtain rfl : z9 = (nI (x - 2)) := by rw [e9]; exact sj_m2 hp
  refine va_gets hx hb hZ2 hS hown (hts _ kw_924) (fun _ h9 => h9) (by decide +kernel : decode cJ6_getChars_ba4f3 97 = .ok (.getstatic 87, 3)) ?_
  refine lv_iload_n hx hb (by decide +kernel : decode cJ6_getChars_ba4f3 100 = .ok (.iload_n 0, 1)) rfl (lv_at hl 1 rfl) ?_
  refine lv_ineg hx hb (by decide +kernel : decode cJ6_getChars_ba4f3 101 = .ok (.ineg, 1)) ?_
  refine lv_topi (fun z9 e9 => ?_)
  obtain rfl : z9 = (nI v) := by rw [e9]; exact Int32.neg_neg
  refine va_tb hx hb hT2 hS (v := .int (g1 (nI v).toNatClampNeg)) (vp_in_nI (by omega) (by omega)) rfl (by decide +kernel : decode cJ6_getChars_ba4f3 102 = .ok (.baload, 1)) ?_
  refine va_bast hx hb hK hP hD hS 0 0 rfl rfl (vp_in_nI (by omega) (by omega)) (by decide +kernel : decode cJ6_getChars_ba4f3 103 = .ok (.bastore, 1)) (fun H locs hP hD hS => ?_)
  generalize hg103 : (upd f2 _ _) = f3 at hP hD
  have hP : va_P D vwCl [(r, .inl (cB, 16, .inl f3))] H := hP
  have hD : va_D A [(r, .inl (cB, 16, .inl f3))] := hD
  have hf3 : sb_Fit f3 := by rw [← hg103]; exact sb_fitU hf2 (by rw [vp_nar_byte]; exact pk_fb _)
  refine lv_iload hx hb (by decide +kernel : decode cJ6_getChars_ba4f3 104 = .ok (.iload 6, 2)) (lv_at hl 2 rfl) ?_
  refine lv_if_eq (tgt := 118) hx hb (by decide +kernel : decode cJ6_getChars_ba4f3 106 = .ok (.ifCond .eq 12, 3)) (by decide) (fun _ => ?_) (fun h9 => absurd (rfl) h9)
  refine lv_iload hx hb (by decide +kernel : decode cJ6_getChars_ba4f3 118 = .ok (.iload 5, 2)) (lv_at hl 0 rfl) ?_
  exact sq_iret hx hb hlocks hr (⟨⟨_, rfl⟩, f3, hf3, rfl⟩) hP hD hS (by decide +kernel : decode cJ6_getChars_ba4f3 120 = .ok (.ireturn, 1))
set_option maxRecDepth 100000 in
set_option maxHeartbeats 4000000 in
theorem cj_append5I1 (l : Launch) {D : va_G} {cB : ClassId} {a v n i : Nat} {f : Nat → Int32} (h0 : 1 ≤ i) (h1 : i < 10) (hn : n + 1 ≤ 16) (hf : sb_Fit f) : sq_ok l yJ5_append_c97b9 cJ5_append_c97b9 4 (some (.object "java/lang/AbstractStringBuilder")) ({ frames := 1, cells := 0, slots := 0, locals := 26 }) D [(cB, .byte)] sj_B [.ref a, .int (nI i)] [(a, .inr (12, [.ref v, .int 0, .int 0, .int (nI n)])), (v, .inl (cB, 16, .inl f))] (fun r w => r = some (.ref a) ∧ ∃ f2, sb_Fit f2 ∧ w = [(a, .inr (12, [.ref v, .int 0, .int 0, .int (nI (n + 1))])), (v, .inl (cB, 16, .inl f2))]) 0 0 := by
  refine sq_met (by decide +kernel) (Nat.le_of_ble_eq_true rfl) ?_
  intro p e s m args below meth c A ls hC hlocks hr hin hP hK hD hA hX hl
  obtain ⟨hx, hb, hml, hown, hts⟩ := id hC
  have hS : va_S A s.heap s.heap [] := va_S.rf
  have hl : lv_has ls 4 [(0, .ref a), (1, .int (nI i))] := hl
  refine lv_aload_n hx hb (by decide +kernel : decode cJ5_append_c97b9 0 = .ok (.aload_n 0, 1)) rfl (lv_at hl 0 rfl) ?_
  refine va_get (D := D) (ci := 12) (v := .int (nI n)) (C := RJ4) (T := TJ4) (N := 4) hx hb hts sj_in4 hown hK hP 0 rfl rfl 3 (by decide) (hts _ kw_736) (fun _ h9 => h9) rfl (by decide +kernel : decode cJ5_append_c97b9 1 = .ok (.getfield 79, 3)) ?_
  refine lv_istore_n (lv' := [(2, .int (nI n)), (0, .ref a), (1, .int (nI i))]) hx hb (by decide +kernel : decode cJ5_append_c97b9 4 = .ok (.istore_n 2, 1)) rfl hl (by decide) rfl (fun ls hl => ?_)
  refine lv_iload_n hx hb (by decide +kernel : decode cJ5_append_c97b9 5 = .ok (.iload_n 2, 1)) rfl (lv_at hl 0 rfl) ?_
  refine lv_iload_n hx hb (by decide +kernel : decode cJ5_append_c97b9 6 = .ok (.iload_n 1, 1)) rfl (lv_at hl 2 rfl) ?_
  refine sq_cs (n := 1) (wr := [(a, .inr (12, [.ref v, .int 0, .int 0, .int (nI n)])), (v, .inl (cB, 16, .inl f))]) hC (cj_size1 l (v := i) h0 h1) ⟨rfl, rfl⟩ kw_916 kw_917 kw_918 kw_23 (by decide +kernel) rfl [] [0, 1] rfl rfl rfl rfl (by decide) sj_EB hK hP hD hS hA (sq_down sj_EB hX hS (va_free hD hS hA [] rfl)) hl.1 rfl (Nat.le_of_ble_eq_true rfl) ⟨Nat.le_of_ble_eq_true rfl, Nat.le_of_ble_eq_true rfl⟩ ⟨Nat.le_of_ble_eq_true rfl, Nat.le_of_ble_eq_true rfl⟩ (by decide +kernel : decode cJ5_append_c97b9 7 = .ok (.invokestatic 245, 3)) (fun v9 w9 H locs h9 hP hD hS => ?_)
  obtain ⟨rfl, rfl⟩ := h9
  have hP : va_P D vwCl [(a, .inr (12, [.ref v, .int 0, .int 0, .int (nI n)])), (v, .inl (cB, 16, .inl f))] H := hP
  have hD : va_D A [(a, .inr (12, [.ref v, .int 0, .int 0, .int (nI n)])), (v, .inl (cB, 16, .inl f))] := hD
  refine W.eq (g2 := F0 m 10 ls [.int 1, .int (nI n)]) rfl ?_
  refine lv_iadd hx hb (by decide +kernel : decode cJ5_append_c97b9 10 = .ok (.iadd, 1)) ?_
  refine lv_topi (fun z9 e9 => ?_)
  obtain rfl : z9 = (nI (n + 1)) := by rw [e9]; exact nI_add n 1
  refine lv_istore_n (lv' := [(3, .int (nI (n + 1))), (2, .int (nI n)), (0, .ref a), (1, .int (nI i))]) hx hb (by decide +kernel : decode cJ5_append_c97b9 11 = .ok (.istore_n 3, 1)) rfl hl (by decide) rfl (fun ls hl => ?_)
  refine lv_aload_n hx hb (by decide +kernel : decode cJ5_append_c97b9 12 = .ok (.aload_n 0, 1)) rfl (lv_at hl 2 rfl) ?_
  refine lv_iload_n hx hb (by decide +kernel : decode cJ5_append_c97b9 13 = .ok (.iload_n 3, 1)) rfl (lv_at hl 0 rfl) ?_
  refine sq_cu (n := 1) (wr := []) (C := "java/lang/StringBuilder") (owner := "java/lang/AbstractStringBuilder") hC (cj_ensure l (a := a) (v := v) (n := n) (q := n + 1) (f := f) hn) ⟨rfl, rfl⟩ kw_758 kq_1093 kw_760 (hts _ kzp_1) kw_761 kw_13 rfl (by decide +kernel) rfl (va_recv hK hP (ci := 12) (q0 := 0) rfl rfl) [0, 1] [] rfl rfl rfl rfl (by decide) sj_EB hK hP hD hS hA (sq_down sj_EB hX hS (va_free hD hS hA [0, 1] rfl)) hl.1 rfl (Nat.le_of_ble_eq_true rfl) ⟨Nat.le_of_ble_eq_true rfl, Nat.le_of_ble_eq_true rfl⟩ ⟨Nat.le_of_ble_eq_true rfl, Nat.le_of_ble_eq_true rfl⟩ (by decide +kernel : decode cJ5_append_c97b9 14 = .ok (.invokevirtual 100, 3)) (fun v9 w9 H locs h9 hP hD hS => ?_)
  obtain ⟨rfl, rfl⟩ := h9
  have hP : va_P D vwCl [(a, .inr (12, [.ref v, .int 0, .int 0, .int (nI n)])), (v, .inl (cB, 16, .inl f))] H := hP
  have hD : va_D A [(a, .inr (12, [.ref v, .int 0, .int 0, .int (nI n)])), (v, .inl (cB, 16, .inl f))] := hD
  refine W.eq (g2 := F0 m 17 ls []) rfl ?_
  refine lv_aload_n hx hb (by decide +kernel : decode cJ5_append_c97b9 17 = .ok (.aload_n 0, 1)) rfl (lv_at hl 2 rfl) ?_
  refine sq_cu (n := 0) (wr := []) (C := "java/lang/StringBuilder") (owner := "java/lang/AbstractStringBuilder") hC (cj_isLatinB l (a := a) (v := v) (n := n) (f := f)) ⟨rfl, rfl⟩ kw_787 kq_789 kw_788 (hts _ kw_790) kw_791 kw_13 rfl (by decide +kernel) rfl (va_recv hK hP (ci := 12) (q0 := 0) rfl rfl) [0, 1] [] rfl rfl rfl rfl (by decide) sj_EB hK hP hD hS hA (sq_down sj_EB hX hS (va_free hD hS hA [0, 1] rfl)) hl.1 rfl (Nat.le_of_ble_eq_true rfl) ⟨Nat.le_of_ble_eq_true rfl, Nat.le_of_ble_eq_true rfl⟩ ⟨Nat.le_of_ble_eq_true rfl, Nat.le_of_ble_eq_true rfl⟩ (by decide +kernel : decode cJ5_append_c97b9 18 = .ok (.invokevirtual 83, 3)) (fun v9 w9 H locs h9 hP hD hS => ?_)
  obtain ⟨rfl, rfl⟩ := h9
  have hP : va_P D vwCl [(a, .inr (12, [.ref v, .int 0, .int 0, .int (nI n)])), (v, .inl (cB, 16, .inl f))] H := hP
  have hD : va_D A [(a, .inr (12, [.ref v, .int 0, .int 0, .int (nI n)])), (v, .inl (cB, 16, .inl f))] := hD
  refine W.eq (g2 := F0 m 21 ls [.int 1]) rfl ?_
  refine lv_if_eq (tgt := 37) hx hb (by decide +kernel : decode cJ5_append_c97b9 21 = .ok (.ifCond .eq 16, 3)) (by decide) (fun h9 => absurd h9 (by decide)) (fun _ => ?_)
  refine lv_iload_n hx hb (by decide +kernel : decode cJ5_append_c97b9 24 = .ok (.iload_n 1, 1)) rfl (lv_at hl 3 rfl) ?_
  refine lv_iload_n hx hb (by decide +kernel : decode cJ5_append_c97b9 25 = .ok (.iload_n 3, 1)) rfl (lv_at hl 0 rfl) ?_
  refine lv_aload_n hx hb (by decide +kernel : decode cJ5_append_c97b9 26 = .ok (.aload_n 0, 1)) rfl (lv_at hl 2 rfl) ?_
  refine va_get (D := D) (ci := 12) (v := .ref v) (C := RJ4) (T := TJ4) (N := 4) hx hb hts sj_in4 hown hK hP 0 rfl rfl 0 (by decide) (hts _ kw_733) (fun _ h9 => h9) rfl (by decide +kernel : decode cJ5_append_c97b9 27 = .ok (.getfield 15, 3)) ?_
  refine sq_cs (n := 3) (wr := [(a, .inr (12, [.ref v, .int 0, .int 0, .int (nI n)]))]) hC (cj_chars1 l (v := i) (x := n + 1) (r := v) (f := f) h0 h1 (by omega) hn hf) ⟨rfl, rfl⟩ kw_919 kw_920 kw_921 kw_23 (by decide +kernel) rfl [1] [0] rfl rfl rfl rfl (by decide) sj_EB hK hP hD hS hA (sq_down sj_EB hX hS (va_free hD hS hA [1] rfl)) hl.1 rfl (Nat.le_of_ble_eq_true rfl) ⟨Nat.le_of_ble_eq_true rfl, Nat.le_of_ble_eq_true rfl⟩ ⟨Nat.le_of_ble_eq_true rfl, Nat.le_of_ble_eq_true rfl⟩ (by decide +kernel : decode cJ5_append_c97b9 30 = .ok (.invokestatic 248, 3)) (fun v9 w9 H locs h9 hP hD hS => ?_)
  obtain ⟨⟨x9, rfl⟩, f2, hf2, rfl⟩ := h9
  have hP : va_P D vwCl [(a, .inr (12, [.ref v, .int 0, .int 0, .int (nI n)])), (v, .inl (cB, 16, .inl f2))] H := hP
  have hD : va_D A [(a, .inr (12, [.ref v, .int 0, .int 0, .int (nI n)])), (v, .inl (cB, 16, .inl f2))] := hD
  refine W.eq (g2 := F0 m 33 ls [.int x9]) rfl ?_
  refine lv_pop hx hb (by decide +kernel : decode cJ5_append_c97b9 33 = .ok (.pop, 1)) rfl ?_
  refine lv_goto (tgt := 48) hx hb (by decide +kernel : decode cJ5_append_c97b9 34 = .ok (.goto 14, 3)) (by decide) ?_
  refine lv_aload_n hx hb (by decide +kernel : decode cJ5_append_c97b9 48 = .ok (.aload_n 0, 1)) rfl (lv_at hl 2 rfl) ?_
  refine lv_iload_n hx hb (by decide +kernel : decode cJ5_append_c97b9 49 = .ok (.iload_n 3, 1)) rfl (lv_at hl 0 rfl) ?_
  refine va_put (D := D) (ci := 12) (v := .int (nI (n + 1))) (ty := .int) (C := RJ4) (T := TJ4) (N := 4) hx hb hts sj_in4 tyJ4 tyJ4_ok nmJ4 hown hK hP hD hS 0 rfl rfl 3 (by decide) (hts _ kw_736) (fun _ h9 => h9) rfl (by decide +kernel) rfl rfl (Nat.le_of_ble_eq_true rfl) (by decide +kernel : decode cJ5_append_c97b9 50 = .ok (.putfield 79, 3)) (fun H locs hP hD hS => ?_)
  have hP : va_P D vwCl [(a, .inr (12, [.ref v, .int 0, .int 0, .int (nI (n + 1))])), (v, .inl (cB, 16, .inl f2))] H := hP
  have hD : va_D A [(a, .inr (12, [.ref v, .int 0, .int 0, .int (nI (n + 1))])), (v, .inl (cB, 16, .inl f2))] := hD
  refine lv_aload_n hx hb (by decide +kernel : decode cJ5_append_c97b9 53 = .ok (.aload_n 0, 1)) rfl (lv_at hl 2 rfl) ?_
  exact sq_aret hx hb hlocks hr (by first | exact Or.inl ⟨_, rfl⟩ | exact Or.inr ⟨_, rfl⟩) (⟨rfl, f2, hf2, rfl⟩) hP hD hS (by decide +kernel : decode cJ5_append_c97b9 54 = .ok (.areturn, 1))
set_option maxRecDepth 100000 in
set_option maxHeartbeats 4000000 in
theorem cj_append4I1 (l : Launch) {D : va_G} {cB : ClassId} {a v n i : Nat} {f : Nat → Int32} (h0 : 1 ≤ i) (h1 : i < 10) (hn : n + 1 ≤ 16) (hf : sb_Fit f) : sq_ok l yJ4_append_bf812 cJ4_append_bf812 2 (some (.object "java/lang/StringBuilder")) ({ frames := 2, cells := 0, slots := 0, locals := 49 }) D [(cB, .byte)] sj_B [.ref a, .int (nI i)] [(a, .inr (12, [.ref v, .int 0, .int 0, .int (nI n)])), (v, .inl (cB, 16, .inl f))] (fun r w => r = some (.ref a) ∧ ∃ f2, sb_Fit f2 ∧ w = [(a, .inr (12, [.ref v, .int 0, .int 0, .int (nI (n + 1))])), (v, .inl (cB, 16, .inl f2))]) 0 0 := by
  refine sq_met (by decide +kernel) (Nat.le_of_ble_eq_true rfl) ?_
  intro p e s m args below meth c A ls hC hlocks hr hin hP hK hD hA hX hl
  obtain ⟨hx, hb, hml, hown, hts⟩ := id hC
  have hS : va_S A s.heap s.heap [] := va_S.rf
  have hl : lv_has ls 2 [(0, .ref a), (1, .int (nI i))] := hl
  refine lv_aload_n hx hb (by decide +kernel : decode cJ4_append_bf812 0 = .ok (.aload_n 0, 1)) rfl (lv_at hl 0 rfl) ?_
  refine lv_iload_n hx hb (by decide +kernel : decode cJ4_append_bf812 1 = .ok (.iload_n 1, 1)) rfl (lv_at hl 1 rfl) ?_
  refine sq_csu (n := 1) (wr := []) hC (hK.1 12 _ rfl).2 (cj_append5I1 l (a := a) (v := v) (n := n) (i := i) (f := f) h0 h1 hn hf) ⟨rfl, rfl⟩ kw_913 kq_1099 kq_745 kw_914 kw_915 kw_13 (by decide +kernel) rfl (va_recv hK hP (ci := 12) (q0 := 0) rfl rfl) [0, 1] [] rfl rfl rfl rfl (by decide) sj_EB hK hP hD hS hA (sq_down sj_EB hX hS (va_free hD hS hA [0, 1] rfl)) hl.1 rfl (Nat.le_of_ble_eq_true rfl) ⟨Nat.le_of_ble_eq_true rfl, Nat.le_of_ble_eq_true rfl⟩ ⟨Nat.le_of_ble_eq_true rfl, Nat.le_of_ble_eq_true rfl⟩ (by decide +kernel : decode cJ4_append_bf812 2 = .ok (.invokespecial 53, 3)) (fun v9 w9 H locs h9 hP hD hS => ?_)
  obtain ⟨rfl, f2, hf2, rfl⟩ := h9
  have hP : va_P D vwCl [(a, .inr (12, [.ref v, .int 0, .int 0, .int (nI (n + 1))])), (v, .inl (cB, 16, .inl f2))] H := hP
  have hD : va_D A [(a, .inr (12, [.ref v, .int 0, .int 0, .int (nI (n + 1))])), (v, .inl (cB, 16, .inl f2))] := hD
  refine W.eq (g2 := F0 m 5 ls [.ref a]) rfl ?_
  refine lv_pop hx hb (by decide +kernel : decode cJ4_append_bf812 5 = .ok (.pop, 1)) rfl ?_
  refine lv_aload_n hx hb (by decide +kernel : decode cJ4_append_bf812 6 = .ok (.aload_n 0, 1)) rfl (lv_at hl 0 rfl) ?_
  exact sq_aret hx hb hlocks hr (by first | exact Or.inl ⟨_, rfl⟩ | exact Or.inr ⟨_, rfl⟩) (⟨rfl, f2, hf2, rfl⟩) hP hD hS (by decide +kernel : decode cJ4_append_bf812 7 = .ok (.areturn, 1))
set_option maxRecDepth 100000 in
set_option maxHeartbeats 4000000 in
theorem cj_append5I2 (l : Launch) {D : va_G} {cB : ClassId} {a v n i : Nat} {f : Nat → Int32} (h0 : 10 ≤ i) (h1 : i < 100) (hn : n + 2 ≤ 16) (hf : sb_Fit f) : sq_ok l yJ5_append_c97b9 cJ5_append_c97b9 4 (some (.object "java/lang/AbstractStringBuilder")) ({ frames := 1, cells := 0, slots := 0, locals := 26 }) D [(cB, .byte)] sj_B [.ref a, .int (nI i)] [(a, .inr (12, [.ref v, .int 0, .int 0, .int (nI n)])), (v, .inl (cB, 16, .inl f))] (fun r w => r = some (.ref a) ∧ ∃ f2, sb_Fit f2 ∧ w = [(a, .inr (12, [.ref v, .int 0, .int 0, .int (nI (n + 2))])), (v, .inl (cB, 16, .inl f2))]) 0 0 := by
  refine sq_met (by decide +kernel) (Nat.le_of_ble_eq_true rfl) ?_
  intro p e s m args below meth c A ls hC hlocks hr hin hP hK hD hA hX hl
  obtain ⟨hx, hb, hml, hown, hts⟩ := id hC
  have hS : va_S A s.heap s.heap [] := va_S.rf
  have hl : lv_has ls 4 [(0, .ref a), (1, .int (nI i))] := hl
  refine lv_aload_n hx hb (by decide +kernel : decode cJ5_append_c97b9 0 = .ok (.aload_n 0, 1)) rfl (lv_at hl 0 rfl) ?_
  refine va_get (D := D) (ci := 12) (v := .int (nI n)) (C := RJ4) (T := TJ4) (N := 4) hx hb hts sj_in4 hown hK hP 0 rfl rfl 3 (by decide) (hts _ kw_736) (fun _ h9 => h9) rfl (by decide +kernel : decode cJ5_append_c97b9 1 = .ok (.getfield 79, 3)) ?_
  refine lv_istore_n (lv' := [(2, .int (nI n)), (0, .ref a), (1, .int (nI i))]) hx hb (by decide +kernel : decode cJ5_append_c97b9 4 = .ok (.istore_n 2, 1)) rfl hl (by decide) rfl (fun ls hl => ?_)
  refine lv_iload_n hx hb (by decide +kernel : decode cJ5_append_c97b9 5 = .ok (.iload_n 2, 1)) rfl (lv_at hl 0 rfl) ?_
  refine lv_iload_n hx hb (by decide +kernel : decode cJ5_append_c97b9 6 = .ok (.iload_n 1, 1)) rfl (lv_at hl 2 rfl) ?_
  refine sq_cs (n := 1) (wr := [(a, .inr (12, [.ref v, .int 0, .int 0, .int (nI n)])), (v, .inl (cB, 16, .inl f))]) hC (cj_size2 l (v := i) h0 h1) ⟨rfl, rfl⟩ kw_916 kw_917 kw_918 kw_23 (by decide +kernel) rfl [] [0, 1] rfl rfl rfl rfl (by decide) sj_EB hK hP hD hS hA (sq_down sj_EB hX hS (va_free hD hS hA [] rfl)) hl.1 rfl (Nat.le_of_ble_eq_true rfl) ⟨Nat.le_of_ble_eq_true rfl, Nat.le_of_ble_eq_true rfl⟩ ⟨Nat.le_of_ble_eq_true rfl, Nat.le_of_ble_eq_true rfl⟩ (by decide +kernel : decode cJ5_append_c97b9 7 = .ok (.invokestatic 245, 3)) (fun v9 w9 H locs h9 hP hD hS => ?_)
  obtain ⟨rfl, rfl⟩ := h9
  have hP : va_P D vwCl [(a, .inr (12, [.ref v, .int 0, .int 0, .int (nI n)])), (v, .inl (cB, 16, .inl f))] H := hP
  have hD : va_D A [(a, .inr (12, [.ref v, .int 0, .int 0, .int (nI n)])), (v, .inl (cB, 16, .inl f))] := hD
  refine W.eq (g2 := F0 m 10 ls [.int 2, .int (nI n)]) rfl ?_
  refine lv_iadd hx hb (by decide +kernel : decode cJ5_append_c97b9 10 = .ok (.iadd, 1)) ?_
  refine lv_topi (fun z9 e9 => ?_)
  obtain rfl : z9 = (nI (n + 2)) := by rw [e9]; exact nI_add n 2
  refine lv_istore_n (lv' := [(3, .int (nI (n + 2))), (2, .int (nI n)), (0, .ref a), (1, .int (nI i))]) hx hb (by decide +kernel : decode cJ5_append_c97b9 11 = .ok (.istore_n 3, 1)) rfl hl (by decide) rfl (fun ls hl => ?_)
  refine lv_aload_n hx hb (by decide +kernel : decode cJ5_append_c97b9 12 = .ok (.aload_n 0, 1)) rfl (lv_at hl 2 rfl) ?_
  refine lv_iload_n hx hb (by decide +kernel : decode cJ5_append_c97b9 13 = .ok (.iload_n 3, 1)) rfl (lv_at hl 0 rfl) ?_
  refine sq_cu (n := 1) (wr := []) (C := "java/lang/StringBuilder") (owner := "java/lang/AbstractStringBuilder") hC (cj_ensure l (a := a) (v := v) (n := n) (q := n + 2) (f := f) hn) ⟨rfl, rfl⟩ kw_758 kq_1093 kw_760 (hts _ kzp_1) kw_761 kw_13 rfl (by decide +kernel) rfl (va_recv hK hP (ci := 12) (q0 := 0) rfl rfl) [0, 1] [] rfl rfl rfl rfl (by decide) sj_EB hK hP hD hS hA (sq_down sj_EB hX hS (va_free hD hS hA [0, 1] rfl)) hl.1 rfl (Nat.le_of_ble_eq_true rfl) ⟨Nat.le_of_ble_eq_true rfl, Nat.le_of_ble_eq_true rfl⟩ ⟨Nat.le_of_ble_eq_true rfl, Nat.le_of_ble_eq_true rfl⟩ (by decide +kernel : decode cJ5_append_c97b9 14 = .ok (.invokevirtual 100, 3)) (fun v9 w9 H locs h9 hP hD hS => ?_)
  obtain ⟨rfl, rfl⟩ := h9
  have hP : va_P D vwCl [(a, .inr (12, [.ref v, .int 0, .int 0, .int (nI n)])), (v, .inl (cB, 16, .inl f))] H := hP
  have hD : va_D A [(a, .inr (12, [.ref v, .int 0, .int 0, .int (nI n)])), (v, .inl (cB, 16, .inl f))] := hD
  refine W.eq (g2 := F0 m 17 ls []) rfl ?_
  refine lv_aload_n hx hb (by decide +kernel : decode cJ5_append_c97b9 17 = .ok (.aload_n 0, 1)) rfl (lv_at hl 2 rfl) ?_
  refine sq_cu (n := 0) (wr := []) (C := "java/lang/StringBuilder") (owner := "java/lang/AbstractStringBuilder") hC (cj_isLatinB l (a := a) (v := v) (n := n) (f := f)) ⟨rfl, rfl⟩ kw_787 kq_789 kw_788 (hts _ kw_790) kw_791 kw_13 rfl (by decide +kernel) rfl (va_recv hK hP (ci := 12) (q0 := 0) rfl rfl) [0, 1] [] rfl rfl rfl rfl (by decide) sj_EB hK hP hD hS hA (sq_down sj_EB hX hS (va_free hD hS hA [0, 1] rfl)) hl.1 rfl (Nat.le_of_ble_eq_true rfl) ⟨Nat.le_of_ble_eq_true rfl, Nat.le_of_ble_eq_true rfl⟩ ⟨Nat.le_of_ble_eq_true rfl, Nat.le_of_ble_eq_true rfl⟩ (by decide +kernel : decode cJ5_append_c97b9 18 = .ok (.invokevirtual 83, 3)) (fun v9 w9 H locs h9 hP hD hS => ?_)
  obtain ⟨rfl, rfl⟩ := h9
  have hP : va_P D vwCl [(a, .inr (12, [.ref v, .int 0, .int 0, .int (nI n)])), (v, .inl (cB, 16, .inl f))] H := hP
  have hD : va_D A [(a, .inr (12, [.ref v, .int 0, .int 0, .int (nI n)])), (v, .inl (cB, 16, .inl f))] := hD
  refine W.eq (g2 := F0 m 21 ls [.int 1]) rfl ?_
  refine lv_if_eq (tgt := 37) hx hb (by decide +kernel : decode cJ5_append_c97b9 21 = .ok (.ifCond .eq 16, 3)) (by decide) (fun h9 => absurd h9 (by decide)) (fun _ => ?_)
  refine lv_iload_n hx hb (by decide +kernel : decode cJ5_append_c97b9 24 = .ok (.iload_n 1, 1)) rfl (lv_at hl 3 rfl) ?_
  refine lv_iload_n hx hb (by decide +kernel : decode cJ5_append_c97b9 25 = .ok (.iload_n 3, 1)) rfl (lv_at hl 0 rfl) ?_
  refine lv_aload_n hx hb (by decide +kernel : decode cJ5_append_c97b9 26 = .ok (.aload_n 0, 1)) rfl (lv_at hl 2 rfl) ?_
  refine va_get (D := D) (ci := 12) (v := .ref v) (C := RJ4) (T := TJ4) (N := 4) hx hb hts sj_in4 hown hK hP 0 rfl rfl 0 (by decide) (hts _ kw_733) (fun _ h9 => h9) rfl (by decide +kernel : decode cJ5_append_c97b9 27 = .ok (.getfield 15, 3)) ?_
  refine sq_cs (n := 3) (wr := [(a, .inr (12, [.ref v, .int 0, .int 0, .int (nI n)]))]) hC (cj_chars2 l (v := i) (x := n + 2) (r := v) (f := f) h0 h1 (by omega) hn hf) ⟨rfl, rfl⟩ kw_919 kw_920 kw_921 kw_23 (by decide +kernel) rfl [1] [0] rfl rfl rfl rfl (by decide) sj_EB hK hP hD hS hA (sq_down sj_EB hX hS (va_free hD hS hA [1] rfl)) hl.1 rfl (Nat.le_of_ble_eq_true rfl) ⟨Nat.le_of_ble_eq_true rfl, Nat.le_of_ble_eq_true rfl⟩ ⟨Nat.le_of_ble_eq_true rfl, Nat.le_of_ble_eq_true rfl⟩ (by decide +kernel : decode cJ5_append_c97b9 30 = .ok (.invokestatic 248, 3)) (fun v9 w9 H locs h9 hP hD hS => ?_)
  obtain ⟨⟨x9, rfl⟩, f2, hf2, rfl⟩ := h9
  have hP : va_P D vwCl [(a, .inr (12, [.ref v, .int 0, .int 0, .int (nI n)])), (v, .inl (cB, 16, .inl f2))] H := hP
  have hD : va_D A [(a, .inr (12, [.ref v, .int 0, .int 0, .int (nI n)])), (v, .inl (cB, 16, .inl f2))] := hD
  refine W.eq (g2 := F0 m 33 ls [.int x9]) rfl ?_
  refine lv_pop hx hb (by decide +kernel : decode cJ5_append_c97b9 33 = .ok (.pop, 1)) rfl ?_
  refine lv_goto (tgt := 48) hx hb (by decide +kernel : decode cJ5_append_c97b9 34 = .ok (.goto 14, 3)) (by decide) ?_
  refine lv_aload_n hx hb (by decide +kernel : decode cJ5_append_c97b9 48 = .ok (.aload_n 0, 1)) rfl (lv_at hl 2 rfl) ?_
  refine lv_iload_n hx hb (by decide +kernel : decode cJ5_append_c97b9 49 = .ok (.iload_n 3, 1)) rfl (lv_at hl 0 rfl) ?_
  refine va_put (D := D) (ci := 12) (v := .int (nI (n + 2))) (ty := .int) (C := RJ4) (T := TJ4) (N := 4) hx hb hts sj_in4 tyJ4 tyJ4_ok nmJ4 hown hK hP hD hS 0 rfl rfl 3 (by decide) (hts _ kw_736) (fun _ h9 => h9) rfl (by decide +kernel) rfl rfl (Nat.le_of_ble_eq_true rfl) (by decide +kernel : decode cJ5_append_c97b9 50 = .ok (.putfield 79, 3)) (fun H locs hP hD hS => ?_)
  have hP : va_P D vwCl [(a, .inr (12, [.ref v, .int 0, .int 0, .int (nI (n + 2))])), (v, .inl (cB, 16, .inl f2))] H := hP
  have hD : va_D A [(a, .inr (12, [.ref v, .int 0, .int 0, .int (nI (n + 2))])), (v, .inl (cB, 16, .inl f2))] := hD
  refine lv_aload_n hx hb (by decide +kernel : decode cJ5_append_c97b9 53 = .ok (.aload_n 0, 1)) rfl (lv_at hl 2 rfl) ?_
  exact sq_aret hx hb hlocks hr (by first | exact Or.inl ⟨_, rfl⟩ | exact Or.inr ⟨_, rfl⟩) (⟨rfl, f2, hf2, rfl⟩) hP hD hS (by decide +kernel : decode cJ5_append_c97b9 54 = .ok (.areturn, 1))
set_option maxRecDepth 100000 in
set_option maxHeartbeats 4000000 in
theorem cj_append4I2 (l : Launch) {D : va_G} {cB : ClassId} {a v n i : Nat} {f : Nat → Int32} (h0 : 10 ≤ i) (h1 : i < 100) (hn : n + 2 ≤ 16) (hf : sb_Fit f) : sq_ok l yJ4_append_bf812 cJ4_append_bf812 2 (some (.object "java/lang/StringBuilder")) ({ frames := 2, cells := 0, slots := 0, locals := 49 }) D [(cB, .byte)] sj_B [.ref a, .int (nI i)] [(a, .inr (12, [.ref v, .int 0, .int 0, .int (nI n)])), (v, .inl (cB, 16, .inl f))] (fun r w => r = some (.ref a) ∧ ∃ f2, sb_Fit f2 ∧ w = [(a, .inr (12, [.ref v, .int 0, .int 0, .int (nI (n + 2))])), (v, .inl (cB, 16, .inl f2))]) 0 0 := by
  refine sq_met (by decide +kernel) (Nat.le_of_ble_eq_true rfl) ?_
  intro p e s m args below meth c A ls hC hlocks hr hin hP hK hD hA hX hl
  obtain ⟨hx, hb, hml, hown, hts⟩ := id hC
  have hS : va_S A s.heap s.heap [] := va_S.rf
  have hl : lv_has ls 2 [(0, .ref a), (1, .int (nI i))] := hl
  refine lv_aload_n hx hb (by decide +kernel : decode cJ4_append_bf812 0 = .ok (.aload_n 0, 1)) rfl (lv_at hl 0 rfl) ?_
  refine lv_iload_n hx hb (by decide +kernel : decode cJ4_append_bf812 1 = .ok (.iload_n 1, 1)) rfl (lv_at hl 1 rfl) ?_
  refine sq_csu (n := 1) (wr := []) hC (hK.1 12 _ rfl).2 (cj_append5I2 l (a := a) (v := v) (n := n) (i := i) (f := f) h0 h1 hn hf) ⟨rfl, rfl⟩ kw_913 kq_1099 kq_745 kw_914 kw_915 kw_13 (by decide +kernel) rfl (va_recv hK hP (ci := 12) (q0 := 0) rfl rfl) [0, 1] [] rfl rfl rfl rfl (by decide) sj_EB hK hP hD hS hA (sq_down sj_EB hX hS (va_free hD hS hA [0, 1] rfl)) hl.1 rfl (Nat.le_of_ble_eq_true rfl) ⟨Nat.le_of_ble_eq_true rfl, Nat.le_of_ble_eq_true rfl⟩ ⟨Nat.le_of_ble_eq_true rfl, Nat.le_of_ble_eq_true rfl⟩ (by decide +kernel : decode cJ4_append_bf812 2 = .ok (.invokespecial 53, 3)) (fun v9 w9 H locs h9 hP hD hS => ?_)
  obtain ⟨rfl, f2, hf2, rfl⟩ := h9
  have hP : va_P D vwCl [(a, .inr (12, [.ref v, .int 0, .int 0, .int (nI (n + 2))])), (v, .inl (cB, 16, .inl f2))] H := hP
  have hD : va_D A [(a, .inr (12, [.ref v, .int 0, .int 0, .int (nI (n + 2))])), (v, .inl (cB, 16, .inl f2))] := hD
  refine W.eq (g2 := F0 m 5 ls [.ref a]) rfl ?_
  refine lv_pop hx hb (by decide +kernel : decode cJ4_append_bf812 5 = .ok (.pop, 1)) rfl ?_
  refine lv_aload_n hx hb (by decide +kernel : decode cJ4_append_bf812 6 = .ok (.aload_n 0, 1)) rfl (lv_at hl 0 rfl) ?_
  exact sq_aret hx hb hlocks hr (by first | exact Or.inl ⟨_, rfl⟩ | exact Or.inr ⟨_, rfl⟩) (⟨rfl, f2, hf2, rfl⟩) hP hD hS (by decide +kernel : decode cJ4_append_bf812 7 = .ok (.areturn, 1))

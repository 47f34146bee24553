/-! StringBuilder made, toString, String.charAt -/
theorem sj_no {v : Nat} {H : Heap} (h : v < H.size) : ¬ va_A [] H.size v := by
  rintro (⟨k, e, h1⟩ | h1)
  · cases h1
  · omega
theorem sj_min {n : Nat} (h : n ≤ 16) : (if nI n < nI 16 then nI n else nI 16) = nI n := by
  by_cases e : nI n < nI 16
  · rw [if_pos e]
  · rw [if_neg e]
    rw [nI_ltI (by omega) (by omega)] at e
    exact congrArg nI (by omega)
theorem sj_ch (b : Int32) : ¬ 255 < ((b &&& 255).toUInt32 % 65536).toInt32 := by
  rw [sc_c2]
  obtain ⟨j, hj, e⟩ := pk_andE b (m := 255) 8 (by decide)
  rw [e]
  exact nI_nlt (a := 255) (b := j) (by omega) (by omega)
theorem sq_CO {R : Room} {s : State} {args : Array Value} {own C owner : String} {index : Nat} {x y : MethodName} {b : ByteArray} {nl : Nat} {ret : Option FieldType} {rm : Room} {mc ms n : Nat} (hrm : rm.cells = mc ∧ rm.slots = ms) (hlk : Cond.methodLink own index x ∈ kx_tbl) (hsm : Cond.sameMethod x.cls owner x.name x.desc ∈ kx_tbl) (hin0 : Cond.instanceMethod ⟨owner, x.name, x.desc⟩ ∈ kx_tbl) {b0 : ByteArray} {m0 : Nat} {r0 : Option FieldType} (hc0 : Cond.code ⟨owner, x.name, x.desc⟩ b0 m0 r0 ∈ kx_tbl) (hins : Cond.instanceMethod y ∈ kx_tbl) (hsel : (Cond.selects C x y).before args s = true) (hcode : Cond.code y b nl ret ∈ kx_tbl) (hini : Cond.initialized y.cls ∈ kx_tbl) (hd : owner ≠ "java/lang/invoke/MethodHandle" ∧ owner ≠ "java/lang/invoke/VarHandle" ∧ (parseMethodDescriptor x.desc).map (fun d => d.parameters.length) = some n) (hR : rm.frames + 1 ≤ R.frames ∧ 8 + (nl + 11) + rm.locals ≤ R.locals) (hts : ∀ w ∈ kx_tbl, w.before args s = true) : va_CU R s args own C owner index x y b nl ret (kx_wd y b nl ret) rm mc ms n := by
  have hG : GoodIn kx_tbl (kx_wd y b nl ret) := kx_goodIn (by intro w hw; simp only [List.mem_cons] at hw; rcases hw with rfl | hw <;> assumption)
  refine ⟨⟨hrm.1, hrm.2, hR.1, hR.2, pay_in hts hG, List.mem_cons_self⟩, hts _ hcode, hts _ hini, ⟨hd.1, hd.2.1⟩, fun sig h => ?_, hts _ hlk, hts _ hsm, va_Decl.of (hts _ hin0) (hts _ hc0), hsel, hts _ hins⟩
  have h2 := hd.2.2
  rw [h] at h2
  exact (Option.some.inj h2).symm
section SQO
variable {p : Program} {l : Launch} {e : Env} {R : Room} {s : State} {m : MethodId} {args : Array Value} {below : List Frame} {meth : Method} {c : Code} {H : Heap} {locs : List Loc} {cells slots : Nat} {Q : State → Prop} {cc : ByteArray} {pc : Nat} {ls : Array Slot} {rest st0 : List Value} {D : va_G} {A : Nat → Prop} {ws : va_W} {H0 : Heap} {mc ms nL : Nat} {own : String} {tys : List (ClassId × FieldType)} {X : (Nat → Prop) → State → Heap → Prop} {Post : Option Value → va_W → Prop} {a : Array Value}
/-- an overriding method -/
theorem sq_co (S : CallFix p m c cc nL s args kx_tbl own) {x y : MethodName} {b : ByteArray} {nl n index : Nat} {ret : Option FieldType} {rm : Room} {wc wr : va_W} {q : Nat} {C owner : String} {av rest : List Value} (hM : sq_ok l y b nl ret rm D tys X (.ref q :: av) wc Post mc ms) (hrm : rm.cells = mc ∧ rm.slots = ms) (hlk : Cond.methodLink own index x ∈ kx_tbl) (hsm : Cond.sameMethod x.cls owner x.name x.desc ∈ kx_tbl) (hin0 : Cond.instanceMethod ⟨owner, x.name, x.desc⟩ ∈ kx_tbl) {b0 : ByteArray} {m0 : Nat} {r0 : Option FieldType} (hc0 : Cond.code ⟨owner, x.name, x.desc⟩ b0 m0 r0 ∈ kx_tbl) (hins : Cond.instanceMethod y ∈ kx_tbl) (hsel : (Cond.selects C x y).before args s = true) (hcode : Cond.code y b nl ret ∈ kx_tbl) (hini : Cond.initialized y.cls ∈ kx_tbl) (hd : owner ≠ "java/lang/invoke/MethodHandle" ∧ owner ≠ "java/lang/invoke/VarHandle" ∧ (parseMethodDescriptor x.desc).map (fun d => d.parameters.length) = some n) (hlen : av.length = n)
    (hrv : ∃ cell : Cell, H[q]? = some cell ∧ cell.vm.isStatics = false ∧ s.vm.findClass C = some cell.cls)
    (isC isR : List Nat) (hC : isC.map (fun i => ws[i]?) = wc.map some) (hnC : va_nd isC = true) (hR : isR.map (fun i => ws[i]?) = wr.map some) (hn : va_nd isR = true) (hdis : ∀ i ∈ isR, i ∉ isC)
    (hE : sq_Ext X) (hK : va_K D vwCl tys s) (hP : va_P D vwCl ws H) (hD : va_D A ws) (hS : va_S A s.heap H locs) (hA : ∀ q, s.heap.size ≤ q → A q) (hX : X (va_A wc H.size) s H) (hls : ls.size = nL) (hst : st0 = av.reverse ++ .ref q :: rest) (hcat : (rest.map fun v => v.category).sum ≤ 8) (hRm : rm.frames + 1 ≤ R.frames ∧ 8 + (nl + 11) + rm.locals ≤ R.locals) (hf : cells + mc ≤ R.cells ∧ slots + ms ≤ R.slots) (d : decode cc pc = .ok (.invokevirtual index, 3))
    (kk : ∀ (v : Option Value) (w1 : va_W) (H1 : Heap) (locs1 : List Loc), Post v w1 → va_P D vwCl (wr ++ w1) H1 → va_D A (wr ++ w1) → va_S A s.heap H1 locs1 → W p l e R s m args below meth c H1 locs1 (cells + mc) (slots + ms) Q (F0 m (pc + 3) ls (v.toList ++ rest))) : W p l e R s m args below meth c H locs cells slots Q (F0 m pc ls st0) := by
  have hpre := sq_pre (av := .ref q :: av) hE hK (hP.sub isC (sq_fm hC)) (hD.sub isC hnC hC) hX
  exact sq_call isC isR hC hR hn hdis hP hD hS hA (va_runU (b := q) (C := C) (owner := owner) (As := av) (rest := rest) S (hM H.size) (sq_CO hrm hlk hsm hin0 hc0 hins hsel hcode hini hd hRm S.2.2.2.2) ⟨hpre.1, hrv, hpre.2⟩ rfl hlen hls hst (lv_room hcat) d hf) kk
end SQO
theorem kq_954 : (Jvm.Cond.sameMethod "java/lang/AbstractStringBuilder" "java/lang/AbstractStringBuilder" "length" "()I") ∈ kx_tbl := kx_m 967 (by decide +kernel) (by decide +kernel)
theorem kq_949 : (Jvm.Cond.sameMethod "java/lang/AbstractStringBuilder" "java/lang/AbstractStringBuilder" "getValue" "()[B") ∈ kx_tbl := kx_m 962 (by decide +kernel) (by decide +kernel)
set_option maxRecDepth 100000 in
set_option maxHeartbeats 4000000 in
theorem cj_init5 (l : Launch) {D : va_G} {cB : ClassId} {a : Nat} : sq_ok l yJ5_init_d00df cJ5_init_d00df 2 none ({ frames := 1, cells := 1, slots := 16, locals := 20 }) D [(cB, .byte)] sj_B [.ref a, .int 16] [(a, .inr (12, [.null, .int 0, .int 0, .int 0]))] (fun r w => r = none ∧ ∃ v, w = [(a, .inr (12, [.ref v, .int 0, .int 0, .int (nI 0)])), (v, .inl (cB, 16, .inl (fun _ => 0)))]) 1 16 := by
  refine sq_met (by decide +kernel) (Nat.le_of_ble_eq_true rfl) ?_
  intro p e s m args below meth c A ls hC hlocks hr hin hP hK hD hA hX hl
  obtain ⟨hx, hb, hml, hown, hts⟩ := id hC
  have hS : va_S A s.heap s.heap [] := va_S.rf
  have hl : lv_has ls 2 [(0, .ref a), (1, .int 16)] := hl
  obtain ⟨hZ, -⟩ := id hX
  refine lv_aload_n hx hb (by decide +kernel : decode cJ5_init_d00df 0 = .ok (.aload_n 0, 1)) rfl (lv_at hl 0 rfl) ?_
  refine W.objInit hx hb hown (hts _ kw_723) (hts _ kw_376) (hts _ kw_377) rfl (by rw [hml]; exact hl.1) rfl (by decide +kernel : decode cJ5_init_d00df 1 = .ok (.invokespecial 3, 3)) (Nat.le_of_ble_eq_true rfl) (Nat.le_of_ble_eq_true rfl) ?_
  refine W.eq (g2 := F0 m 4 ls []) rfl ?_
  refine va_gets hx hb hZ hS hown (hts _ kw_724) (fun _ h9 => h9) (by decide +kernel : decode cJ5_init_d00df 4 = .ok (.getstatic 18, 3)) ?_
  refine lv_if_eq (tgt := 25) hx hb (by decide +kernel : decode cJ5_init_d00df 7 = .ok (.ifCond .eq 18, 3)) (by decide) (fun h9 => absurd h9 (by decide)) (fun _ => ?_)
  refine lv_aload_n hx hb (by decide +kernel : decode cJ5_init_d00df 10 = .ok (.aload_n 0, 1)) rfl (lv_at hl 0 rfl) ?_
  refine lv_iload_n hx hb (by decide +kernel : decode cJ5_init_d00df 11 = .ok (.iload_n 1, 1)) rfl (lv_at hl 1 rfl) ?_
  refine va_newa hx hb (atype := .byte) (hts _ kw_746) rfl hK hP hD hS hA (N' := 16) (a0 := (16, .inl (fun _ => 0))) (fun cA => rfl) (by decide) rfl (by decide) (Nat.le_of_ble_eq_true rfl) (Nat.le_of_ble_eq_true rfl) (by decide +kernel : decode cJ5_init_d00df 12 = .ok (.newarray .byte, 2)) (fun v cA9 H hK9 hP hD hS => ?_)
  have hcA9 : cA9 = cB := Option.some.inj ((va_nm_byte (hK9.2 1 (cA9, .byte) rfl).2).symm.trans (va_nm_byte (hK.2 0 _ rfl).2))
  rw [hcA9] at hP hD
  have hP : va_P D vwCl [(a, .inr (12, [.null, .int 0, .int 0, .int 0])), (v, .inl (cB, 16, .inl (fun _ => 0)))] H := hP
  have hD : va_D A [(a, .inr (12, [.null, .int 0, .int 0, .int 0])), (v, .inl (cB, 16, .inl (fun _ => 0)))] := hD
  refine va_put (D := D) (ci := 12) (v := .ref v) (ty := .array .byte) (C := RJ4) (T := TJ4) (N := 4) hx hb hts sj_in4 tyJ4 tyJ4_ok nmJ4 hown hK hP hD hS 0 rfl rfl 0 (by decide) (hts _ kw_733) (fun _ h9 => h9) rfl (by decide +kernel) rfl rfl (Nat.le_of_ble_eq_true rfl) (by decide +kernel : decode cJ5_init_d00df 14 = .ok (.putfield 15, 3)) (fun H locs hP hD hS => ?_)
  have hP : va_P D vwCl [(a, .inr (12, [.ref v, .int 0, .int 0, .int 0])), (v, .inl (cB, 16, .inl (fun _ => 0)))] H := hP
  have hD : va_D A [(a, .inr (12, [.ref v, .int 0, .int 0, .int 0])), (v, .inl (cB, 16, .inl (fun _ => 0)))] := hD
  refine lv_aload_n hx hb (by decide +kernel : decode cJ5_init_d00df 17 = .ok (.aload_n 0, 1)) rfl (lv_at hl 0 rfl) ?_
  refine lv_iconst (v := 0) hx hb (by decide +kernel : decode cJ5_init_d00df 18 = .ok (.iconst 0, 1)) (by decide) ?_
  refine va_put (D := D) (ci := 12) (v := .int (0)) (ty := .byte) (C := RJ4) (T := TJ4) (N := 4) hx hb hts sj_in4 tyJ4 tyJ4_ok nmJ4 hown hK hP hD hS 0 rfl rfl 1 (by decide) (hts _ kw_734) (fun _ h9 => h9) rfl (by decide +kernel) rfl rfl (Nat.le_of_ble_eq_true rfl) (by decide +kernel : decode cJ5_init_d00df 19 = .ok (.putfield 22, 3)) (fun H locs hP hD hS => ?_)
  have hP : va_P D vwCl [(a, .inr (12, [.ref v, .int (0), .int 0, .int 0])), (v, .inl (cB, 16, .inl (fun _ => 0)))] H := hP
  have hD : va_D A [(a, .inr (12, [.ref v, .int (0), .int 0, .int 0])), (v, .inl (cB, 16, .inl (fun _ => 0)))] := hD
  refine lv_goto (tgt := 38) hx hb (by decide +kernel : decode cJ5_init_d00df 22 = .ok (.goto 16, 3)) (by decide) ?_
  exact sq_vret hx hb hlocks hr (⟨rfl, v, rfl⟩) hP hD hS (by decide +kernel : decode cJ5_init_d00df 38 = .ok (.return_, 1))
set_option maxRecDepth 100000 in
set_option maxHeartbeats 4000000 in
theorem cj_init4 (l : Launch) {D : va_G} {cB : ClassId} {a : Nat} : sq_ok l yJ4_init_da8c8 cJ4_init_da8c8 1 none ({ frames := 2, cells := 1, slots := 16, locals := 41 }) D [(cB, .byte)] sj_B [.ref a] [(a, .inr (12, [.null, .int 0, .int 0, .int 0]))] (fun r w => r = none ∧ ∃ v, w = [(a, .inr (12, [.ref v, .int 0, .int 0, .int (nI 0)])), (v, .inl (cB, 16, .inl (fun _ => 0)))]) 1 16 := by
  refine sq_met (by decide +kernel) (Nat.le_of_ble_eq_true rfl) ?_
  intro p e s m args below meth c A ls hC hlocks hr hin hP hK hD hA hX hl
  obtain ⟨hx, hb, hml, hown, hts⟩ := id hC
  have hS : va_S A s.heap s.heap [] := va_S.rf
  have hl : lv_has ls 1 [(0, .ref a)] := hl
  refine lv_aload_n hx hb (by decide +kernel : decode cJ4_init_da8c8 0 = .ok (.aload_n 0, 1)) rfl (lv_at hl 0 rfl) ?_
  refine lv_bipush (v := 16) hx hb (by decide +kernel : decode cJ4_init_da8c8 1 = .ok (.bipush 16, 2)) (by decide) ?_
  refine sq_ci (n := 1) (wr := []) hC (cj_init5 l (a := a)) ⟨rfl, rfl⟩ rfl kw_720 kw_721 kw_722 kw_13 (by decide +kernel) rfl [0] [] rfl rfl rfl rfl (by decide) sj_EB hK hP hD hS hA (sq_down sj_EB hX hS (va_free hD hS hA [0] rfl)) hl.1 rfl (Nat.le_of_ble_eq_true rfl) ⟨Nat.le_of_ble_eq_true rfl, Nat.le_of_ble_eq_true rfl⟩ ⟨Nat.le_of_ble_eq_true rfl, Nat.le_of_ble_eq_true rfl⟩ (by decide +kernel : decode cJ4_init_da8c8 3 = .ok (.invokespecial 1, 3)) (fun v9 w9 H locs h9 hP hD hS => ?_)
  obtain ⟨rfl, v, rfl⟩ := h9
  have hP : va_P D vwCl [(a, .inr (12, [.ref v, .int 0, .int 0, .int (nI 0)])), (v, .inl (cB, 16, .inl (fun _ => 0)))] H := hP
  have hD : va_D A [(a, .inr (12, [.ref v, .int 0, .int 0, .int (nI 0)])), (v, .inl (cB, 16, .inl (fun _ => 0)))] := hD
  refine W.eq (g2 := F0 m 6 ls []) rfl ?_
  exact sq_vret hx hb hlocks hr (⟨rfl, v, rfl⟩) hP hD hS (by decide +kernel : decode cJ4_init_da8c8 6 = .ok (.return_, 1))
set_option maxRecDepth 100000 in
set_option maxHeartbeats 4000000 in
theorem cj_getValue (l : Launch) {D : va_G} {cB : ClassId} {a v n : Nat} {f : Nat → Int32} : sq_ok l yJ5_getValue_6d5f1 cJ5_getValue_6d5f1 1 (some (.array .byte)) ({ frames := 0, cells := 0, slots := 0, locals := 0 }) D [(cB, .byte)] sj_B [.ref a] [(a, .inr (12, [.ref v, .int 0, .int 0, .int (nI n)])), (v, .inl (cB, 16, .inl f))] (fun r w => r = some (.ref v) ∧ w = [(a, .inr (12, [.ref v, .int 0, .int 0, .int (nI n)])), (v, .inl (cB, 16, .inl f))]) 0 0 := by
  refine sq_met (by decide +kernel) (Nat.le_of_ble_eq_true rfl) ?_
  intro p e s m args below meth c A ls hC hlocks hr hin hP hK hD hA hX hl
  obtain ⟨hx, hb, hml, hown, hts⟩ := id hC
  have hS : va_S A s.heap s.heap [] := va_S.rf
  have hl : lv_has ls 1 [(0, .ref a)] := hl
  refine lv_aload_n hx hb (by decide +kernel : decode cJ5_getValue_6d5f1 0 = .ok (.aload_n 0, 1)) rfl (lv_at hl 0 rfl) ?_
  refine va_get (D := D) (ci := 12) (v := .ref v) (C := RJ4) (T := TJ4) (N := 4) hx hb hts sj_in4 hown hK hP 0 rfl rfl 0 (by decide) (hts _ kw_733) (fun _ h9 => h9) rfl (by decide +kernel : decode cJ5_getValue_6d5f1 1 = .ok (.getfield 15, 3)) ?_
  exact sq_aret hx hb hlocks hr (by first | exact Or.inl ⟨_, rfl⟩ | exact Or.inr ⟨_, rfl⟩) (⟨rfl, rfl⟩) hP hD hS (by decide +kernel : decode cJ5_getValue_6d5f1 4 = .ok (.areturn, 1))
set_option maxRecDepth 100000 in
set_option maxHeartbeats 4000000 in
theorem cj_length5 (l : Launch) {D : va_G} {cB : ClassId} {a v n : Nat} {f : Nat → Int32} : sq_ok l yJ5_length_8abf5 cJ5_length_8abf5 1 (some .int) ({ frames := 0, cells := 0, slots := 0, locals := 0 }) D [(cB, .byte)] sj_B [.ref a] [(a, .inr (12, [.ref v, .int 0, .int 0, .int (nI n)])), (v, .inl (cB, 16, .inl f))] (fun r w => r = some (.int (nI n)) ∧ w = [(a, .inr (12, [.ref v, .int 0, .int 0, .int (nI n)])), (v, .inl (cB, 16, .inl f))]) 0 0 := by
  refine sq_met (by decide +kernel) (Nat.le_of_ble_eq_true rfl) ?_
  intro p e s m args below meth c A ls hC hlocks hr hin hP hK hD hA hX hl
  obtain ⟨hx, hb, hml, hown, hts⟩ := id hC
  have hS : va_S A s.heap s.heap [] := va_S.rf
  have hl : lv_has ls 1 [(0, .ref a)] := hl
  refine lv_aload_n hx hb (by decide +kernel : decode cJ5_length_8abf5 0 = .ok (.aload_n 0, 1)) rfl (lv_at hl 0 rfl) ?_
  refine va_get (D := D) (ci := 12) (v := .int (nI n)) (C := RJ4) (T := TJ4) (N := 4) hx hb hts sj_in4 hown hK hP 0 rfl rfl 3 (by decide) (hts _ kw_736) (fun _ h9 => h9) rfl (by decide +kernel : decode cJ5_length_8abf5 1 = .ok (.getfield 79, 3)) ?_
  exact sq_iret hx hb hlocks hr (⟨rfl, rfl⟩) hP hD hS (by decide +kernel : decode cJ5_length_8abf5 4 = .ok (.ireturn, 1))
set_option maxRecDepth 100000 in
set_option maxHeartbeats 4000000 in
theorem cj_length4 (l : Launch) {D : va_G} {cB : ClassId} {a v n : Nat} {f : Nat → Int32} : sq_ok l yJ4_length_8abf5 cJ4_length_8abf5 1 (some .int) ({ frames := 1, cells := 0, slots := 0, locals := 20 }) D [(cB, .byte)] sj_B [.ref a] [(a, .inr (12, [.ref v, .int 0, .int 0, .int (nI n)])), (v, .inl (cB, 16, .inl f))] (fun r w => r = some (.int (nI n)) ∧ w = [(a, .inr (12, [.ref v, .int 0, .int 0, .int (nI n)])), (v, .inl (cB, 16, .inl f))]) 0 0 := by
  refine sq_met (by decide +kernel) (Nat.le_of_ble_eq_true rfl) ?_
  intro p e s m args below meth c A ls hC hlocks hr hin hP hK hD hA hX hl
  obtain ⟨hx, hb, hml, hown, hts⟩ := id hC
  have hS : va_S A s.heap s.heap [] := va_S.rf
  have hl : lv_has ls 1 [(0, .ref a)] := hl
  refine lv_aload_n hx hb (by decide +kernel : decode cJ4_length_8abf5 0 = .ok (.aload_n 0, 1)) rfl (lv_at hl 0 rfl) ?_
  refine sq_csu (n := 0) (wr := []) hC (hK.1 12 _ rfl).2 (cj_length5 l (a := a) (v := v) (n := n) (f := f)) ⟨rfl, rfl⟩ kw_958 kq_954 kq_745 kw_953 kw_959 kw_13 (by decide +kernel) rfl (va_recv hK hP (ci := 12) (q0 := 0) rfl rfl) [0, 1] [] rfl rfl rfl rfl (by decide) sj_EB hK hP hD hS hA (sq_down sj_EB hX hS (va_free hD hS hA [0, 1] rfl)) hl.1 rfl (Nat.le_of_ble_eq_true rfl) ⟨Nat.le_of_ble_eq_true rfl, Nat.le_of_ble_eq_true rfl⟩ ⟨Nat.le_of_ble_eq_true rfl, Nat.le_of_ble_eq_true rfl⟩ (by decide +kernel : decode cJ4_length_8abf5 1 = .ok (.invokespecial 343, 3)) (fun v9 w9 H locs h9 hP hD hS => ?_)
  obtain ⟨rfl, rfl⟩ := h9
  have hP : va_P D vwCl [(a, .inr (12, [.ref v, .int 0, .int 0, .int (nI n)])), (v, .inl (cB, 16, .inl f))] H := hP
  have hD : va_D A [(a, .inr (12, [.ref v, .int 0, .int 0, .int (nI n)])), (v, .inl (cB, 16, .inl f))] := hD
  refine W.eq (g2 := F0 m 4 ls [.int (nI n)]) rfl ?_
  exact sq_iret hx hb hlocks hr (⟨rfl, rfl⟩) hP hD hS (by decide +kernel : decode cJ4_length_8abf5 4 = .ok (.ireturn, 1))
set_option maxRecDepth 100000 in
set_option maxHeartbeats 4000000 in
theorem cj_checkLength (l : Launch) {D : va_G} {cB : ClassId} {n : Nat} (hn : n ≤ 16) : sq_ok l yJ7_checkLength_df160 cJ7_checkLength_df160 2 none ({ frames := 0, cells := 0, slots := 0, locals := 0 }) D [(cB, .byte)] sj_B [.int 0, .int (nI n)] [] (fun r w => r = none ∧ w = []) 0 0 := by
  refine sq_met (by decide +kernel) (Nat.le_of_ble_eq_true rfl) ?_
  intro p e s m args below meth c A ls hC hlocks hr hin hP hK hD hA hX hl
  obtain ⟨hx, hb, hml, hown, hts⟩ := id hC
  have hS : va_S A s.heap s.heap [] := va_S.rf
  have hl : lv_has ls 2 [(0, .int 0), (1, .int (nI n))] := hl
  refine lv_iload_n hx hb (by decide +kernel : decode cJ7_checkLength_df160 0 = .ok (.iload_n 1, 1)) rfl (lv_at hl 1 rfl) ?_
  refine lv_iload_n hx hb (by decide +kernel : decode cJ7_checkLength_df160 1 = .ok (.iload_n 0, 1)) rfl (lv_at hl 0 rfl) ?_
  refine lv_icmp_ge (tgt := 37) hx hb (by decide +kernel : decode cJ7_checkLength_df160 2 = .ok (.if_icmp .ge 35, 3)) (by decide) (fun _ => ?_) (fun h9 => absurd (nI_pos' (by omega)) h9)
  exact sq_vret hx hb hlocks hr (⟨rfl, rfl⟩) hP hD hS (by decide +kernel : decode cJ7_checkLength_df160 37 = .ok (.return_, 1))
set_option maxRecDepth 100000 in
set_option maxHeartbeats 4000000 in
theorem cj_copyRB (l : Launch) {D : va_G} {cB : ClassId} {v n : Nat} {f : Nat → Int32} (hn : n ≤ 16) (hf : sb_Fit f) : sq_ok l yJ7_copyOfRangeByte_39247 cJ7_copyOfRangeByte_39247 5 (some (.array .byte)) ({ frames := 1, cells := 1, slots := 16, locals := 40 }) D [(cB, .byte)] (sj_A v 16 f) [.ref v, .int 0, .int (nI n)] [] (fun r w => ∃ q f2, r = some (.ref q) ∧ sb_Fit f2 ∧ w = [(q, .inl (cB, n, .inl f2))]) 1 16 := by
  refine sq_met (by decide +kernel) (Nat.le_of_ble_eq_true rfl) ?_
  intro p e s m args below meth c A ls hC hlocks hr hin hP hK hD hA hX hl
  obtain ⟨hx, hb, hml, hown, hts⟩ := id hC
  have hS : va_S A s.heap s.heap [] := va_S.rf
  have hl : lv_has ls 5 [(0, .ref v), (1, .int 0), (2, .int (nI n))] := hl
  obtain ⟨-, hT⟩ := id hX
  refine lv_iload_n hx hb (by decide +kernel : decode cJ7_copyOfRangeByte_39247 0 = .ok (.iload_n 1, 1)) rfl (lv_at hl 1 rfl) ?_
  refine lv_iload_n hx hb (by decide +kernel : decode cJ7_copyOfRangeByte_39247 1 = .ok (.iload_n 2, 1)) rfl (lv_at hl 2 rfl) ?_
  refine sq_cs (n := 2) (wr := []) hC (cj_checkLength l (n := n) hn) ⟨rfl, rfl⟩ kw_967 kw_968 kw_969 kw_7 (by decide +kernel) rfl [] [] rfl rfl rfl rfl (by decide) sj_EB hK hP hD hS hA (sq_down sj_EB hX.1 hS (va_free hD hS hA [] rfl)) hl.1 rfl (Nat.le_of_ble_eq_true rfl) ⟨Nat.le_of_ble_eq_true rfl, Nat.le_of_ble_eq_true rfl⟩ ⟨Nat.le_of_ble_eq_true rfl, Nat.le_of_ble_eq_true rfl⟩ (by decide +kernel : decode cJ7_copyOfRangeByte_39247 2 = .ok (.invokestatic 343, 3)) (fun v9 w9 H locs h9 hP hD hS => ?_)
  obtain ⟨rfl, rfl⟩ := h9
  have hP : va_P D vwCl [] H := hP
  have hD : va_D A [] := hD
  refine W.eq (g2 := F0 m 5 ls []) rfl ?_
  refine lv_iload_n hx hb (by decide +kernel : decode cJ7_copyOfRangeByte_39247 5 = .ok (.iload_n 2, 1)) rfl (lv_at hl 2 rfl) ?_
  refine lv_iload_n hx hb (by decide +kernel : decode cJ7_copyOfRangeByte_39247 6 = .ok (.iload_n 1, 1)) rfl (lv_at hl 1 rfl) ?_
  refine lv_isub hx hb (by decide +kernel : decode cJ7_copyOfRangeByte_39247 7 = .ok (.isub, 1)) ?_
  refine lv_topi (fun z9 e9 => ?_)
  obtain rfl : z9 = (nI n) := by rw [e9]; exact pk_sub (a := n) (b := 0) (Nat.zero_le _)
  refine lv_istore_n (lv' := [(3, .int (nI n)), (0, .ref v), (1, .int 0), (2, .int (nI n))]) hx hb (by decide +kernel : decode cJ7_copyOfRangeByte_39247 8 = .ok (.istore_n 3, 1)) rfl hl (by decide) rfl (fun ls hl => ?_)
  refine lv_iload_n hx hb (by decide +kernel : decode cJ7_copyOfRangeByte_39247 9 = .ok (.iload_n 3, 1)) rfl (lv_at hl 0 rfl) ?_
  refine va_newa hx hb (atype := .byte) (hts _ kw_746) rfl hK hP hD hS hA (N' := n) (a0 := (n, .inl (fun _ => 0))) (fun cA => rfl) (nI_pos (by omega)) (nI_clamp (by omega)) (Nat.le_trans (Nat.mul_le_mul hn (show componentBytes .byte ≤ 8 by decide)) (by decide)) (Nat.le_of_ble_eq_true rfl) (by show 0 + n ≤ 16; omega) (by decide +kernel : decode cJ7_copyOfRangeByte_39247 10 = .ok (.newarray .byte, 2)) (fun q cA9 H hK9 hP hD hS => ?_)
  have hcA9 : cA9 = cB := Option.some.inj ((va_nm_byte (hK9.2 1 (cA9, .byte) rfl).2).symm.trans (va_nm_byte (hK.2 0 _ rfl).2))
  rw [hcA9] at hP hD
  have hP : va_P D vwCl [(q, .inl (cB, n, .inl (fun _ => 0)))] H := hP
  have hD : va_D A [(q, .inl (cB, n, .inl (fun _ => 0)))] := hD
  refine W.widen (k := 1) (n := 16) (Nat.le_refl _) (by omega) ?_
  refine lv_astore (lv' := [(4, .ref q), (3, .int (nI n)), (0, .ref v), (1, .int 0), (2, .int (nI n))]) hx hb (by decide +kernel : decode cJ7_copyOfRangeByte_39247 12 = .ok (.astore 4, 2)) hl (by decide) rfl (fun ls hl => ?_)
  refine lv_aload_n hx hb (by decide +kernel : decode cJ7_copyOfRangeByte_39247 14 = .ok (.aload_n 0, 1)) rfl (lv_at hl 2 rfl) ?_
  refine lv_iload_n hx hb (by decide +kernel : decode cJ7_copyOfRangeByte_39247 15 = .ok (.iload_n 1, 1)) rfl (lv_at hl 3 rfl) ?_
  refine lv_aload hx hb (by decide +kernel : decode cJ7_copyOfRangeByte_39247 16 = .ok (.aload 4, 2)) (lv_at hl 0 rfl) ?_
  refine lv_iconst (v := 0) hx hb (by decide +kernel : decode cJ7_copyOfRangeByte_39247 18 = .ok (.iconst 0, 1)) (by decide) ?_
  refine lv_aload_n hx hb (by decide +kernel : decode cJ7_copyOfRangeByte_39247 19 = .ok (.aload_n 0, 1)) rfl (lv_at hl 2 rfl) ?_
  refine va_tlen hx hb hT hS (v := nI 16) rfl (by decide +kernel : decode cJ7_copyOfRangeByte_39247 20 = .ok (.arraylength, 1)) ?_
  refine lv_iload_n hx hb (by decide +kernel : decode cJ7_copyOfRangeByte_39247 21 = .ok (.iload_n 1, 1)) rfl (lv_at hl 3 rfl) ?_
  refine lv_isub hx hb (by decide +kernel : decode cJ7_copyOfRangeByte_39247 22 = .ok (.isub, 1)) ?_
  refine lv_topi (fun z9 e9 => ?_)
  obtain rfl : z9 = (nI 16) := by rw [e9]; exact pk_sub (a := 16) (b := 0) (Nat.zero_le _)
  refine lv_iload_n hx hb (by decide +kernel : decode cJ7_copyOfRangeByte_39247 23 = .ok (.iload_n 3, 1)) rfl (lv_at hl 1 rfl) ?_
  refine va_mmin hx hb (hml.trans hl.1.symm) hown (hts _ kw_785) (hts _ kw_228) (hts _ kw_18) (hts _ kw_229) (Nat.le_of_ble_eq_true rfl) (Nat.le_of_ble_eq_true rfl) (Nat.le_of_ble_eq_true rfl) (Nat.le_of_ble_eq_true rfl) (by decide +kernel : decode cJ7_copyOfRangeByte_39247 24 = .ok (.invokestatic 304, 3)) ?_
  refine lv_topi (fun z9 e9 => ?_)
  obtain rfl : z9 = (nI n) := by rw [e9]; exact sj_min hn
  refine vk_copyt hx hb (hml.trans hl.1.symm) hown (hts _ kw_786) (hts _ kw_306) (hts _ kw_305) (hts _ kw_19) hK hP hD hS hT 0 0 rfl rfl (by decide) (by decide) (nI_pos (by omega)) (by rw [nI_clamp (by omega), sb_cl0]; omega) (by rw [nI_clamp (by omega), sb_cl0]; omega) (fun i _ => hf _) (Nat.le_of_ble_eq_true rfl) (Nat.le_of_ble_eq_true rfl) (by decide +kernel : decode cJ7_copyOfRangeByte_39247 27 = .ok (.invokestatic 150, 3)) (fun H locs hP hD hS => ?_)
  generalize hg27 : (va_cpy _ (fun _ => 0) _ _ _ : Nat → Int32) = f2 at hP hD
  have hP : va_P D vwCl [(q, .inl (cB, n, .inl f2))] H := hP
  have hD : va_D A [(q, .inl (cB, n, .inl f2))] := hD
  refine lv_aload hx hb (by decide +kernel : decode cJ7_copyOfRangeByte_39247 30 = .ok (.aload 4, 2)) (lv_at hl 0 rfl) ?_
  exact sq_aret hx hb hlocks hr (by first | exact Or.inl ⟨_, rfl⟩ | exact Or.inr ⟨_, rfl⟩) (⟨q, f2, rfl, by rw [← hg27]; exact sb_fitC hf sb_fit0, rfl⟩) hP hD hS (by decide +kernel : decode cJ7_copyOfRangeByte_39247 32 = .ok (.areturn, 1))
set_option maxRecDepth 100000 in
set_option maxHeartbeats 4000000 in
theorem cj_copyR (l : Launch) {D : va_G} {cB : ClassId} {v n : Nat} {f : Nat → Int32} (hn : n < 16) (hf : sb_Fit f) : sq_ok l yJ7_copyOfRange_39247 cJ7_copyOfRange_39247 3 (some (.array .byte)) ({ frames := 2, cells := 1, slots := 16, locals := 64 }) D [(cB, .byte)] (sj_A v 16 f) [.ref v, .int 0, .int (nI n)] [] (fun r w => ∃ q f2, r = some (.ref q) ∧ sb_Fit f2 ∧ w = [(q, .inl (cB, n, .inl f2))]) 1 16 := by
  refine sq_met (by decide +kernel) (Nat.le_of_ble_eq_true rfl) ?_
  intro p e s m args below meth c A ls hC hlocks hr hin hP hK hD hA hX hl
  obtain ⟨hx, hb, hml, hown, hts⟩ := id hC
  have hS : va_S A s.heap s.heap [] := va_S.rf
  have hl : lv_has ls 3 [(0, .ref v), (1, .int 0), (2, .int (nI n))] := hl
  obtain ⟨-, hT⟩ := id hX
  refine lv_iload_n hx hb (by decide +kernel : decode cJ7_copyOfRange_39247 0 = .ok (.iload_n 1, 1)) rfl (lv_at hl 1 rfl) ?_
  refine lv_if_ne (tgt := 10) hx hb (by decide +kernel : decode cJ7_copyOfRange_39247 1 = .ok (.ifCond .ne 9, 3)) (by decide) (fun h9 => absurd h9 (fun h => h rfl)) (fun _ => ?_)
  refine lv_iload_n hx hb (by decide +kernel : decode cJ7_copyOfRange_39247 4 = .ok (.iload_n 2, 1)) rfl (lv_at hl 2 rfl) ?_
  refine lv_aload_n hx hb (by decide +kernel : decode cJ7_copyOfRange_39247 5 = .ok (.aload_n 0, 1)) rfl (lv_at hl 0 rfl) ?_
  refine va_tlen hx hb hT hS (v := nI 16) rfl (by decide +kernel : decode cJ7_copyOfRange_39247 6 = .ok (.arraylength, 1)) ?_
  refine lv_icmp_eq (tgt := 17) hx hb (by decide +kernel : decode cJ7_copyOfRange_39247 7 = .ok (.if_icmp .eq 10, 3)) (by decide) (fun h9 => absurd h9 (fun z => by have := (nI_eq (by omega) (by omega)).mp z; omega)) (fun _ => ?_)
  refine lv_aload_n hx hb (by decide +kernel : decode cJ7_copyOfRange_39247 10 = .ok (.aload_n 0, 1)) rfl (lv_at hl 0 rfl) ?_
  refine lv_iload_n hx hb (by decide +kernel : decode cJ7_copyOfRange_39247 11 = .ok (.iload_n 1, 1)) rfl (lv_at hl 1 rfl) ?_
  refine lv_iload_n hx hb (by decide +kernel : decode cJ7_copyOfRange_39247 12 = .ok (.iload_n 2, 1)) rfl (lv_at hl 2 rfl) ?_
  refine sq_cs (n := 3) (wr := []) hC (cj_copyRB l (v := v) (n := n) (f := f) (by omega) hf) ⟨rfl, rfl⟩ kw_964 kw_965 kw_966 kw_7 (by decide +kernel) rfl [] [] rfl rfl rfl rfl (by decide) (sj_EA v 16 f) hK hP hD hS hA (sq_down (sj_EA v 16 f) hX hS (va_free hD hS hA [] rfl)) hl.1 rfl (Nat.le_of_ble_eq_true rfl) ⟨Nat.le_of_ble_eq_true rfl, Nat.le_of_ble_eq_true rfl⟩ ⟨Nat.le_of_ble_eq_true rfl, Nat.le_of_ble_eq_true rfl⟩ (by decide +kernel : decode cJ7_copyOfRange_39247 13 = .ok (.invokestatic 339, 3)) (fun v9 w9 H locs h9 hP hD hS => ?_)
  obtain ⟨q, f2, rfl, hf2, rfl⟩ := h9
  have hP : va_P D vwCl [(q, .inl (cB, n, .inl f2))] H := hP
  have hD : va_D A [(q, .inl (cB, n, .inl f2))] := hD
  refine W.eq (g2 := F0 m 16 ls [.ref q]) rfl ?_
  exact sq_aret hx hb hlocks hr (by first | exact Or.inl ⟨_, rfl⟩ | exact Or.inr ⟨_, rfl⟩) (⟨q, f2, rfl, hf2, rfl⟩) hP hD hS (by decide +kernel : decode cJ7_copyOfRange_39247 16 = .ok (.areturn, 1))
set_option maxRecDepth 100000 in
set_option maxHeartbeats 4000000 in
theorem cj_initS2 (l : Launch) {D : va_G} {cB : ClassId} {q a v n : Nat} {f : Nat → Int32} (hn : n < 16) (hf : sb_Fit f) : sq_ok l yJ0_init_db425 cJ0_init_db425 5 none ({ frames := 3, cells := 1, slots := 16, locals := 86 }) D [(cB, .byte)] sj_B [.ref q, .ref a, .null] [(q, .inr (11, [.null, .int 0, .int 0, .int 0])), (a, .inr (12, [.ref v, .int 0, .int 0, .int (nI n)])), (v, .inl (cB, 16, .inl f))] (fun r w => r = none ∧ ∃ u f2, sb_Fit f2 ∧ w = [(a, .inr (12, [.ref v, .int 0, .int 0, .int (nI n)])), (v, .inl (cB, 16, .inl f)), (q, .inr (11, [.ref u, .int 0, .int 0, .int 0])), (u, .inl (cB, n, .inl f2))]) 1 16 := by
  refine sq_met (by decide +kernel) (Nat.le_of_ble_eq_true rfl) ?_
  intro p e s m args below meth c A ls hC hlocks hr hin hP hK hD hA hX hl
  obtain ⟨hx, hb, hml, hown, hts⟩ := id hC
  have hS : va_S A s.heap s.heap [] := va_S.rf
  have hl : lv_has ls 5 [(0, .ref q), (1, .ref a), (2, .null)] := hl
  refine lv_aload_n hx hb (by decide +kernel : decode cJ0_init_db425 0 = .ok (.aload_n 0, 1)) rfl (lv_at hl 0 rfl) ?_
  refine W.objInit hx hb hown (hts _ kw_946) (hts _ kw_376) (hts _ kw_377) rfl (by rw [hml]; exact hl.1) rfl (by decide +kernel : decode cJ0_init_db425 1 = .ok (.invokespecial 1, 3)) (Nat.le_of_ble_eq_true rfl) (Nat.le_of_ble_eq_true rfl) ?_
  refine W.eq (g2 := F0 m 4 ls []) rfl ?_
  refine lv_aload_n hx hb (by decide +kernel : decode cJ0_init_db425 4 = .ok (.aload_n 1, 1)) rfl (lv_at hl 1 rfl) ?_
  refine sq_cu (n := 0) (wr := [(q, .inr (11, [.null, .int 0, .int 0, .int 0]))]) (C := "java/lang/StringBuilder") (owner := "java/lang/AbstractStringBuilder") hC (cj_getValue l (a := a) (v := v) (n := n) (f := f)) ⟨rfl, rfl⟩ kw_947 kq_949 kw_948 (hts _ kw_950) kw_951 kw_13 rfl (by decide +kernel) rfl (va_recv hK hP (ci := 12) (q0 := 1) rfl rfl) [1, 2] [0] rfl rfl rfl rfl (by decide) sj_EB hK hP hD hS hA (sq_down sj_EB hX hS (va_free hD hS hA [1, 2] rfl)) hl.1 rfl (Nat.le_of_ble_eq_true rfl) ⟨Nat.le_of_ble_eq_true rfl, Nat.le_of_ble_eq_true rfl⟩ ⟨Nat.le_of_ble_eq_true rfl, Nat.le_of_ble_eq_true rfl⟩ (by decide +kernel : decode cJ0_init_db425 5 = .ok (.invokevirtual 552, 3)) (fun v9 w9 H locs h9 hP hD hS => ?_)
  obtain ⟨rfl, rfl⟩ := h9
  have hP : va_P D vwCl [(q, .inr (11, [.null, .int 0, .int 0, .int 0])), (a, .inr (12, [.ref v, .int 0, .int 0, .int (nI n)])), (v, .inl (cB, 16, .inl f))] H := hP
  have hD : va_D A [(q, .inr (11, [.null, .int 0, .int 0, .int 0])), (a, .inr (12, [.ref v, .int 0, .int 0, .int (nI n)])), (v, .inl (cB, 16, .inl f))] := hD
  refine W.eq (g2 := F0 m 8 ls [.ref v]) rfl ?_
  refine lv_astore_n (lv' := [(3, .ref v), (0, .ref q), (1, .ref a), (2, .null)]) hx hb (by decide +kernel : decode cJ0_init_db425 8 = .ok (.astore_n 3, 1)) rfl hl (by decide) rfl (fun ls hl => ?_)
  refine lv_aload_n hx hb (by decide +kernel : decode cJ0_init_db425 9 = .ok (.aload_n 1, 1)) rfl (lv_at hl 2 rfl) ?_
  refine sq_co (n := 0) (wr := [(q, .inr (11, [.null, .int 0, .int 0, .int 0]))]) (C := "java/lang/StringBuilder") (owner := "java/lang/AbstractStringBuilder") hC (cj_length4 l (a := a) (v := v) (n := n) (f := f)) ⟨rfl, rfl⟩ kw_952 kq_954 kw_953 kw_959 kw_956 (hts _ kw_955) kw_957 kw_14 (by decide +kernel) rfl (va_recv hK hP (ci := 12) (q0 := 1) rfl rfl) [1, 2] [0] rfl rfl rfl rfl (by decide) sj_EB hK hP hD hS hA (sq_down sj_EB hX hS (va_free hD hS hA [1, 2] rfl)) hl.1 rfl (Nat.le_of_ble_eq_true rfl) ⟨Nat.le_of_ble_eq_true rfl, Nat.le_of_ble_eq_true rfl⟩ ⟨Nat.le_of_ble_eq_true rfl, Nat.le_of_ble_eq_true rfl⟩ (by decide +kernel : decode cJ0_init_db425 10 = .ok (.invokevirtual 549, 3)) (fun v9 w9 H locs h9 hP hD hS => ?_)
  obtain ⟨rfl, rfl⟩ := h9
  have hP : va_P D vwCl [(q, .inr (11, [.null, .int 0, .int 0, .int 0])), (a, .inr (12, [.ref v, .int 0, .int 0, .int (nI n)])), (v, .inl (cB, 16, .inl f))] H := hP
  have hD : va_D A [(q, .inr (11, [.null, .int 0, .int 0, .int 0])), (a, .inr (12, [.ref v, .int 0, .int 0, .int (nI n)])), (v, .inl (cB, 16, .inl f))] := hD
  refine W.eq (g2 := F0 m 13 ls [.int (nI n)]) rfl ?_
  refine lv_istore (lv' := [(4, .int (nI n)), (3, .ref v), (0, .ref q), (1, .ref a), (2, .null)]) hx hb (by decide +kernel : decode cJ0_init_db425 13 = .ok (.istore 4, 2)) hl (by decide) rfl (fun ls hl => ?_)
  refine lv_aload_n hx hb (by decide +kernel : decode cJ0_init_db425 15 = .ok (.aload_n 1, 1)) rfl (lv_at hl 3 rfl) ?_
  refine sq_cu (n := 0) (wr := [(q, .inr (11, [.null, .int 0, .int 0, .int 0]))]) (C := "java/lang/StringBuilder") (owner := "java/lang/AbstractStringBuilder") hC (cj_isLatinB l (a := a) (v := v) (n := n) (f := f)) ⟨rfl, rfl⟩ kw_960 kq_789 kw_788 (hts _ kw_790) kw_791 kw_13 rfl (by decide +kernel) rfl (va_recv hK hP (ci := 12) (q0 := 1) rfl rfl) [1, 2] [0] rfl rfl rfl rfl (by decide) sj_EB hK hP hD hS hA (sq_down sj_EB hX hS (va_free hD hS hA [1, 2] rfl)) hl.1 rfl (Nat.le_of_ble_eq_true rfl) ⟨Nat.le_of_ble_eq_true rfl, Nat.le_of_ble_eq_true rfl⟩ ⟨Nat.le_of_ble_eq_true rfl, Nat.le_of_ble_eq_true rfl⟩ (by decide +kernel : decode cJ0_init_db425 16 = .ok (.invokevirtual 1047, 3)) (fun v9 w9 H locs h9 hP hD hS => ?_)
  obtain ⟨rfl, rfl⟩ := h9
  have hP : va_P D vwCl [(q, .inr (11, [.null, .int 0, .int 0, .int 0])), (a, .inr (12, [.ref v, .int 0, .int 0, .int (nI n)])), (v, .inl (cB, 16, .inl f))] H := hP
  have hD : va_D A [(q, .inr (11, [.null, .int 0, .int 0, .int 0])), (a, .inr (12, [.ref v, .int 0, .int 0, .int (nI n)])), (v, .inl (cB, 16, .inl f))] := hD
  refine W.eq (g2 := F0 m 19 ls [.int 1]) rfl ?_
  refine lv_if_eq (tgt := 41) hx hb (by decide +kernel : decode cJ0_init_db425 19 = .ok (.ifCond .eq 22, 3)) (by decide) (fun h9 => absurd h9 (by decide)) (fun _ => ?_)
  refine lv_aload_n hx hb (by decide +kernel : decode cJ0_init_db425 22 = .ok (.aload_n 0, 1)) rfl (lv_at hl 2 rfl) ?_
  refine lv_iconst (v := 0) hx hb (by decide +kernel : decode cJ0_init_db425 23 = .ok (.iconst 0, 1)) (by decide) ?_
  refine va_putF (D := D) (ci := 11) (v := .int (0)) (ty := .byte) (C := RJ0) (T := TJ0) (N := 4) hx hb hts sj_in0 tyJ0 tyJ0_ok nmJ0 hown hK hP hD hS 0 rfl rfl 1 (by decide) (hts _ kw_981) (fun _ h9 => h9) rfl hin rfl (by decide +kernel) rfl rfl (Nat.le_of_ble_eq_true rfl) (by decide +kernel : decode cJ0_init_db425 24 = .ok (.putfield 15, 3)) (fun H locs hP hD hS => ?_)
  have hP : va_P D vwCl [(q, .inr (11, [.null, .int (0), .int 0, .int 0])), (a, .inr (12, [.ref v, .int 0, .int 0, .int (nI n)])), (v, .inl (cB, 16, .inl f))] H := hP
  have hD : va_D A [(q, .inr (11, [.null, .int (0), .int 0, .int 0])), (a, .inr (12, [.ref v, .int 0, .int 0, .int (nI n)])), (v, .inl (cB, 16, .inl f))] := hD
  refine lv_aload_n hx hb (by decide +kernel : decode cJ0_init_db425 27 = .ok (.aload_n 0, 1)) rfl (lv_at hl 2 rfl) ?_
  refine lv_aload_n hx hb (by decide +kernel : decode cJ0_init_db425 28 = .ok (.aload_n 3, 1)) rfl (lv_at hl 1 rfl) ?_
  refine lv_iconst (v := 0) hx hb (by decide +kernel : decode cJ0_init_db425 29 = .ok (.iconst 0, 1)) (by decide) ?_
  refine lv_iload hx hb (by decide +kernel : decode cJ0_init_db425 30 = .ok (.iload 4, 2)) (lv_at hl 0 rfl) ?_
  refine sq_cs (n := 3) (wr := [(q, .inr (11, [.null, .int (0), .int 0, .int 0])), (a, .inr (12, [.ref v, .int 0, .int 0, .int (nI n)])), (v, .inl (cB, 16, .inl f))]) hC (cj_copyR l (v := v) (n := n) (f := f) hn hf) ⟨rfl, rfl⟩ kw_961 kw_962 kw_963 kw_7 (by decide +kernel) rfl [] [0, 1, 2] rfl rfl rfl rfl (by decide) (sj_EA v 16 f) hK hP hD hS hA ⟨(sq_down sj_EB hX hS (va_free hD hS hA [] rfl)), sj_Tof hK hP 2 0 rfl rfl (sj_no (hP 2 _ rfl).lt)⟩ hl.1 rfl (Nat.le_of_ble_eq_true rfl) ⟨Nat.le_of_ble_eq_true rfl, Nat.le_of_ble_eq_true rfl⟩ ⟨Nat.le_of_ble_eq_true rfl, Nat.le_of_ble_eq_true rfl⟩ (by decide +kernel : decode cJ0_init_db425 32 = .ok (.invokestatic 54, 3)) (fun v9 w9 H locs h9 hP hD hS => ?_)
  obtain ⟨u, f2, rfl, hf2, rfl⟩ := h9
  have hP : va_P D vwCl [(q, .inr (11, [.null, .int (0), .int 0, .int 0])), (a, .inr (12, [.ref v, .int 0, .int 0, .int (nI n)])), (v, .inl (cB, 16, .inl f)), (u, .inl (cB, n, .inl f2))] H := hP
  have hD : va_D A [(q, .inr (11, [.null, .int (0), .int 0, .int 0])), (a, .inr (12, [.ref v, .int 0, .int 0, .int (nI n)])), (v, .inl (cB, 16, .inl f)), (u, .inl (cB, n, .inl f2))] := hD
  refine W.eq (g2 := F0 m 35 ls [.ref u, .ref q]) rfl ?_
  refine va_putF (D := D) (ci := 11) (v := .ref u) (ty := .array .byte) (C := RJ0) (T := TJ0) (N := 4) hx hb hts sj_in0 tyJ0 tyJ0_ok nmJ0 hown hK hP hD hS 0 rfl rfl 0 (by decide) (hts _ kw_980) (fun _ h9 => h9) rfl hin rfl (by decide +kernel) rfl rfl (Nat.le_of_ble_eq_true rfl) (by decide +kernel : decode cJ0_init_db425 35 = .ok (.putfield 9, 3)) (fun H locs hP hD hS => ?_)
  have hP : va_P D vwCl [(q, .inr (11, [.ref u, .int (0), .int 0, .int 0])), (a, .inr (12, [.ref v, .int 0, .int 0, .int (nI n)])), (v, .inl (cB, 16, .inl f)), (u, .inl (cB, n, .inl f2))] H := hP
  have hD : va_D A [(q, .inr (11, [.ref u, .int (0), .int 0, .int 0])), (a, .inr (12, [.ref v, .int 0, .int 0, .int (nI n)])), (v, .inl (cB, 16, .inl f)), (u, .inl (cB, n, .inl f2))] := hD
  refine lv_goto (tgt := 97) hx hb (by decide +kernel : decode cJ0_init_db425 38 = .ok (.goto 59, 3)) (by decide) ?_
  have hP := hP.sub (ws' := [(a, .inr (12, [.ref v, .int 0, .int 0, .int (nI n)])), (v, .inl (cB, 16, .inl f)), (q, .inr (11, [.ref u, .int 0, .int 0, .int 0])), (u, .inl (cB, n, .inl f2))]) [1, 2, 0, 3] rfl
  have hD := hD.sub (ws' := [(a, .inr (12, [.ref v, .int 0, .int 0, .int (nI n)])), (v, .inl (cB, 16, .inl f)), (q, .inr (11, [.ref u, .int 0, .int 0, .int 0])), (u, .inl (cB, n, .inl f2))]) [1, 2, 0, 3] (by decide) rfl
  exact sq_vret hx hb hlocks hr (⟨rfl, u, f2, hf2, rfl⟩) hP hD hS (by decide +kernel : decode cJ0_init_db425 97 = .ok (.return_, 1))
set_option maxRecDepth 100000 in
set_option maxHeartbeats 4000000 in
theorem cj_initS1 (l : Launch) {D : va_G} {cB : ClassId} {q a v n : Nat} {f : Nat → Int32} (hn : n < 16) (hf : sb_Fit f) : sq_ok l yJ0_init_81219 cJ0_init_81219 2 none ({ frames := 4, cells := 1, slots := 16, locals := 110 }) D [(cB, .byte)] sj_B [.ref q, .ref a] [(q, .inr (11, [.null, .int 0, .int 0, .int 0])), (a, .inr (12, [.ref v, .int 0, .int 0, .int (nI n)])), (v, .inl (cB, 16, .inl f))] (fun r w => r = none ∧ ∃ u f2, sb_Fit f2 ∧ w = [(a, .inr (12, [.ref v, .int 0, .int 0, .int (nI n)])), (v, .inl (cB, 16, .inl f)), (q, .inr (11, [.ref u, .int 0, .int 0, .int 0])), (u, .inl (cB, n, .inl f2))]) 1 16 := by
  refine sq_met (by decide +kernel) (Nat.le_of_ble_eq_true rfl) ?_
  intro p e s m args below meth c A ls hC hlocks hr hin hP hK hD hA hX hl
  obtain ⟨hx, hb, hml, hown, hts⟩ := id hC
  have hS : va_S A s.heap s.heap [] := va_S.rf
  have hl : lv_has ls 2 [(0, .ref q), (1, .ref a)] := hl
  refine lv_aload_n hx hb (by decide +kernel : decode cJ0_init_81219 0 = .ok (.aload_n 0, 1)) rfl (lv_at hl 0 rfl) ?_
  refine lv_aload_n hx hb (by decide +kernel : decode cJ0_init_81219 1 = .ok (.aload_n 1, 1)) rfl (lv_at hl 1 rfl) ?_
  refine lv_null hx hb (by decide +kernel : decode cJ0_init_81219 2 = .ok (.aconst_null, 1)) ?_
  refine sq_ci (n := 2) (wr := []) hC (cj_initS2 l (q := q) (a := a) (v := v) (n := n) (f := f) hn hf) ⟨rfl, rfl⟩ rfl kw_943 kw_944 kw_945 kw_15 (by decide +kernel) rfl [0, 1, 2] [] rfl rfl rfl rfl (by decide) sj_EB hK hP hD hS hA (sq_down sj_EB hX hS (va_free hD hS hA [0, 1, 2] rfl)) hl.1 rfl (Nat.le_of_ble_eq_true rfl) ⟨Nat.le_of_ble_eq_true rfl, Nat.le_of_ble_eq_true rfl⟩ ⟨Nat.le_of_ble_eq_true rfl, Nat.le_of_ble_eq_true rfl⟩ (by decide +kernel : decode cJ0_init_81219 3 = .ok (.invokespecial 489, 3)) (fun v9 w9 H locs h9 hP hD hS => ?_)
  obtain ⟨rfl, u, f2, hf2, rfl⟩ := h9
  have hP : va_P D vwCl [(a, .inr (12, [.ref v, .int 0, .int 0, .int (nI n)])), (v, .inl (cB, 16, .inl f)), (q, .inr (11, [.ref u, .int 0, .int 0, .int 0])), (u, .inl (cB, n, .inl f2))] H := hP
  have hD : va_D A [(a, .inr (12, [.ref v, .int 0, .int 0, .int (nI n)])), (v, .inl (cB, 16, .inl f)), (q, .inr (11, [.ref u, .int 0, .int 0, .int 0])), (u, .inl (cB, n, .inl f2))] := hD
  refine W.eq (g2 := F0 m 6 ls []) rfl ?_
  exact sq_vret hx hb hlocks hr (⟨rfl, u, f2, hf2, rfl⟩) hP hD hS (by decide +kernel : decode cJ0_init_81219 6 = .ok (.return_, 1))
set_option maxRecDepth 100000 in
set_option maxHeartbeats 4000000 in
theorem cj_toString (l : Launch) {D : va_G} {cB : ClassId} {a v n : Nat} {f : Nat → Int32} (hn : n < 16) (hf : sb_Fit f) : sq_ok l yJ4_toString_0e30d cJ4_toString_0e30d 1 (some (.object "java/lang/String")) ({ frames := 5, cells := 2, slots := 20, locals := 131 }) D [(cB, .byte)] sj_B [.ref a] [(a, .inr (12, [.ref v, .int 0, .int 0, .int (nI n)])), (v, .inl (cB, 16, .inl f))] (fun r w => ∃ q u f2, r = some (.ref q) ∧ sb_Fit f2 ∧ w = [(a, .inr (12, [.ref v, .int 0, .int 0, .int (nI n)])), (v, .inl (cB, 16, .inl f)), (q, .inr (11, [.ref u, .int 0, .int 0, .int 0])), (u, .inl (cB, n, .inl f2))]) 2 20 := by
  refine sq_met (by decide +kernel) (Nat.le_of_ble_eq_true rfl) ?_
  intro p e s m args below meth c A ls hC hlocks hr hin hP hK hD hA hX hl
  obtain ⟨hx, hb, hml, hown, hts⟩ := id hC
  have hS : va_S A s.heap s.heap [] := va_S.rf
  have hl : lv_has ls 1 [(0, .ref a)] := hl
  refine va_new (ci := 11) (fs := [.null, .int 0, .int 0, .int 0]) (C := RJ0) (T := TJ0) (N := 4) hx hb hts sj_in0 tyJ0 tyJ0_ok hown (hts _ kw_938) (hts _ kw_939) (hts _ kw_15) hK hP hD hS hA rfl (fun j hj => by rcases (show j = 0 ∨ j = 1 ∨ j = 2 ∨ j = 3 by omega) with rfl | rfl | rfl | rfl <;> rfl) (Nat.le_of_ble_eq_true rfl) (Nat.le_of_ble_eq_true rfl) (by decide +kernel : decode cJ4_toString_0e30d 0 = .ok (.new 18, 3)) (fun q H hP hD hS => ?_)
  have hP : va_P D vwCl [(a, .inr (12, [.ref v, .int 0, .int 0, .int (nI n)])), (v, .inl (cB, 16, .inl f)), (q, .inr (11, [.null, .int 0, .int 0, .int 0]))] H := hP
  have hD : va_D A [(a, .inr (12, [.ref v, .int 0, .int 0, .int (nI n)])), (v, .inl (cB, 16, .inl f)), (q, .inr (11, [.null, .int 0, .int 0, .int 0]))] := hD
  refine lv_dup hx hb (by decide +kernel : decode cJ4_toString_0e30d 3 = .ok (.dup, 1)) rfl ?_
  refine lv_aload_n hx hb (by decide +kernel : decode cJ4_toString_0e30d 4 = .ok (.aload_n 0, 1)) rfl (lv_at hl 0 rfl) ?_
  refine sq_ci (n := 1) (wr := []) hC (cj_initS1 l (q := q) (a := a) (v := v) (n := n) (f := f) hn hf) ⟨rfl, rfl⟩ rfl kw_940 kw_941 kw_942 kw_15 (by decide +kernel) rfl [2, 0, 1] [] rfl rfl rfl rfl (by decide) sj_EB hK hP hD hS hA (sq_down sj_EB hX hS (va_free hD hS hA [2, 0, 1] rfl)) hl.1 rfl (Nat.le_of_ble_eq_true rfl) ⟨Nat.le_of_ble_eq_true rfl, Nat.le_of_ble_eq_true rfl⟩ ⟨Nat.le_of_ble_eq_true rfl, Nat.le_of_ble_eq_true rfl⟩ (by decide +kernel : decode cJ4_toString_0e30d 5 = .ok (.invokespecial 137, 3)) (fun v9 w9 H locs h9 hP hD hS => ?_)
  obtain ⟨rfl, u, f2, hf2, rfl⟩ := h9
  have hP : va_P D vwCl [(a, .inr (12, [.ref v, .int 0, .int 0, .int (nI n)])), (v, .inl (cB, 16, .inl f)), (q, .inr (11, [.ref u, .int 0, .int 0, .int 0])), (u, .inl (cB, n, .inl f2))] H := hP
  have hD : va_D A [(a, .inr (12, [.ref v, .int 0, .int 0, .int (nI n)])), (v, .inl (cB, 16, .inl f)), (q, .inr (11, [.ref u, .int 0, .int 0, .int 0])), (u, .inl (cB, n, .inl f2))] := hD
  refine W.eq (g2 := F0 m 8 ls [.ref q]) rfl ?_
  exact sq_aret hx hb hlocks hr (by first | exact Or.inl ⟨_, rfl⟩ | exact Or.inr ⟨_, rfl⟩) (⟨q, u, f2, rfl, hf2, rfl⟩) hP hD hS (by decide +kernel : decode cJ4_toString_0e30d 8 = .ok (.areturn, 1))
set_option maxRecDepth 100000 in
set_option maxHeartbeats 4000000 in
theorem cj_check3N (l : Launch) {D : va_G} {cB : ClassId} {i n t9 : Nat} (hi : i < n) (hn : n < 2 ^ 31) : sq_ok l yJ3_checkIndex_8e157 cJ3_checkIndex_8e157 3 (some .int) ({ frames := 0, cells := 0, slots := 0, locals := 0 }) D [(cB, .byte)] sj_B [.int (nI i), .int (nI n), .null] [] (fun r w => r = some (.int (nI i)) ∧ w = []) 0 0 := by
  refine sq_met (by decide +kernel) (Nat.le_of_ble_eq_true rfl) ?_
  intro p e s m args below meth c A ls hC hlocks hr hin hP hK hD hA hX hl
  obtain ⟨hx, hb, hml, hown, hts⟩ := id hC
  have hS : va_S A s.heap s.heap [] := va_S.rf
  have hl : lv_has ls 3 [(0, .int (nI i)), (1, .int (nI n)), (2, .null)] := hl
  refine lv_iload_n hx hb (by decide +kernel : decode cJ3_checkIndex_8e157 0 = .ok (.iload_n 0, 1)) rfl (lv_at hl 0 rfl) ?_
  refine lv_if_lt (tgt := 9) hx hb (by decide +kernel : decode cJ3_checkIndex_8e157 1 = .ok (.ifCond .lt 8, 3)) (by decide) (fun h9 => absurd h9 (nI_pos (by omega))) (fun _ => ?_)
  refine lv_iload_n hx hb (by decide +kernel : decode cJ3_checkIndex_8e157 4 = .ok (.iload_n 0, 1)) rfl (lv_at hl 0 rfl) ?_
  refine lv_iload_n hx hb (by decide +kernel : decode cJ3_checkIndex_8e157 5 = .ok (.iload_n 1, 1)) rfl (lv_at hl 1 rfl) ?_
  refine lv_icmp_lt (tgt := 16) hx hb (by decide +kernel : decode cJ3_checkIndex_8e157 6 = .ok (.if_icmp .lt 10, 3)) (by decide) (fun _ => ?_) (fun h9 => absurd (nI_lt hi hn) h9)
  refine lv_iload_n hx hb (by decide +kernel : decode cJ3_checkIndex_8e157 16 = .ok (.iload_n 0, 1)) rfl (lv_at hl 0 rfl) ?_
  exact sq_iret hx hb hlocks hr (⟨rfl, rfl⟩) hP hD hS (by decide +kernel : decode cJ3_checkIndex_8e157 17 = .ok (.ireturn, 1))
set_option maxRecDepth 100000 in
set_option maxHeartbeats 4000000 in
theorem cj_check3R (l : Launch) {D : va_G} {cB : ClassId} {i n t9 : Nat} (hi : i < n) (hn : n < 2 ^ 31) : sq_ok l yJ3_checkIndex_8e157 cJ3_checkIndex_8e157 3 (some .int) ({ frames := 0, cells := 0, slots := 0, locals := 0 }) D [(cB, .byte)] sj_B [.int (nI i), .int (nI n), .ref t9] [] (fun r w => r = some (.int (nI i)) ∧ w = []) 0 0 := by
  refine sq_met (by decide +kernel) (Nat.le_of_ble_eq_true rfl) ?_
  intro p e s m args below meth c A ls hC hlocks hr hin hP hK hD hA hX hl
  obtain ⟨hx, hb, hml, hown, hts⟩ := id hC
  have hS : va_S A s.heap s.heap [] := va_S.rf
  have hl : lv_has ls 3 [(0, .int (nI i)), (1, .int (nI n)), (2, .ref t9)] := hl
  refine lv_iload_n hx hb (by decide +kernel : decode cJ3_checkIndex_8e157 0 = .ok (.iload_n 0, 1)) rfl (lv_at hl 0 rfl) ?_
  refine lv_if_lt (tgt := 9) hx hb (by decide +kernel : decode cJ3_checkIndex_8e157 1 = .ok (.ifCond .lt 8, 3)) (by decide) (fun h9 => absurd h9 (nI_pos (by omega))) (fun _ => ?_)
  refine lv_iload_n hx hb (by decide +kernel : decode cJ3_checkIndex_8e157 4 = .ok (.iload_n 0, 1)) rfl (lv_at hl 0 rfl) ?_
  refine lv_iload_n hx hb (by decide +kernel : decode cJ3_checkIndex_8e157 5 = .ok (.iload_n 1, 1)) rfl (lv_at hl 1 rfl) ?_
  refine lv_icmp_lt (tgt := 16) hx hb (by decide +kernel : decode cJ3_checkIndex_8e157 6 = .ok (.if_icmp .lt 10, 3)) (by decide) (fun _ => ?_) (fun h9 => absurd (nI_lt hi hn) h9)
  refine lv_iload_n hx hb (by decide +kernel : decode cJ3_checkIndex_8e157 16 = .ok (.iload_n 0, 1)) rfl (lv_at hl 0 rfl) ?_
  exact sq_iret hx hb hlocks hr (⟨rfl, rfl⟩) hP hD hS (by decide +kernel : decode cJ3_checkIndex_8e157 17 = .ok (.ireturn, 1))
set_option maxRecDepth 100000 in
set_option maxHeartbeats 4000000 in
theorem cj_check0 (l : Launch) {D : va_G} {cB : ClassId} {i n : Nat} (hi : i < n) (hn : n < 2 ^ 31) : sq_ok l yJ0_checkIndex_df160 cJ0_checkIndex_df160 2 none ({ frames := 1, cells := 0, slots := 0, locals := 22 }) D [(cB, .byte)] sj_B [.int (nI i), .int (nI n)] [] (fun r w => r = none ∧ w = []) 0 0 := by
  refine sq_met (by decide +kernel) (Nat.le_of_ble_eq_true rfl) ?_
  intro p e s m args below meth c A ls hC hlocks hr hin hP hK hD hA hX hl
  obtain ⟨hx, hb, hml, hown, hts⟩ := id hC
  have hS : va_S A s.heap s.heap [] := va_S.rf
  have hl : lv_has ls 2 [(0, .int (nI i)), (1, .int (nI n))] := hl
  obtain ⟨-, hq, -⟩ := id hX
  rcases hq with hq | ⟨t9, hq⟩
  · refine lv_iload_n hx hb (by decide +kernel : decode cJ0_checkIndex_df160 0 = .ok (.iload_n 0, 1)) rfl (lv_at hl 0 rfl) ?_
    refine lv_iload_n hx hb (by decide +kernel : decode cJ0_checkIndex_df160 1 = .ok (.iload_n 1, 1)) rfl (lv_at hl 1 rfl) ?_
    refine va_gets hx hb hq hS hown (hts _ kw_804) (fun _ h9 => h9) (by decide +kernel : decode cJ0_checkIndex_df160 2 = .ok (.getstatic 1053, 3)) ?_
    refine sq_cs (n := 3) (wr := []) hC (cj_check3N l (i := i) (n := n) (t9 := 0) hi hn) ⟨rfl, rfl⟩ kw_880 kw_881 kw_882 kw_20 (by decide +kernel) rfl [] [] rfl rfl rfl rfl (by decide) sj_EB hK hP hD hS hA (sq_down sj_EB hX hS (va_free hD hS hA [] rfl)) hl.1 rfl (Nat.le_of_ble_eq_true rfl) ⟨Nat.le_of_ble_eq_true rfl, Nat.le_of_ble_eq_true rfl⟩ ⟨Nat.le_of_ble_eq_true rfl, Nat.le_of_ble_eq_true rfl⟩ (by decide +kernel : decode cJ0_checkIndex_df160 5 = .ok (.invokestatic 1059, 3)) (fun v9 w9 H locs h9 hP hD hS => ?_)
    obtain ⟨rfl, rfl⟩ := h9
    have hP : va_P D vwCl [] H := hP
    have hD : va_D A [] := hD
    refine W.eq (g2 := F0 m 8 ls [.int (nI i)]) rfl ?_
    refine lv_pop hx hb (by decide +kernel : decode cJ0_checkIndex_df160 8 = .ok (.pop, 1)) rfl ?_
    exact sq_vret hx hb hlocks hr (⟨rfl, rfl⟩) hP hD hS (by decide +kernel : decode cJ0_checkIndex_df160 9 = .ok (.return_, 1))
  · refine lv_iload_n hx hb (by decide +kernel : decode cJ0_checkIndex_df160 0 = .ok (.iload_n 0, 1)) rfl (lv_at hl 0 rfl) ?_
    refine lv_iload_n hx hb (by decide +kernel : decode cJ0_checkIndex_df160 1 = .ok (.iload_n 1, 1)) rfl (lv_at hl 1 rfl) ?_
    refine va_gets hx hb hq hS hown (hts _ kw_804) (fun _ h9 => h9) (by decide +kernel : decode cJ0_checkIndex_df160 2 = .ok (.getstatic 1053, 3)) ?_
    refine sq_cs (n := 3) (wr := []) hC (cj_check3R l (i := i) (n := n) (t9 := t9) hi hn) ⟨rfl, rfl⟩ kw_880 kw_881 kw_882 kw_20 (by decide +kernel) rfl [] [] rfl rfl rfl rfl (by decide) sj_EB hK hP hD hS hA (sq_down sj_EB hX hS (va_free hD hS hA [] rfl)) hl.1 rfl (Nat.le_of_ble_eq_true rfl) ⟨Nat.le_of_ble_eq_true rfl, Nat.le_of_ble_eq_true rfl⟩ ⟨Nat.le_of_ble_eq_true rfl, Nat.le_of_ble_eq_true rfl⟩ (by decide +kernel : decode cJ0_checkIndex_df160 5 = .ok (.invokestatic 1059, 3)) (fun v9 w9 H locs h9 hP hD hS => ?_)
    obtain ⟨rfl, rfl⟩ := h9
    have hP : va_P D vwCl [] H := hP
    have hD : va_D A [] := hD
    refine W.eq (g2 := F0 m 8 ls [.int (nI i)]) rfl ?_
    refine lv_pop hx hb (by decide +kernel : decode cJ0_checkIndex_df160 8 = .ok (.pop, 1)) rfl ?_
    exact sq_vret hx hb hlocks hr (⟨rfl, rfl⟩) hP hD hS (by decide +kernel : decode cJ0_checkIndex_df160 9 = .ok (.return_, 1))
set_option maxRecDepth 100000 in
set_option maxHeartbeats 4000000 in
theorem cj_charAt1 (l : Launch) {D : va_G} {cB : ClassId} {v k i : Nat} {f : Nat → Int32} (hi : i < k) (hk : k < 2 ^ 31) : sq_ok l yJ1_charAt_3b067 cJ1_charAt_3b067 2 (some .char) ({ frames := 2, cells := 0, slots := 0, locals := 43 }) D [(cB, .byte)] (sj_A v k f) [.ref v, .int (nI i)] [] (fun r w => (∃ ch, r = some (.int ch) ∧ ¬ 255 < ch ∧ narrow .char (.int ch) = .int ch) ∧ w = []) 0 0 := by
  refine sq_met (by decide +kernel) (Nat.le_of_ble_eq_true rfl) ?_
  intro p e s m args below meth c A ls hC hlocks hr hin hP hK hD hA hX hl
  obtain ⟨hx, hb, hml, hown, hts⟩ := id hC
  have hS : va_S A s.heap s.heap [] := va_S.rf
  have hl : lv_has ls 2 [(0, .ref v), (1, .int (nI i))] := hl
  obtain ⟨-, hT⟩ := id hX
  refine lv_iload_n hx hb (by decide +kernel : decode cJ1_charAt_3b067 0 = .ok (.iload_n 1, 1)) rfl (lv_at hl 1 rfl) ?_
  refine lv_aload_n hx hb (by decide +kernel : decode cJ1_charAt_3b067 1 = .ok (.aload_n 0, 1)) rfl (lv_at hl 0 rfl) ?_
  refine va_tlen hx hb hT hS (v := nI k) rfl (by decide +kernel : decode cJ1_charAt_3b067 2 = .ok (.arraylength, 1)) ?_
  refine sq_cs (n := 2) (wr := []) hC (cj_check0 l (i := i) (n := k) hi hk) ⟨rfl, rfl⟩ kw_877 kw_878 kw_879 kw_15 (by decide +kernel) rfl [] [] rfl rfl rfl rfl (by decide) sj_EB hK hP hD hS hA (sq_down sj_EB hX.1 hS (va_free hD hS hA [] rfl)) hl.1 rfl (Nat.le_of_ble_eq_true rfl) ⟨Nat.le_of_ble_eq_true rfl, Nat.le_of_ble_eq_true rfl⟩ ⟨Nat.le_of_ble_eq_true rfl, Nat.le_of_ble_eq_true rfl⟩ (by decide +kernel : decode cJ1_charAt_3b067 3 = .ok (.invokestatic 9, 3)) (fun v9 w9 H locs h9 hP hD hS => ?_)
  obtain ⟨rfl, rfl⟩ := h9
  have hP : va_P D vwCl [] H := hP
  have hD : va_D A [] := hD
  refine W.eq (g2 := F0 m 6 ls []) rfl ?_
  refine lv_aload_n hx hb (by decide +kernel : decode cJ1_charAt_3b067 6 = .ok (.aload_n 0, 1)) rfl (lv_at hl 0 rfl) ?_
  refine lv_iload_n hx hb (by decide +kernel : decode cJ1_charAt_3b067 7 = .ok (.iload_n 1, 1)) rfl (lv_at hl 1 rfl) ?_
  refine va_tb hx hb hT hS (v := .int (f (nI i).toNatClampNeg)) (vp_in_nI hi hk) rfl (by decide +kernel : decode cJ1_charAt_3b067 8 = .ok (.baload, 1)) ?_
  refine lv_sipush (v := 255) hx hb (by decide +kernel : decode cJ1_charAt_3b067 9 = .ok (.sipush 255, 3)) (by decide) ?_
  refine lv_iand hx hb (by decide +kernel : decode cJ1_charAt_3b067 12 = .ok (.iand, 1)) ?_
  refine lv_i2c hx hb (by decide +kernel : decode cJ1_charAt_3b067 13 = .ok (.i2c, 1)) rfl ?_
  exact sq_zret hx hb hlocks hr (pk_nc _) (⟨⟨_, rfl, sj_ch _, pk_nc _⟩, rfl⟩) hP hD hS (by decide +kernel : decode cJ1_charAt_3b067 14 = .ok (.ireturn, 1))
set_option maxRecDepth 100000 in
set_option maxHeartbeats 4000000 in
theorem cj_charAt (l : Launch) {D : va_G} {cB : ClassId} {t k i : Nat} (hi : i < k) (hk : k < 2 ^ 31) : sq_ok l yJ0_charAt_5068e cJ0_charAt_5068e 2 (some .char) ({ frames := 3, cells := 0, slots := 0, locals := 64 }) D [(cB, .byte)] (sj_S t k) [.ref t, .int (nI i)] [] (fun r w => (∃ ch, r = some (.int ch) ∧ ¬ 255 < ch) ∧ w = []) 0 0 := by
  refine sq_met (by decide +kernel) (Nat.le_of_ble_eq_true rfl) ?_
  intro p e s m args below meth c A ls hC hlocks hr hin hP hK hD hA hX hl
  obtain ⟨hx, hb, hml, hown, hts⟩ := id hC
  have hS : va_S A s.heap s.heap [] := va_S.rf
  have hl : lv_has ls 2 [(0, .ref t), (1, .int (nI i))] := hl
  obtain ⟨-, hO0, hO, v, f, hV, hT, hf⟩ := id hX
  refine lv_aload_n hx hb (by decide +kernel : decode cJ0_charAt_5068e 0 = .ok (.aload_n 0, 1)) rfl (lv_at hl 0 rfl) ?_
  refine sq_cv (n := 0) (wr := []) hC (cj_isLatinS l (t := t) (k := k)) ⟨rfl, rfl⟩ kw_870 kw_871 kw_872 kw_873 kw_15 (by decide +kernel) rfl (vk_rc (hO0) hS) [] [] rfl rfl rfl rfl (by decide) (sj_ES t k) hK hP hD hS hA (sq_down (sj_ES t k) hX hS (va_free hD hS hA [] rfl)) hl.1 rfl (Nat.le_of_ble_eq_true rfl) ⟨Nat.le_of_ble_eq_true rfl, Nat.le_of_ble_eq_true rfl⟩ ⟨Nat.le_of_ble_eq_true rfl, Nat.le_of_ble_eq_true rfl⟩ (by decide +kernel : decode cJ0_charAt_5068e 1 = .ok (.invokevirtual 492, 3)) (fun v9 w9 H locs h9 hP hD hS => ?_)
  obtain ⟨rfl, rfl⟩ := h9
  have hP : va_P D vwCl [] H := hP
  have hD : va_D A [] := hD
  refine W.eq (g2 := F0 m 4 ls [.int 1]) rfl ?_
  refine lv_if_eq (tgt := 16) hx hb (by decide +kernel : decode cJ0_charAt_5068e 4 = .ok (.ifCond .eq 12, 3)) (by decide) (fun h9 => absurd h9 (by decide)) (fun _ => ?_)
  refine lv_aload_n hx hb (by decide +kernel : decode cJ0_charAt_5068e 7 = .ok (.aload_n 0, 1)) rfl (lv_at hl 0 rfl) ?_
  refine vk_getf hx hb hV hS hown (hts _ kw_980) (fun _ h9 => h9) (by decide +kernel : decode cJ0_charAt_5068e 8 = .ok (.getfield 9, 3)) ?_
  refine lv_iload_n hx hb (by decide +kernel : decode cJ0_charAt_5068e 11 = .ok (.iload_n 1, 1)) rfl (lv_at hl 1 rfl) ?_
  have hXA : sj_A v k f A s s.heap := ⟨hX.1, hT⟩
  refine sq_cs (n := 2) (wr := []) hC (cj_charAt1 l (v := v) (k := k) (i := i) (f := f) hi hk) ⟨rfl, rfl⟩ kw_874 kw_875 kw_876 kw_21 (by decide +kernel) rfl [] [] rfl rfl rfl rfl (by decide) (sj_EA v k f) hK hP hD hS hA (sq_down (sj_EA v k f) hXA hS (va_free hD hS hA [] rfl)) hl.1 rfl (Nat.le_of_ble_eq_true rfl) ⟨Nat.le_of_ble_eq_true rfl, Nat.le_of_ble_eq_true rfl⟩ ⟨Nat.le_of_ble_eq_true rfl, Nat.le_of_ble_eq_true rfl⟩ (by decide +kernel : decode cJ0_charAt_5068e 12 = .ok (.invokestatic 495, 3)) (fun v9 w9 H locs h9 hP hD hS => ?_)
  obtain ⟨⟨ch, rfl, hch, h9n⟩, rfl⟩ := h9
  have hP : va_P D vwCl [] H := hP
  have hD : va_D A [] := hD
  refine W.eq (g2 := F0 m 15 ls [.int ch]) rfl ?_
  exact sq_zret hx hb hlocks hr h9n (⟨⟨ch, rfl, hch⟩, rfl⟩) hP hD hS (by decide +kernel : decode cJ0_charAt_5068e 15 = .ok (.ireturn, 1))

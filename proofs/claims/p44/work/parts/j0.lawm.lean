/-! the law's own frames: its own methods, texts, and numbers that only the proof keeps -/
theorem kx_call0 {p : Program} {l : Launch} {e : Env} {R : Room} {s : State} {m : MethodId} {args : Array Value} {below : List Frame} {meth : Method} {c : Code} {H : Heap} {locs : List Loc} {cells slots mc ms pc : Nat} {Q : State → Prop} {ls : Array Slot} {rest st0 : List Value} {D : va_G} {A : Nat → Prop} {ws : va_W} {H0 : Heap} {Post : Option Value → va_W → Prop} {a : Array Value}
    (hr : va_Run p l e R s m args below meth c H locs cells slots mc ms (F0 m pc ls st0) rest (sq_Q D (va_A [] H.size) Post a) (va_A [] H.size)) (hP : va_P D vwCl ws H) (hS : va_S A H0 H locs) (hA : ∀ q, H0.size ≤ q → A q)
    (kk : ∀ (v : Option Value) (w1 : va_W) (H1 : Heap) (locs1 : List Loc), Post v w1 → va_P D vwCl w1 H1 → va_D (va_A [] H.size) w1 → va_P D vwCl ws H1 → va_S A H0 H1 locs1 → H.size ≤ H1.size → W p l e R s m args below meth c H1 locs1 (cells + mc) (slots + ms) Q (F0 m (pc + 3) ls (v.toList ++ rest))) : W p l e R s m args below meth c H locs cells slots Q (F0 m pc ls st0) := by
  have hf : ∀ q, va_A [] H.size q → A q := fun q hq => by
    rcases hq with ⟨k, x, hk⟩ | hq
    · cases hk
    · exact hA q (Nat.le_trans hS.1 hq)
  intro T hT X
  obtain ⟨v, st₀, t, T', L, h0, X', hL, e1, e2, ⟨⟨v2, w1, hp, hv, hP1, hD1⟩, hz, hk⟩, st⟩ := hr T hT X
  cases hv
  rw [h0] at hz hk
  rw [← e1] at hz hk hP1
  obtain ⟨t2, a1, b1⟩ := kk v w1 T'.heap (locs ++ L) hp hP1 hD1 (hP.kept (fun k x hx => hk x.1 (hP k x hx).lt (fun z => by
      rcases z with ⟨i, y, hi⟩ | z
      · cases hi
      · have hlt : x.1 < H.size := (hP k x hx).lt
        exact absurd z (by omega))))
    ⟨Nat.le_trans hS.1 hz, fun q g1 g2 => by rw [hk q (Nat.lt_of_lt_of_le g1 hS.1) (fun z => g2 (hf q z))]; exact hS.2.1 q g1 g2, fun q hq => by
      rcases List.mem_append.mp hq with h | h
      · exact hS.2.2 q h
      · exact hf _ (hL q h)⟩ hz T' rfl X'
  exact ⟨t2, st t2 a1, b1⟩
theorem sj_P0 {D : va_G} {H : Heap} : va_P D vwCl [] H := fun k q hk => by cases hk
theorem sj_D0 {A : Nat → Prop} : va_D A [] := ⟨fun i j p q hp => (by cases hp), fun k q hk => (by cases hk)⟩
theorem sj_low {s : State} {Xp : (Nat → Prop) → State → Heap → Prop} {A : Nat → Prop} {H : Heap} {locs : List Loc} (hE : sq_Ext Xp) (hX : Xp A s s.heap) (hS : va_S A s.heap H locs) (hA : ∀ q, s.heap.size ≤ q → A q) : Xp (va_A [] H.size) s H := hE.2.2 _ _ _ _ (hE.2.1 _ _ _ _ hX hS.2.1) (fun q hq => by
  rcases hq with ⟨k, x, hk⟩ | hq
  · cases hk
  · exact hA q (Nat.le_trans hS.1 hq))
section KXJ
variable {p : Program} {l : Launch} {e : Env} {R : Room} {s : State} {m : MethodId} {args : Array Value} {below : List Frame} {meth : Method} {c : Code} {Q : State → Prop} {D : va_G} {C4 : kx_C} {A : Nat → Prop} {cnt0 : Nat} {ad0 : Nat → Nat} {nL gx gs : Nat} {P : kx_P} {cc : ByteArray} {pc : Nat} {own : String}
def ki_ishr (n : Nat) : kx_T := fun _ K L st S => match st with
  | .inl y :: .inl x :: r => K n L (.inl (x >>> (y &&& 31)) :: r) S
  | _ => False
theorem ks_ishr (hx : p.tables.exec = Jvm.exec) (hb : c.code = cc) (d : decode cc pc = .ok (.ishr, 1)) : kx_Snd (kx_W p l e R s m args below meth c Q D C4 A cnt0 ad0 nL gx gs P) P pc (ki_ishr (pc + 1)) := by
  intro K hK L st S h ad H locs ls ha hc ho hst hL hP hD hS hl
  match st, h, hst with
  | .inl y :: .inl x :: r, h, hst => exact lv_ishr hx hb d (hK _ _ _ _ h ad H locs ls ha hc ho ⟨trivial, hst.2.2⟩ hL hP hD hS hl)
/-- the same world, whatever is kept beside it -/
def kx_gs (S0 S : kx_S) : Prop := S0.2.2 = none ∧ S.2.2 = none ∧ ∀ t o : Nat, kx_ix t o < kx_NC → S0.1 t o = S.1 t o ∧ S0.2.1 t o = S.2.1 t o
theorem kx_gs_cnt {S0 S : kx_S} (h : kx_gs S0 S) : kx_cnt S0 = kx_cnt S := by unfold kx_cnt; rw [h.1, h.2.1]
theorem kx_ws_gs {ad : Nat → Nat} {S0 S : kx_S} (h : kx_gs S0 S) : kx_ws C4 ad S0 = kx_ws C4 ad S := by
  have hc := kx_gs_cnt h
  unfold kx_ws
  rw [hc]
  refine List.map_congr_left fun q hq => ?_
  obtain ⟨⟨t, o⟩, k⟩ := q
  have hk := List.mem_zipIdx_iff_getElem?.mp hq
  rw [List.getElem?_take] at hk
  split at hk
  next hlt =>
    have h4 : kx_cells[k]? = some (t, o) := hk
    have h5 := kx_ix_of h4
    have h6 : kx_ix t o < kx_NC := by
      rw [h5]
      have := (List.getElem?_eq_some_iff.mp h4).1
      rw [kx_cells_len] at this
      exact this
    have e := kx_en_same (C4 := C4) (ad := ad) (h.2.2 t o h6).1 (h.2.2 t o h6).2 (h.1.trans h.2.1.symm)
    simp only [e]
  next => cases hk
def kx_gh (t : kx_T) : kx_T := fun P K L st S => ∃ S0, kx_gs S0 S ∧ t P K L st S0
theorem ks_gh {t : kx_T} (h : kx_Snd (kx_W p l e R s m args below meth c Q D C4 A cnt0 ad0 nL gx gs P) P pc t) : kx_Snd (kx_W p l e R s m args below meth c Q D C4 A cnt0 ad0 nL gx gs P) P pc (kx_gh t) := by
  intro K hK L st S h0 ad H locs ls ha hc ho hst hL hP hD hS hl
  obtain ⟨S0, hg, ht⟩ := h0
  have hcn := kx_gs_cnt hg
  have hw := h K hK L st S0 ht ad H locs ls ha (by rw [hcn]; exact hc) (by unfold kx_hv; rw [hg.1]; trivial) (by rw [hcn]; exact hst) (by rw [hcn]; exact hL) (by rw [kx_ws_gs hg]; exact hP) (by rw [kx_ws_gs hg]; exact hD) hS hl
  rw [hcn] at hw
  exact hw
/-- a method beside the world: what it is given, what it may answer -/
def ki_cl (k : Nat) (Rv : List kx_V → (Int32 → Prop) → Prop) (n : Nat) : kx_T := fun _ K L st S => ∃ T : Int32 → Prop, Rv (st.take k) T ∧ kx_catl (st.drop k) ≤ 8 ∧ ∀ v, T v → K n L (.inl v :: st.drop k) S
theorem ks_cl (X : kx_Ctx p R s m args c cc own nL D C4 A cnt0 P gx gs) {cB : ClassId} {Xp : (Nat → Prop) → State → Heap → Prop} (hE : sq_Ext Xp) (hKb : va_K D vwCl [(cB, .byte)] s) (hXp : Xp A s s.heap) {y : MethodName} {b : ByteArray} {nl k index : Nat} {ret : Option FieldType} {rm : Room} {Rv : List kx_V → (Int32 → Prop) → Prop}
    (hM : ∀ st T, Rv st T → st.length = k ∧ ∀ ad : Nat → Nat, ad kx_NC = ad0 kx_NC → ∃ Post : Option Value → va_W → Prop, sq_ok l y b nl ret rm D [(cB, .byte)] Xp (st.reverse.map (kx_cv ad)) [] Post 0 0 ∧ ∀ r w, Post r w → (∃ v, r = some (.int v) ∧ T v) ∧ w = []) (hrm : rm.cells = 0 ∧ rm.slots = 0) (hlk : Cond.methodLink own index y ∈ kx_tbl) (hstt : Cond.static y ∈ kx_tbl) (hcode : Cond.code y b nl ret ∈ kx_tbl) (hini : Cond.initialized y.cls ∈ kx_tbl) (hd : y.cls ≠ "java/lang/invoke/MethodHandle" ∧ y.cls ≠ "java/lang/invoke/VarHandle" ∧ (parseMethodDescriptor y.desc).map (fun d => d.parameters.length) = some k) (hR : rm.frames + 1 ≤ R.frames ∧ 8 + (nl + 11) + rm.locals ≤ R.locals) (d : decode cc pc = .ok (.invokestatic index, 3)) : kx_Snd (kx_W p l e R s m args below meth c Q D C4 A cnt0 ad0 nL gx gs P) P pc (ki_cl k Rv (pc + 3)) := by
  intro K hK L st S h ad H locs ls ha hc ho hst hL hP hD hS hl
  obtain ⟨T, hv, hcat, h⟩ := h
  obtain ⟨hlen, hok⟩ := hM _ _ hv
  obtain ⟨Post, hok, hpost⟩ := hok ad (ha _ (Or.inr rfl))
  refine kx_call0 (va_runS (As := (st.take k).reverse.map (kx_cv ad)) (rest := (st.drop k).map (kx_cv ad)) X.1 (hok H.size) (va_cwS k X.1.2.2.2.2 (kx_goodIn (by intro w hw; unfold va_wsS at hw; simp only [List.cons_append, List.nil_append, List.mem_cons] at hw; rcases hw with rfl | rfl | rfl | rfl | hw <;> assumption)) rfl hrm.1 hrm.2 hd hR) (sq_pre hE hKb sj_P0 (sj_D0 (A := A)) (sj_low hE hXp hS X.2.2.2.1)) rfl (by simpa using hlen) hl.1 ?_ (lv_room (by rw [kx_catl_eq]; exact hcat)) d (kx_rm0 X hc)) hP hS X.2.2.2.1 fun v w1 H1 locs1 hp _ _ hP1 hS1 _ => ?_
  · show st.map (kx_cv ad) = _
    rw [← List.map_reverse, List.reverse_reverse, ← List.map_append, List.take_append_drop]
  · obtain ⟨⟨x, rfl, hx⟩, rfl⟩ := hpost _ _ hp
    exact hK _ _ _ _ (h x hx) ad H1 locs1 ls ha hc ho ⟨trivial, kx_okl_drop k hst⟩ hL hP1 hD hS1 hl
/-- the same of a text's own method -/
theorem ks_clv (X : kx_Ctx p R s m args c cc own nL D C4 A cnt0 P gx gs) {cB : ClassId} {Xp : (Nat → Prop) → State → Heap → Prop} (hE : sq_Ext Xp) (hKb : va_K D vwCl [(cB, .byte)] s) (hXp : Xp A s s.heap) {y : MethodName} {b : ByteArray} {nl k index : Nat} {ret : Option FieldType} {rm : Room} {Rv : List kx_V → (Int32 → Prop) → Prop} (hO : va_O y.cls (ad0 kx_NC) A s s.heap)
    (hM : ∀ st T, Rv st T → (∃ o, st = st.take k ++ [.inr (.inr (some (999, o)))]) ∧ st.length = k + 1 ∧ ∀ ad : Nat → Nat, ad kx_NC = ad0 kx_NC → ∃ Post : Option Value → va_W → Prop, sq_ok l y b nl ret rm D [(cB, .byte)] Xp (.ref (ad kx_NC) :: (st.take k).reverse.map (kx_cv ad)) [] Post 0 0 ∧ ∀ r w, Post r w → (∃ v, r = some (.int v) ∧ T v) ∧ w = []) (hrm : rm.cells = 0 ∧ rm.slots = 0) (hlk : Cond.methodLink own index y ∈ kx_tbl) (hins : Cond.instanceMethod y ∈ kx_tbl) (hsel : Cond.selects y.cls y y ∈ kx_tbl) (hcode : Cond.code y b nl ret ∈ kx_tbl) (hini : Cond.initialized y.cls ∈ kx_tbl) (hd : y.cls ≠ "java/lang/invoke/MethodHandle" ∧ y.cls ≠ "java/lang/invoke/VarHandle" ∧ (parseMethodDescriptor y.desc).map (fun d => d.parameters.length) = some k) (hR : rm.frames + 1 ≤ R.frames ∧ 8 + (nl + 11) + rm.locals ≤ R.locals) (d : decode cc pc = .ok (.invokevirtual index, 3)) : kx_Snd (kx_W p l e R s m args below meth c Q D C4 A cnt0 ad0 nL gx gs P) P pc (ki_cl (k + 1) Rv (pc + 3)) := by
  intro K hK L st S h ad H locs ls ha hc ho hst hL hP hD hS hl
  obtain ⟨T, hv, hcat, h⟩ := h
  obtain ⟨⟨o, ho9⟩, hlen, hok⟩ := hM _ _ hv
  obtain ⟨Post, hok, hpost⟩ := hok ad (ha _ (Or.inr rfl))
  have had : ad kx_NC = ad0 kx_NC := ha _ (Or.inr rfl)
  have hpre := sq_pre (av := .ref (ad kx_NC) :: ((st.take (k + 1)).take k).reverse.map (kx_cv ad)) hE hKb sj_P0 (sj_D0 (A := A)) (sj_low hE hXp hS X.2.2.2.1)
  refine kx_call0 (va_runV (b := ad kx_NC) (C := y.cls) (As := ((st.take (k + 1)).take k).reverse.map (kx_cv ad)) (rest := (st.drop (k + 1)).map (kx_cv ad)) X.1 (hok H.size) (cwV k X.1.2.2.2.2 (kx_goodIn (by intro w hw; unfold wsV at hw; simp only [List.cons_append, List.nil_append, List.mem_cons] at hw; rcases hw with rfl | rfl | rfl | rfl | rfl | hw <;> assumption)) rfl hrm.1 hrm.2 ⟨rfl, hd⟩ hR) ⟨hpre.1, by rw [had]; exact vk_rc hO hS, hpre.2⟩ rfl (by rw [List.length_map, List.length_reverse, List.length_take]; omega) hl.1 ?_ (lv_room (by rw [kx_catl_eq]; exact hcat)) d (kx_rm0 X hc)) hP hS X.2.2.2.1 fun v w1 H1 locs1 hp _ _ hP1 hS1 _ => ?_
  · show st.map (kx_cv ad) = _
    have e1 : st = ((st.take (k + 1)).take k ++ [.inr (.inr (some (999, o)))]) ++ st.drop (k + 1) := by rw [← ho9, List.take_append_drop]
    have e2 : kx_cv ad (.inr (.inr (some (999, o)))) = .ref (ad kx_NC) := by
      show Value.ref (ad (kx_ix 999 o)) = _
      rw [kx_ix_scr]
    conv => lhs; rw [e1]
    rw [← List.map_reverse, List.reverse_reverse, List.map_append, List.map_append, List.map_cons, e2, List.append_assoc]
    rfl
  · obtain ⟨⟨x, rfl, hx⟩, rfl⟩ := hpost _ _ hp
    exact hK _ _ _ _ (h x hx) ad H1 locs1 ls ha hc ho ⟨trivial, kx_okl_drop _ hst⟩ hL hP1 hD hS1 hl
end KXJ
/-- a method with a world, that reads something beside it; it may make cells that are forgotten -/
def kx_B2 (cB : ClassId) (Xp : (Nat → Prop) → State → Heap → Prop) (D : va_G) (C4 : kx_C) (ad : Nat → Nat) (sz : Nat) (S : kx_S) : State → Prop := fun U => kx_B D C4 ad sz S U ∧ va_K D vwCl [(cB, .byte)] U ∧ Xp (va_A (kx_ws C4 ad S) sz) U U.heap
/-- an end of which only something is said -/
def kx_Q2 (D : va_G) (C4 : kx_C) (ad : Nat → Nat) (S : kx_S) (F : Option kx_V → kx_S → Prop) (A1 : Nat → Prop) : Array Value → State → Outcome → State → Prop := fun _ st oc t => (∃ (r : Option kx_V) (S' : kx_S) (ad' : Nat → Nat), F r S' ∧ S'.2.2 = none ∧ kx_agree (kx_cnt S) ad ad' ∧ oc = .returned (r.map (kx_cv ad')) ∧ kx_okr kx_NC r ∧ va_P D vwCl (kx_ws C4 ad' S') t.heap ∧ va_D A1 (kx_ws C4 ad' S')) ∧ va_F A1 st t
theorem kx_cnt_none {S : kx_S} (h : S.2.2 = none) : kx_cnt S = kx_NC := by unfold kx_cnt; rw [h]
theorem kx_hv_none {S : kx_S} (h : S.2.2 = none) : kx_hv S := by unfold kx_hv; rw [h]; trivial
theorem kx_call2 {p : Program} {l : Launch} {e : Env} {R : Room} {s : State} {m : MethodId} {args : Array Value} {below : List Frame} {meth : Method} {c : Code} {Q : State → Prop} {D : va_G} {C4 : kx_C} {A : Nat → Prop} {pc : Nat} {H : Heap} {locs : List Loc} {cells slots mc ms : Nat} {ls : Array Slot} {st0 rest : List Value} {ad : Nat → Nat} {S : kx_S} {F : Option kx_V → kx_S → Prop} {A1 : Nat → Prop} {H0 : Heap} {a : Array Value}
    (hr : va_Run p l e R s m args below meth c H locs cells slots mc ms (F0 m pc ls st0) rest (kx_Q2 D C4 ad S F A1 a) A1) (hS : va_S A H0 H locs) (hf : ∀ q, A1 q → A q)
    (kk : ∀ (r : Option kx_V) (S' : kx_S) (ad' : Nat → Nat) (H1 : Heap) (locs1 : List Loc), F r S' → S'.2.2 = none → kx_agree (kx_cnt S) ad ad' → kx_okr kx_NC r → va_P D vwCl (kx_ws C4 ad' S') H1 → va_D A (kx_ws C4 ad' S') → va_S A H0 H1 locs1 → W p l e R s m args below meth c H1 locs1 (cells + mc) (slots + ms) Q (F0 m (pc + 3) ls ((r.map (kx_cv ad')).toList ++ rest))) : W p l e R s m args below meth c H locs cells slots Q (F0 m pc ls st0) := by
  intro T hT X
  obtain ⟨v, st₀, t, T', L, h0, X', hL, e1, e2, ⟨⟨r, S', ad', k1, k2, h1, hv, h2, h4, h5⟩, hz, hk⟩, st⟩ := hr T hT X
  cases hv
  rw [h0] at hz hk
  obtain ⟨t2, a1, b1⟩ := kk r S' ad' T'.heap (locs ++ L) k1 k2 h1 h2 (by rw [e1]; exact h4) (h5.weaken fun _ _ _ z => hf _ z)
    ⟨Nat.le_trans hS.1 (by rw [e1]; exact hz), fun q g1 g2 => by rw [e1, hk q (Nat.lt_of_lt_of_le g1 hS.1) (fun z => g2 (hf q z))]; exact hS.2.1 q g1 g2, fun q hq => by
      rcases List.mem_append.mp hq with h | h
      · exact hS.2.2 q h
      · exact hf _ (hL q h)⟩ T' rfl X'
  exact ⟨t2, st t2 a1, b1⟩
def kx_Rt2 (below : List Frame) (args : Array Value) (s : State) (meth : Method) (Q : State → Prop) (D : va_G) (C4 : kx_C) (A : Nat → Prop) (cnt0 : Nat) (ad0 : Nat → Nat) (P : kx_P) (gx gs : Nat) : Prop := ∃ (S0 : kx_S) (F : Option kx_V → kx_S → Prop), Q = MQ below (kx_Q2 D C4 ad0 S0 F A) args s (kx_NC - cnt0 + gx) (kx_sz kx_NC - kx_sz cnt0 + gs) A ∧ P = (kx_NC, fun r S => F r S ∧ S.2.2 = none) ∧ cnt0 = kx_cnt S0 ∧ meth.locks = false
section KXR2
variable {p : Program} {l : Launch} {e : Env} {R : Room} {s : State} {m : MethodId} {args : Array Value} {below : List Frame} {meth : Method} {c : Code} {Q : State → Prop} {D : va_G} {C4 : kx_C} {A : Nat → Prop} {cnt0 : Nat} {ad0 : Nat → Nat} {nL gx gs : Nat} {P : kx_P} {cc : ByteArray} {pc : Nat}
theorem ks_iret2 (Z : kx_Rt2 below args s meth Q D C4 A cnt0 ad0 P gx gs) (hx : p.tables.exec = Jvm.exec) (hb : c.code = cc) (hr : meth.sig.returnType = some .int) (d : decode cc pc = .ok (.ireturn, 1)) : kx_Snd (kx_W p l e R s m args below meth c Q D C4 A cnt0 ad0 nL gx gs P) P pc ki_iret := by
  obtain ⟨S0, F, rfl, rfl, rfl, hlocks⟩ := Z
  intro K hK L st S h ad H locs ls ha hc ho hst hL hP hD hS hl
  match st, h, hst with
  | [.inl x], h, hst =>
    obtain ⟨h1, h2⟩ := h
    rw [kx_cnt_none h2]
    exact W.iret (v := x) hx hb hr (fun t ht hW => ⟨⟨some (kx_i x), S, ad, h1, h2, ha, rfl, trivial, by rw [ht]; exact hP, hD⟩, hS.F ht⟩) hS.2.2 d
theorem ks_aret2 {C : String} (Z : kx_Rt2 below args s meth Q D C4 A cnt0 ad0 P gx gs) (hx : p.tables.exec = Jvm.exec) (hb : c.code = cc) (hr : meth.sig.returnType = some (.object C)) (d : decode cc pc = .ok (.areturn, 1)) : kx_Snd (kx_W p l e R s m args below meth c Q D C4 A cnt0 ad0 nL gx gs P) P pc ki_aret := by
  obtain ⟨S0, F, rfl, rfl, rfl, hlocks⟩ := Z
  intro K hK L st S h ad H locs ls ha hc ho hst hL hP hD hS hl
  match st, h, hst with
  | [.inr (.inr z)], h, hst =>
    obtain ⟨h1, h2⟩ := h
    have hcn := kx_cnt_none h2
    rw [hcn] at hst ⊢
    exact W.aret (v := kx_cv ad (.inr (.inr z))) hx hb hr (Or.inl ⟨_, rfl⟩) (by
      rcases z with _ | q
      · exact Or.inl rfl
      · exact Or.inr ⟨_, rfl⟩) (fun t ht hW => ⟨⟨some (.inr (.inr z)), S, ad, h1, h2, ha, rfl, hst.1, by rw [ht]; exact hP, hD⟩, hS.F ht⟩) hS.2.2 d
end KXR2
abbrev kx_Sq : Type := List kx_V → kx_S → (Option kx_V → kx_S → Prop) → Prop
def kx_ok2 (l : Launch) (y : MethodName) (ws : List Cond) (rm : Room) (Sp : kx_Sq) (nl gx gs : Nat) (Xp : (Nat → Prop) → State → Heap → Prop) (b0 : Nat) : Prop := ∀ (cB : ClassId) (D : va_G) (C4 : kx_C) (ad : Nat → Nat) (sz mc ms : Nat) (av : List kx_V) (S : kx_S) (F : Option kx_V → kx_S → Prop), Sp av S F → kx_catl av ≤ nl → kx_okl (kx_cnt S) av → kx_hv S → kx_cnt S ≤ kx_NC → mc = kx_NC - kx_cnt S + gx → ms = kx_sz kx_NC - kx_sz (kx_cnt S) + gs → mc ≤ rm.cells ∧ ms ≤ rm.slots → ad kx_NC = b0 →
  Met l y ws rm (va_Pc (av.map (kx_cv ad)) (kx_B2 cB Xp D C4 ad sz S)) (kx_Q2 D C4 ad S F (va_A (kx_ws C4 ad S) sz)) mc ms (va_A (kx_ws C4 ad S) sz)
theorem kx_blind2 {cB : ClassId} {Xp : (Nat → Prop) → State → Heap → Prop} {D : va_G} {C4 : kx_C} {ad : Nat → Nat} {sz : Nat} {S : kx_S} {av : List Value} (hE : sq_Ext Xp) : FrameBlind (va_Pc av (kx_B2 cB Xp D C4 ad sz S)) := fun a U g mk q => by
  obtain ⟨q0, q1, q2, q3⟩ := q
  exact ⟨q0, (kx_blind (av := av) a U g mk ⟨q0, q1⟩).2, va_K.moved (u := U) (U := U.calling g mk a) (Vm.Alike.refl U.vm) q2, hE.1 _ U (U.calling g mk a) _ (Or.inr rfl) q3⟩
theorem kx_pre2 {cB : ClassId} {Xp : (Nat → Prop) → State → Heap → Prop} {D : va_G} {C4 : kx_C} {A : Nat → Prop} {s : State} {H : Heap} {ad : Nat → Nat} {S : kx_S} {av : List kx_V} (hE : sq_Ext Xp) (hK9 : va_K D vwCl (kx_tys C4) s) (hN : kx_nst s) (hP : va_P D vwCl (kx_ws C4 ad S) H) (hD : va_D A (kx_ws C4 ad S)) (hKb : va_K D vwCl [(cB, .byte)] s) (hX : Xp (va_A (kx_ws C4 ad S) H.size) s H) : PreS s H (va_Pc (av.map (kx_cv ad)) (kx_B2 cB Xp D C4 ad H.size S)) (av.map (kx_cv ad)) :=
  ⟨kx_blind2 hE, fun U hU hW => ⟨rfl, ((kx_pre (av := av) hK9 hN hP hD).2 U hU hW).2, va_K.moved hW.alike hKb, by rw [hU]; exact hE.1 _ _ _ _ (Or.inl hW) hX⟩⟩
theorem kx_met2 {l : Launch} {y : MethodName} {b : ByteArray} {nl gx gs b0 : Nat} {ret : Option FieldType} {rm : Room} {Sp : kx_Sq} {Xp : (Nat → Prop) → State → Heap → Prop} (hy : plainFor y = true)
    (h : ∀ (p : Program) (e : Env) (s : State) (m : MethodId) (args : Array Value) (below : List Frame) (meth : Method) (c : Code) (cB : ClassId) (Q : State → Prop) (D : va_G) (C4 : kx_C) (A : Nat → Prop) (ad0 : Nat → Nat) (av : List kx_V) (S : kx_S) (F : Option kx_V → kx_S → Prop) (P : kx_P), Sp av S F → P = (kx_NC, fun r' S'' => F r' S'' ∧ S''.2.2 = none) → kx_Ctx p rm s m args c b y.cls nl D C4 A (kx_cnt S) P gx gs → kx_Ctx p rm s m args c b y.cls nl D C4 A (kx_cnt S) P 0 0 → va_K D vwCl [(cB, .byte)] s → Xp A s s.heap → ad0 kx_NC = b0 → kx_Rt2 below args s meth Q D C4 A (kx_cnt S) ad0 P gx gs → meth.sig.returnType = ret → meth.name = y.name → kx_W p l e rm s m args below meth c Q D C4 A (kx_cnt S) ad0 nl 0 0 P 0 (kx_l0 av nl) [] S) : kx_ok2 l y (kx_wd y b nl ret) rm Sp nl gx gs Xp b0 := by
  intro cB D C4 ad sz mc ms av S F hsp hcl hok hv hle hmc hms hrm had
  refine va_MetF (cc := b) (maxL := nl) (ret := ret) hy rfl ?_
  intro p e s m args below meth c s₁ B hml hvv
  obtain ⟨rfl, ⟨hsz, hP, hK, hD0, hN⟩, hKb, hXp⟩ := hvv
  subst hsz
  have hts := atoms_spec (ws := kx_wd y b nl ret) B.pre
  have hin : meth.name = y.name := (name_of_methodNamed B.named B.method).1
  have hD := hD0.self (sz := s.heap.size)
  subst hmc
  subst hms
  have X : kx_Ctx p rm s m ((av.map (kx_cv ad)).toArray) c b y.cls nl D C4 (va_A (kx_ws C4 ad S) s.heap.size) (kx_cnt S) (kx_NC, fun r' S'' => F r' S'' ∧ S''.2.2 = none) gx gs := ⟨⟨B.exec, B.bytes, hml, findClass_of_methodNamed B.named, fun w hw => hts w (List.mem_cons_of_mem _ hw)⟩, hK, hN, fun q hq => Or.inr hq, hrm.1, hrm.2, Nat.le_refl _⟩
  have X0 : kx_Ctx p rm s m ((av.map (kx_cv ad)).toArray) c b y.cls nl D C4 (va_A (kx_ws C4 ad S) s.heap.size) (kx_cnt S) (kx_NC, fun r' S'' => F r' S'' ∧ S''.2.2 = none) 0 0 := ⟨X.1, X.2.1, X.2.2.1, X.2.2.2.1, Nat.le_trans (Nat.le_add_right _ _) X.2.2.2.2.1, Nat.le_trans (Nat.le_add_right _ _) X.2.2.2.2.2.1, Nat.le_refl _⟩
  have Z : kx_Rt2 below ((av.map (kx_cv ad)).toArray) s meth (MQ below (kx_Q2 D C4 ad S F (va_A (kx_ws C4 ad S) s.heap.size)) ((av.map (kx_cv ad)).toArray) s (kx_NC - kx_cnt S + gx) (kx_sz kx_NC - kx_sz (kx_cnt S) + gs) (va_A (kx_ws C4 ad S) s.heap.size)) D C4 (va_A (kx_ws C4 ad S) s.heap.size) (kx_cnt S) ad (kx_NC, fun r' S'' => F r' S'' ∧ S''.2.2 = none) gx gs := ⟨S, F, rfl, rfl, rfl, B.notSynchronized⟩
  have hw := h p e s m _ below meth c cB _ D C4 _ ad av S F _ hsp rfl X X0 hKb hXp had Z B.returns hin
  have hl := lv_entry (av.map (kx_cv ad)) (n := nl) (by rw [kx_catl_sl]; exact hcl)
  rw [lg_entry_eq]
  have hw2 := hw ad s.heap [] _ kx_agree.rf ⟨Nat.le_refl _, hle⟩ hv trivial (fun i v hi => kx_okl_mem hok v (kx_l0_get ad av nl i i v (by simpa using hi)).2) hP hD va_S.rf ⟨hl.1, hl.2.1, fun i v hi => hl.2.2 _ (by have := (kx_l0_get ad av nl 0 i v hi).1; simpa using this)⟩
  rw [Nat.sub_self, Nat.sub_self] at hw2
  exact hw2

/-! methods of the JDK, walked by hand: their contracts, calls of them, their ends -/
def sq_Ext (X : (Nat → Prop) → State → Heap → Prop) : Prop := (∀ (A : Nat → Prop) (u U : State) (H : Heap), (u.WarmedH U.vm ∨ U.vm = u.vm) → X A u H → X A U H) ∧ (∀ (A : Nat → Prop) (U : State) (H H1 : Heap), X A U H → (∀ a : Nat, a < H.size → ¬ A a → H1[a]? = H[a]?) → X A U H1) ∧ (∀ (A B : Nat → Prop) (U : State) (H : Heap), X A U H → (∀ q, B q → A q) → X B U H)
theorem sq_al {u U : State} (h : u.WarmedH U.vm ∨ U.vm = u.vm) : u.vm.Alike U.vm := by
  rcases h with h | h
  · exact h.alike
  · rw [h]; exact Vm.Alike.refl _
def sq_B (D : va_G) (tys : List (ClassId × FieldType)) (X : (Nat → Prop) → State → Heap → Prop) (sz : Nat) (ws : va_W) : State → Prop := fun U => U.heap.size = sz ∧ va_P D vwCl ws U.heap ∧ va_K D vwCl tys U ∧ va_D (fun _ => True) ws ∧ X (va_A ws sz) U U.heap
def sq_Q (D : va_G) (A1 : Nat → Prop) (Post : Option Value → va_W → Prop) : Array Value → State → Outcome → State → Prop := fun _ st oc t => (∃ (v : Option Value) (ws' : va_W), Post v ws' ∧ oc = .returned v ∧ va_P D vwCl ws' t.heap ∧ va_D A1 ws') ∧ va_F A1 st t
def sq_ok (l : Launch) (y : MethodName) (b : ByteArray) (nl : Nat) (ret : Option FieldType) (rm : Room) (D : va_G) (tys : List (ClassId × FieldType)) (X : (Nat → Prop) → State → Heap → Prop) (av : List Value) (ws : va_W) (Post : Option Value → va_W → Prop) (mc ms : Nat) : Prop := ∀ sz : Nat, Met l y (kx_wd y b nl ret) rm (va_Pc av (sq_B D tys X sz ws)) (sq_Q D (va_A ws sz) Post) mc ms (va_A ws sz)
theorem sq_blind {D : va_G} {tys : List (ClassId × FieldType)} {X : (Nat → Prop) → State → Heap → Prop} {sz : Nat} {ws : va_W} {av : List Value} (hE : sq_Ext X) : FrameBlind (va_Pc av (sq_B D tys X sz ws)) := fun a U g mk q => by
  obtain ⟨q0, q1, qP, qK, qD, qX⟩ := q
  exact ⟨q0, q1, qP, va_K.moved (u := U) (U := U.calling g mk a) (Vm.Alike.refl U.vm) qK, qD, hE.1 _ U (U.calling g mk a) _ (Or.inr rfl) qX⟩
theorem sq_pre {s : State} {D : va_G} {tys : List (ClassId × FieldType)} {X : (Nat → Prop) → State → Heap → Prop} {wc : va_W} {av : List Value} {A : Nat → Prop} {H : Heap} (hE : sq_Ext X) (hK : va_K D vwCl tys s) (hP : va_P D vwCl wc H) (hD : va_D A wc) (hX : X (va_A wc H.size) s H) : PreS s H (va_Pc av (sq_B D tys X H.size wc)) av :=
  ⟨sq_blind hE, fun U hU hW => ⟨rfl, by rw [hU], by rw [hU]; exact hP, va_K.moved hW.alike hK, hD.weaken (fun _ _ _ _ => trivial), by rw [hU]; exact hE.1 _ _ _ _ (Or.inl hW) hX⟩⟩
theorem sq_down {s : State} {X : (Nat → Prop) → State → Heap → Prop} {wc : va_W} {A : Nat → Prop} {H : Heap} {locs : List Loc} (hE : sq_Ext X) (hX : X A s s.heap) (hS : va_S A s.heap H locs) (hF : ∀ q, va_A wc H.size q → A q) : X (va_A wc H.size) s H := hE.2.2 _ _ _ _ (hE.2.1 _ _ _ _ hX hS.2.1) hF
theorem sq_fm {ws wc : va_W} {isC : List Nat} (h : isC.map (fun i => ws[i]?) = wc.map some) : isC.filterMap (fun i => ws[i]?) = wc := by
  have e : isC.filterMap (fun i => ws[i]?) = (isC.map (fun i => ws[i]?)).filterMap id := by rw [List.filterMap_map]; rfl
  rw [e, h, List.filterMap_map]
  have e2 : (id ∘ some : Nat × va_E → Option (Nat × va_E)) = some := rfl
  rw [e2, List.filterMap_some]
/-- a private method of a class above the receiver's -/
theorem sq_selP {y z : MethodName} {C : String} {s : State} {args : Array Value} (hcls : y.cls = z.cls) (hy : y.cls ≠ "java/lang/invoke/MethodHandle" ∧ y.cls ≠ "java/lang/invoke/VarHandle") (hz : (Cond.selects C z z).before args s = true) (hpriv : (Cond.privateMethod y).before args s = true) (hinst : (Cond.instanceMethod y).before args s = true) : (Cond.selects C y y).before args s = true := by
  obtain ⟨c, r0, m0, hc, -, hn0, -, mk0, hk0, hni⟩ := Cond.selects_spec hz
  obtain ⟨mk, methM, hnamed, hmethM, -, -⟩ := Cond.instanceMethod_spec hinst
  have hfound : s.methodFound? y.cls y.name y.desc = some mk := State.methodFound?_of_named hnamed hy
  have hcl : mk.cls = m0.cls := Option.some.inj ((findClass_of_methodNamed hnamed).symm.trans (by rw [hcls]; exact findClass_of_methodNamed hn0))
  have hsel : selectMethod {} s.vm c mk = .method mk := selectMethod_private hmethM (Cond.privateMethod_at hpriv mk methM hnamed hmethM)
  simp only [Cond.before, Cond.holds, Cond.value, hc, hfound, hnamed, hsel, hcl, hk0]
  simp
  exact hni
theorem sq_CU {R : Room} {s : State} {args : Array Value} {own C owner : String} {index : Nat} {x y : MethodName} {b : ByteArray} {nl : Nat} {ret : Option FieldType} {rm : Room} {mc ms n : Nat} (hrm : rm.cells = mc ∧ rm.slots = ms) (hlk : Cond.methodLink own index x ∈ kx_tbl) (hsm : Cond.sameMethod x.cls owner x.name x.desc ∈ kx_tbl) (hins : Cond.instanceMethod y ∈ kx_tbl) (hsel : (Cond.selects C x y).before args s = true) (hcode : Cond.code y b nl ret ∈ kx_tbl) (hini : Cond.initialized y.cls ∈ kx_tbl) (hyx : y = ⟨owner, x.name, x.desc⟩) (hd : owner ≠ "java/lang/invoke/MethodHandle" ∧ owner ≠ "java/lang/invoke/VarHandle" ∧ (parseMethodDescriptor x.desc).map (fun d => d.parameters.length) = some n) (hR : rm.frames + 1 ≤ R.frames ∧ 8 + (nl + 11) + rm.locals ≤ R.locals) (hts : ∀ w ∈ kx_tbl, w.before args s = true) : va_CU R s args own C owner index x y b nl ret (kx_wd y b nl ret) rm mc ms n := by
  have hG : GoodIn kx_tbl (kx_wd y b nl ret) := kx_goodIn (by intro w hw; simp only [List.mem_cons] at hw; rcases hw with rfl | hw <;> assumption)
  refine ⟨⟨hrm.1, hrm.2, hR.1, hR.2, pay_in hts hG, List.mem_cons_self⟩, hts _ hcode, hts _ hini, ⟨hd.1, hd.2.1⟩, fun sig h => ?_, hts _ hlk, hts _ hsm, by rw [← hyx]; exact va_Decl.of (hts _ hins) (hts _ hcode), hsel, hts _ hins⟩
  have h2 := hd.2.2
  rw [h] at h2
  exact (Option.some.inj h2).symm
section SQ
variable {p : Program} {l : Launch} {e : Env} {R : Room} {s : State} {m : MethodId} {args : Array Value} {below : List Frame} {meth : Method} {c : Code} {H : Heap} {locs : List Loc} {cells slots : Nat} {Q : State → Prop} {cc : ByteArray} {pc : Nat} {ls : Array Slot} {rest st0 : List Value} {D : va_G} {A : Nat → Prop} {ws : va_W} {H0 : Heap} {mc ms nL : Nat} {own : String} {tys : List (ClassId × FieldType)} {X : (Nat → Prop) → State → Heap → Prop} {Post : Option Value → va_W → Prop} {a : Array Value}
theorem sq_call {wc wr : va_W} (isC isR : List Nat) (hC : isC.map (fun i => ws[i]?) = wc.map some) (hR : isR.map (fun i => ws[i]?) = wr.map some) (hn : va_nd isR = true) (hdis : ∀ i ∈ isR, i ∉ isC)
    (hP : va_P D vwCl ws H) (hD : va_D A ws) (hS : va_S A H0 H locs) (hA : ∀ q, H0.size ≤ q → A q)
    (hr : va_Run p l e R s m args below meth c H locs cells slots mc ms (F0 m pc ls st0) rest (sq_Q D (va_A wc H.size) Post a) (va_A wc H.size))
    (kk : ∀ (v : Option Value) (w1 : va_W) (H1 : Heap) (locs1 : List Loc), Post v w1 → va_P D vwCl (wr ++ w1) H1 → va_D A (wr ++ w1) → va_S A H0 H1 locs1 → W p l e R s m args below meth c H1 locs1 (cells + mc) (slots + ms) Q (F0 m (pc + 3) ls (v.toList ++ rest))) : W p l e R s m args below meth c H locs cells slots Q (F0 m pc ls st0) := by
  have hf := va_free (wc := wc) hD hS hA isC hC
  intro T hT X
  obtain ⟨v, st₀, t, T', L, h0, X', hL, e1, e2, ⟨⟨v2, w1, hp, hv, hP1, hD1⟩, hz, hk⟩, st⟩ := hr T hT X
  cases hv
  rw [h0] at hz hk
  rw [← e1] at hz hk hP1
  obtain ⟨hP2, hD2⟩ := va_join (wr := wr) (w1 := w1) hP hD isC isR hC hR hn hdis hk hf hP1 hD1
  obtain ⟨t2, a1, b1⟩ := kk v w1 T'.heap (locs ++ L) hp hP2 hD2
    ⟨Nat.le_trans hS.1 hz, fun q g1 g2 => by rw [hk q (Nat.lt_of_lt_of_le g1 hS.1) (fun z => g2 (hf q z))]; exact hS.2.1 q g1 g2, fun q hq => by
      rcases List.mem_append.mp hq with h | h
      · exact hS.2.2 q h
      · exact hf _ (hL q h)⟩ T' rfl X'
  exact ⟨t2, st t2 a1, b1⟩
/-- a static method -/
theorem sq_cs (S : CallFix p m c cc nL s args kx_tbl own) {y : MethodName} {b : ByteArray} {nl n index : Nat} {ret : Option FieldType} {rm : Room} {wc wr : va_W} {av rest : List Value} (hM : sq_ok l y b nl ret rm D tys X av wc Post mc ms) (hrm : rm.cells = mc ∧ rm.slots = ms) (hlk : Cond.methodLink own index y ∈ kx_tbl) (hstt : Cond.static y ∈ kx_tbl) (hcode : Cond.code y b nl ret ∈ kx_tbl) (hini : Cond.initialized y.cls ∈ kx_tbl) (hd : y.cls ≠ "java/lang/invoke/MethodHandle" ∧ y.cls ≠ "java/lang/invoke/VarHandle" ∧ (parseMethodDescriptor y.desc).map (fun d => d.parameters.length) = some n) (hlen : av.length = n)
    (isC isR : List Nat) (hC : isC.map (fun i => ws[i]?) = wc.map some) (hnC : va_nd isC = true) (hR : isR.map (fun i => ws[i]?) = wr.map some) (hn : va_nd isR = true) (hdis : ∀ i ∈ isR, i ∉ isC)
    (hE : sq_Ext X) (hK : va_K D vwCl tys s) (hP : va_P D vwCl ws H) (hD : va_D A ws) (hS : va_S A s.heap H locs) (hA : ∀ q, s.heap.size ≤ q → A q) (hX : X (va_A wc H.size) s H) (hls : ls.size = nL) (hst : st0 = av.reverse ++ rest) (hcat : (rest.map fun v => v.category).sum ≤ 8) (hRm : rm.frames + 1 ≤ R.frames ∧ 8 + (nl + 11) + rm.locals ≤ R.locals) (hf : cells + mc ≤ R.cells ∧ slots + ms ≤ R.slots) (d : decode cc pc = .ok (.invokestatic index, 3))
    (kk : ∀ (v : Option Value) (w1 : va_W) (H1 : Heap) (locs1 : List Loc), Post v w1 → va_P D vwCl (wr ++ w1) H1 → va_D A (wr ++ w1) → va_S A s.heap H1 locs1 → W p l e R s m args below meth c H1 locs1 (cells + mc) (slots + ms) Q (F0 m (pc + 3) ls (v.toList ++ rest))) : W p l e R s m args below meth c H locs cells slots Q (F0 m pc ls st0) :=
  sq_call isC isR hC hR hn hdis hP hD hS hA (va_runS (As := av) (rest := rest) S (hM H.size) (va_cwS n S.2.2.2.2 (kx_goodIn (by intro w hw; unfold va_wsS at hw; simp only [List.cons_append, List.nil_append, List.mem_cons] at hw; rcases hw with rfl | rfl | rfl | rfl | hw <;> assumption)) rfl hrm.1 hrm.2 hd hRm) (sq_pre hE hK (hP.sub isC (sq_fm hC)) (hD.sub isC hnC hC) hX) rfl hlen hls hst (lv_room hcat) d hf) kk
/-- an instance method of the receiver's own class -/
theorem sq_cv (S : CallFix p m c cc nL s args kx_tbl own) {y : MethodName} {b : ByteArray} {nl n index : Nat} {ret : Option FieldType} {rm : Room} {wc wr : va_W} {q : Nat} {av rest : List Value} (hM : sq_ok l y b nl ret rm D tys X (.ref q :: av) wc Post mc ms) (hrm : rm.cells = mc ∧ rm.slots = ms) (hlk : Cond.methodLink own index y ∈ kx_tbl) (hins : Cond.instanceMethod y ∈ kx_tbl) (hsel : Cond.selects y.cls y y ∈ kx_tbl) (hcode : Cond.code y b nl ret ∈ kx_tbl) (hini : Cond.initialized y.cls ∈ kx_tbl) (hd : y.cls ≠ "java/lang/invoke/MethodHandle" ∧ y.cls ≠ "java/lang/invoke/VarHandle" ∧ (parseMethodDescriptor y.desc).map (fun d => d.parameters.length) = some n) (hlen : av.length = n)
    (hrv : ∃ cell : Cell, H[q]? = some cell ∧ cell.vm.isStatics = false ∧ s.vm.findClass y.cls = some cell.cls)
    (isC isR : List Nat) (hC : isC.map (fun i => ws[i]?) = wc.map some) (hnC : va_nd isC = true) (hR : isR.map (fun i => ws[i]?) = wr.map some) (hn : va_nd isR = true) (hdis : ∀ i ∈ isR, i ∉ isC)
    (hE : sq_Ext X) (hK : va_K D vwCl tys s) (hP : va_P D vwCl ws H) (hD : va_D A ws) (hS : va_S A s.heap H locs) (hA : ∀ q, s.heap.size ≤ q → A q) (hX : X (va_A wc H.size) s H) (hls : ls.size = nL) (hst : st0 = av.reverse ++ .ref q :: rest) (hcat : (rest.map fun v => v.category).sum ≤ 8) (hRm : rm.frames + 1 ≤ R.frames ∧ 8 + (nl + 11) + rm.locals ≤ R.locals) (hf : cells + mc ≤ R.cells ∧ slots + ms ≤ R.slots) (d : decode cc pc = .ok (.invokevirtual index, 3))
    (kk : ∀ (v : Option Value) (w1 : va_W) (H1 : Heap) (locs1 : List Loc), Post v w1 → va_P D vwCl (wr ++ w1) H1 → va_D A (wr ++ w1) → va_S A s.heap H1 locs1 → W p l e R s m args below meth c H1 locs1 (cells + mc) (slots + ms) Q (F0 m (pc + 3) ls (v.toList ++ rest))) : W p l e R s m args below meth c H locs cells slots Q (F0 m pc ls st0) := by
  have hpre := sq_pre (av := .ref q :: av) hE hK (hP.sub isC (sq_fm hC)) (hD.sub isC hnC hC) hX
  exact sq_call isC isR hC hR hn hdis hP hD hS hA (va_runV (b := q) (C := y.cls) (As := av) (rest := rest) S (hM H.size) (cwV n S.2.2.2.2 (kx_goodIn (by intro w hw; unfold wsV at hw; simp only [List.cons_append, List.nil_append, List.mem_cons] at hw; rcases hw with rfl | rfl | rfl | rfl | rfl | hw <;> assumption)) rfl hrm.1 hrm.2 ⟨rfl, hd⟩ hRm) ⟨hpre.1, hrv, hpre.2⟩ rfl hlen hls hst (lv_room hcat) d hf) kk
/-- a method that the receiver's class inherits -/
theorem sq_cu (S : CallFix p m c cc nL s args kx_tbl own) {x y : MethodName} {b : ByteArray} {nl n index : Nat} {ret : Option FieldType} {rm : Room} {wc wr : va_W} {q : Nat} {C owner : String} {av rest : List Value} (hM : sq_ok l y b nl ret rm D tys X (.ref q :: av) wc Post mc ms) (hrm : rm.cells = mc ∧ rm.slots = ms) (hlk : Cond.methodLink own index x ∈ kx_tbl) (hsm : Cond.sameMethod x.cls owner x.name x.desc ∈ kx_tbl) (hins : Cond.instanceMethod y ∈ kx_tbl) (hsel : (Cond.selects C x y).before args s = true) (hcode : Cond.code y b nl ret ∈ kx_tbl) (hini : Cond.initialized y.cls ∈ kx_tbl) (hyx : y = ⟨owner, x.name, x.desc⟩) (hd : owner ≠ "java/lang/invoke/MethodHandle" ∧ owner ≠ "java/lang/invoke/VarHandle" ∧ (parseMethodDescriptor x.desc).map (fun d => d.parameters.length) = some n) (hlen : av.length = n)
    (hrv : ∃ cell : Cell, H[q]? = some cell ∧ cell.vm.isStatics = false ∧ s.vm.findClass C = some cell.cls)
    (isC isR : List Nat) (hC : isC.map (fun i => ws[i]?) = wc.map some) (hnC : va_nd isC = true) (hR : isR.map (fun i => ws[i]?) = wr.map some) (hn : va_nd isR = true) (hdis : ∀ i ∈ isR, i ∉ isC)
    (hE : sq_Ext X) (hK : va_K D vwCl tys s) (hP : va_P D vwCl ws H) (hD : va_D A ws) (hS : va_S A s.heap H locs) (hA : ∀ q, s.heap.size ≤ q → A q) (hX : X (va_A wc H.size) s H) (hls : ls.size = nL) (hst : st0 = av.reverse ++ .ref q :: rest) (hcat : (rest.map fun v => v.category).sum ≤ 8) (hRm : rm.frames + 1 ≤ R.frames ∧ 8 + (nl + 11) + rm.locals ≤ R.locals) (hf : cells + mc ≤ R.cells ∧ slots + ms ≤ R.slots) (d : decode cc pc = .ok (.invokevirtual index, 3))
    (kk : ∀ (v : Option Value) (w1 : va_W) (H1 : Heap) (locs1 : List Loc), Post v w1 → va_P D vwCl (wr ++ w1) H1 → va_D A (wr ++ w1) → va_S A s.heap H1 locs1 → W p l e R s m args below meth c H1 locs1 (cells + mc) (slots + ms) Q (F0 m (pc + 3) ls (v.toList ++ rest))) : W p l e R s m args below meth c H locs cells slots Q (F0 m pc ls st0) := by
  have hpre := sq_pre (av := .ref q :: av) hE hK (hP.sub isC (sq_fm hC)) (hD.sub isC hnC hC) hX
  exact sq_call isC isR hC hR hn hdis hP hD hS hA (va_runU (b := q) (C := C) (owner := owner) (As := av) (rest := rest) S (hM H.size) (sq_CU hrm hlk hsm hins hsel hcode hini hyx hd hRm S.2.2.2.2) ⟨hpre.1, hrv, hpre.2⟩ rfl hlen hls hst (lv_room hcat) d hf) kk
/-- super.y() -/
theorem sq_csu (S : CallFix p m c cc nL s args kx_tbl own) {y : MethodName} {b : ByteArray} {nl n index : Nat} {ret : Option FieldType} {rm : Room} {wc wr : va_W} {q : Nat} {C : String} {cC : ClassId} {av rest : List Value} (hat : ClassAt s C cC) (hM : sq_ok l y b nl ret rm D tys X (.ref q :: av) wc Post mc ms) (hrm : rm.cells = mc ∧ rm.slots = ms) (hlk : Cond.methodLink own index y ∈ kx_tbl) (hsm : Cond.sameMethod y.cls y.cls y.name y.desc ∈ kx_tbl) (hsup : Cond.superclass own y.cls ∈ kx_tbl) (hins : Cond.instanceMethod y ∈ kx_tbl) (hcode : Cond.code y b nl ret ∈ kx_tbl) (hini : Cond.initialized y.cls ∈ kx_tbl) (hd : y.name ≠ "<init>" ∧ (parseMethodDescriptor y.desc).map (fun d => d.parameters.length) = some n) (hlen : av.length = n)
    (hrv : ∃ cell : Cell, H[q]? = some cell ∧ cell.vm.isStatics = false ∧ s.vm.findClass C = some cell.cls)
    (isC isR : List Nat) (hC : isC.map (fun i => ws[i]?) = wc.map some) (hnC : va_nd isC = true) (hR : isR.map (fun i => ws[i]?) = wr.map some) (hn : va_nd isR = true) (hdis : ∀ i ∈ isR, i ∉ isC)
    (hE : sq_Ext X) (hK : va_K D vwCl tys s) (hP : va_P D vwCl ws H) (hD : va_D A ws) (hS : va_S A s.heap H locs) (hA : ∀ q, s.heap.size ≤ q → A q) (hX : X (va_A wc H.size) s H) (hls : ls.size = nL) (hst : st0 = av.reverse ++ .ref q :: rest) (hcat : (rest.map fun v => v.category).sum ≤ 8) (hRm : rm.frames + 1 ≤ R.frames ∧ 8 + (nl + 11) + rm.locals ≤ R.locals) (hf : cells + mc ≤ R.cells ∧ slots + ms ≤ R.slots) (d : decode cc pc = .ok (.invokespecial index, 3))
    (kk : ∀ (v : Option Value) (w1 : va_W) (H1 : Heap) (locs1 : List Loc), Post v w1 → va_P D vwCl (wr ++ w1) H1 → va_D A (wr ++ w1) → va_S A s.heap H1 locs1 → W p l e R s m args below meth c H1 locs1 (cells + mc) (slots + ms) Q (F0 m (pc + 3) ls (v.toList ++ rest))) : W p l e R s m args below meth c H locs cells slots Q (F0 m pc ls st0) := by
  have hpre := sq_pre (av := .ref q :: av) hE hK (hP.sub isC (sq_fm hC)) (hD.sub isC hnC hC) hX
  exact sq_call isC isR hC hR hn hdis hP hD hS hA (va_runSU (b := q) (C := C) (As := av) (rest := rest) hat S (hM H.size) (va_cwSU n S.2.2.2.2 (kx_goodIn (by intro w hw; unfold va_wsSU at hw; simp only [List.cons_append, List.nil_append, List.mem_cons] at hw; rcases hw with rfl | rfl | rfl | rfl | rfl | rfl | hw <;> assumption)) rfl hrm.1 hrm.2 hd hRm) ⟨hpre.1, hrv, hpre.2⟩ rfl hlen hls hst (lv_room hcat) d hf) kk
/-- a constructor -/
theorem sq_ci (S : CallFix p m c cc nL s args kx_tbl own) {y : MethodName} {b : ByteArray} {nl n index : Nat} {rm : Room} {wc wr : va_W} {q : Nat} {av rest : List Value} (hM : sq_ok l y b nl none rm D tys X (.ref q :: av) wc Post mc ms) (hrm : rm.cells = mc ∧ rm.slots = ms) (hy1 : y.name = "<init>") (hlk : Cond.methodLink own index y ∈ kx_tbl) (hins : Cond.instanceMethod y ∈ kx_tbl) (hcode : Cond.code y b nl none ∈ kx_tbl) (hini : Cond.initialized y.cls ∈ kx_tbl) (hd : y.cls ≠ "java/lang/invoke/MethodHandle" ∧ y.cls ≠ "java/lang/invoke/VarHandle" ∧ (parseMethodDescriptor y.desc).map (fun d => d.parameters.length) = some n) (hlen : av.length = n)
    (isC isR : List Nat) (hC : isC.map (fun i => ws[i]?) = wc.map some) (hnC : va_nd isC = true) (hR : isR.map (fun i => ws[i]?) = wr.map some) (hn : va_nd isR = true) (hdis : ∀ i ∈ isR, i ∉ isC)
    (hE : sq_Ext X) (hK : va_K D vwCl tys s) (hP : va_P D vwCl ws H) (hD : va_D A ws) (hS : va_S A s.heap H locs) (hA : ∀ q, s.heap.size ≤ q → A q) (hX : X (va_A wc H.size) s H) (hls : ls.size = nL) (hst : st0 = av.reverse ++ .ref q :: rest) (hcat : (rest.map fun v => v.category).sum ≤ 8) (hRm : rm.frames + 1 ≤ R.frames ∧ 8 + (nl + 11) + rm.locals ≤ R.locals) (hf : cells + mc ≤ R.cells ∧ slots + ms ≤ R.slots) (d : decode cc pc = .ok (.invokespecial index, 3))
    (kk : ∀ (v : Option Value) (w1 : va_W) (H1 : Heap) (locs1 : List Loc), Post v w1 → va_P D vwCl (wr ++ w1) H1 → va_D A (wr ++ w1) → va_S A s.heap H1 locs1 → W p l e R s m args below meth c H1 locs1 (cells + mc) (slots + ms) Q (F0 m (pc + 3) ls (v.toList ++ rest))) : W p l e R s m args below meth c H locs cells slots Q (F0 m pc ls st0) := by
  have hpre := sq_pre (av := .ref q :: av) hE hK (hP.sub isC (sq_fm hC)) (hD.sub isC hnC hC) hX
  exact sq_call isC isR hC hR hn hdis hP hD hS hA (va_runI (b := q) (As := av) (rest := rest) S (hM H.size) (cwI n S.2.2.2.2 (kx_goodIn (by intro w hw; simp only [List.mem_cons] at hw; rcases hw with rfl | hw <;> assumption)) rfl hrm.1 hrm.2 (S.2.2.2.2 _ hini) (S.2.2.2.2 _ hlk) (S.2.2.2.2 _ hins) hy1 hd hRm) hpre rfl hlen hls hst (lv_room hcat) d hf) kk
/-- ends -/
theorem sq_iret {v : Int32} (hx : p.tables.exec = Jvm.exec) (hb : c.code = cc) (hlocks : meth.locks = false) (hr : meth.sig.returnType = some .int) (hp : Post (some (.int v)) ws) (hP : va_P D vwCl ws H) (hD : va_D A ws) (hS : va_S A s.heap H locs) (d : decode cc pc = .ok (.ireturn, 1)) : W p l e R s m args below meth c H locs mc ms (MQ below (sq_Q D A Post) args s mc ms A) (F0 m pc ls [.int v]) :=
  W.iret hx hb hr (fun t ht hW => ⟨⟨_, ws, hp, rfl, by rw [ht]; exact hP, hD⟩, hS.F ht⟩) hS.2.2 d
theorem sq_zret {v : Int32} {ty : FieldType} (hx : p.tables.exec = Jvm.exec) (hb : c.code = cc) (hlocks : meth.locks = false) (hr : meth.sig.returnType = some ty) (hn : narrow ty (.int v) = .int v) (hp : Post (some (.int v)) ws) (hP : va_P D vwCl ws H) (hD : va_D A ws) (hS : va_S A s.heap H locs) (d : decode cc pc = .ok (.ireturn, 1)) : W p l e R s m args below meth c H locs mc ms (MQ below (sq_Q D A Post) args s mc ms A) (F0 m pc ls [.int v]) :=
  W.zret hx hb hr hn (fun t ht hW => ⟨⟨_, ws, hp, rfl, by rw [ht]; exact hP, hD⟩, hS.F ht⟩) hS.2.2 d
theorem sq_vret (hx : p.tables.exec = Jvm.exec) (hb : c.code = cc) (hlocks : meth.locks = false) (hr : meth.sig.returnType = none) (hp : Post none ws) (hP : va_P D vwCl ws H) (hD : va_D A ws) (hS : va_S A s.heap H locs) (d : decode cc pc = .ok (.return_, 1)) : W p l e R s m args below meth c H locs mc ms (MQ below (sq_Q D A Post) args s mc ms A) (F0 m pc ls []) :=
  W.vret hx hb hr (fun t ht hW => ⟨⟨_, ws, hp, rfl, by rw [ht]; exact hP, hD⟩, hS.F ht⟩) hS.2.2 d
theorem sq_aret {q : Nat} {rt : FieldType} (hx : p.tables.exec = Jvm.exec) (hb : c.code = cc) (hlocks : meth.locks = false) (hr : meth.sig.returnType = some rt) (hrt : (∃ C, rt = .object C) ∨ (∃ t, rt = .array t)) (hp : Post (some (.ref q)) ws) (hP : va_P D vwCl ws H) (hD : va_D A ws) (hS : va_S A s.heap H locs) (d : decode cc pc = .ok (.areturn, 1)) : W p l e R s m args below meth c H locs mc ms (MQ below (sq_Q D A Post) args s mc ms A) (F0 m pc ls [.ref q]) :=
  W.aret hx hb hr hrt (Or.inr ⟨_, rfl⟩) (fun t ht hW => ⟨⟨_, ws, hp, rfl, by rw [ht]; exact hP, hD⟩, hS.F ht⟩) hS.2.2 d
end SQ
/-- a method, from its walk -/
theorem sq_met {l : Launch} {y : MethodName} {b : ByteArray} {nl mc ms : Nat} {ret : Option FieldType} {rm : Room} {D : va_G} {tys : List (ClassId × FieldType)} {X : (Nat → Prop) → State → Heap → Prop} {av : List Value} {ws : va_W} {Post : Option Value → va_W → Prop} (hy : plainFor y = true) (hcl : (lg_sl av).length ≤ nl)
    (h : ∀ (p : Program) (e : Env) (s : State) (m : MethodId) (args : Array Value) (below : List Frame) (meth : Method) (c : Code) (A : Nat → Prop) (ls : Array Slot), CallFix p m c b nl s args kx_tbl y.cls → meth.locks = false → meth.sig.returnType = ret → meth.name = y.name → va_P D vwCl ws s.heap → va_K D vwCl tys s → va_D A ws → (∀ q, s.heap.size ≤ q → A q) → X A s s.heap → lv_has ls nl (lv_args 0 av) →
      W p l e rm s m args below meth c s.heap [] 0 0 (MQ below (sq_Q D A Post) args s mc ms A) (F0 m 0 ls [])) : sq_ok l y b nl ret rm D tys X av ws Post mc ms := by
  intro sz
  refine va_MetF (cc := b) (maxL := nl) (ret := ret) hy rfl ?_
  intro p e s m args below meth c s₁ B hml hvv
  obtain ⟨rfl, hsz, hP, hK, hD0, hX⟩ := hvv
  subst hsz
  have hts := atoms_spec (ws := kx_wd y b nl ret) B.pre
  have hin : meth.name = y.name := (name_of_methodNamed B.named B.method).1
  have hl := lv_entry av (n := nl) hcl
  rw [lg_entry_eq]
  exact h p e s m _ below meth c _ _ ⟨B.exec, B.bytes, hml, findClass_of_methodNamed B.named, fun w hw => hts w (List.mem_cons_of_mem _ hw)⟩ B.notSynchronized B.returns hin hP hK (hD0.self (sz := s.heap.size)) (fun q hq => Or.inr hq) hX hl

/-! calls, answers, contracts -/
abbrev kx_Sp : Type := List kx_V → kx_S → Option kx_V → kx_S → Prop
def kx_catl : List kx_V → Nat
  | [] => 0
  | .inr (.inl _) :: r => 2 + kx_catl r
  | _ :: r => 1 + kx_catl r
theorem kx_catl_eq (ad : Nat → Nat) (st : List kx_V) : ((st.map (kx_cv ad)).map fun v => v.category).sum = kx_catl st := by
  induction st with
  | nil => rfl
  | cons a r ih =>
    rw [List.map_cons, List.map_cons, List.sum_cons, ih]
    rcases a with x | x | _ | q <;> rfl
theorem kx_catl_sl (ad : Nat → Nat) (st : List kx_V) : (lg_sl (st.map (kx_cv ad))).length = kx_catl st := by
  induction st with
  | nil => rfl
  | cons a r ih =>
    have e : lg_sl ((a :: r).map (kx_cv ad)) = (if (kx_cv ad a).category = 2 then [.val (kx_cv ad a), .second] else [.val (kx_cv ad a)]) ++ lg_sl (r.map (kx_cv ad)) := rfl
    rw [e, List.length_append, ih]
    rcases a with x | x | _ | q <;> rfl
def kx_okr (n : Nat) (r : Option kx_V) : Prop := match r with
  | none => True
  | some v => kx_ok n v
theorem kx_agree.rf {n : Nat} {ad : Nat → Nat} : kx_agree n ad ad := fun _ _ => rfl
theorem kx_agree.tr {n k : Nat} {a0 a1 a2 : Nat → Nat} (h : kx_agree n a0 a1) (h2 : kx_agree k a1 a2) (hn : n ≤ k) : kx_agree n a0 a2 := fun i hi => (h2 i (hi.elim (fun q => Or.inl (Nat.lt_of_lt_of_le q hn)) Or.inr)).trans (h i hi)
theorem kx_ix_scr (o : Nat) : kx_ix 999 o = kx_NC := by
  have h : (999, o) ∉ kx_cells := fun hm => by
    have h6 : ∀ q ∈ kx_cells, q.1 ≠ 999 := by decide +kernel
    exact h6 _ hm rfl
  have h2 := List.idxOf_eq_length h
  rw [kx_cells_len] at h2
  exact h2
theorem kx_cv_agree {n : Nat} {ad ad' : Nat → Nat} {v : kx_V} (h : kx_agree n ad ad') (hv : kx_ok n v) : kx_cv ad' v = kx_cv ad v := by
  rcases v with x | x | _ | ⟨t, o⟩
  · rfl
  · rfl
  · rfl
  · show Value.ref (ad' (kx_ix t o)) = Value.ref (ad (kx_ix t o))
    rcases hv with hv | hv
    · rw [h _ (Or.inl hv)]
    · have h2 : t = 999 := hv
      subst h2
      rw [h _ (Or.inr (kx_ix_scr o))]
theorem kx_map_agree {n : Nat} {ad ad' : Nat → Nat} {st : List kx_V} (h : kx_agree n ad ad') (hv : kx_okl n st) : st.map (kx_cv ad') = st.map (kx_cv ad) := List.map_congr_left fun v hm => kx_cv_agree h (kx_okl_mem hv v hm)
theorem kx_has.agree {n nL : Nat} {ad ad' : Nat → Nat} {ls : Array Slot} {L : kx_L} (h : kx_agree n ad ad') (hv : kx_okL n L) (hl : kx_has ad ls nL L) : kx_has ad' ls nL L := ⟨hl.1, hl.2.1, fun i v hi => by rw [kx_cv_agree h (hv i v hi)]; exact hl.2.2 i v hi⟩
theorem kx_ok.mono {n k : Nat} {v : kx_V} (h : kx_ok n v) (hn : n ≤ k) : kx_ok k v := by
  rcases v with x | x | _ | q
  · trivial
  · trivial
  · trivial
  · exact h.elim (fun z => Or.inl (Nat.lt_of_lt_of_le z hn)) Or.inr
theorem kx_okl.mono {n k : Nat} {st : List kx_V} (h : kx_okl n st) (hn : n ≤ k) : kx_okl k st := kx_okl_of fun v hv => (kx_okl_mem h v hv).mono hn
theorem kx_okL.mono {n k : Nat} {L : kx_L} (h : kx_okL n L) (hn : n ≤ k) : kx_okL k L := fun i v hv => (h i v hv).mono hn
theorem kx_okl_take {n : Nat} {st : List kx_V} (k : Nat) (h : kx_okl n st) : kx_okl n (st.take k).reverse := kx_okl_of fun v hv => kx_okl_mem h v (List.mem_of_mem_take (List.mem_reverse.mp hv))
theorem kx_okl_drop {n : Nat} {st : List kx_V} (k : Nat) (h : kx_okl n st) : kx_okl n (st.drop k) := kx_okl_of fun v hv => kx_okl_mem h v (List.mem_of_mem_drop hv)
theorem kx_szl_ok : kx_szl.Pairwise (· ≤ ·) ∧ kx_szl.length = kx_NC + 1 := by decide +kernel
theorem kx_sz_mono {a b : Nat} (h : a ≤ b) (hb : b ≤ kx_NC) : kx_sz a ≤ kx_sz b := by
  unfold kx_sz
  have hl := kx_szl_ok.2
  rw [List.getD_eq_getElem?_getD, List.getD_eq_getElem?_getD, List.getElem?_eq_getElem (by omega), List.getElem?_eq_getElem (by omega)]
  rcases Nat.lt_or_eq_of_le h with h1 | h1
  · exact List.pairwise_iff_getElem.mp kx_szl_ok.1 a b _ _ h1
  · subst h1
    exact Nat.le_refl _
theorem kx_tbl_good {w : Cond} (h : w ∈ kx_tbl) : (w.onTables && w.keeps) = true ∨ ∃ ty, w = .arrayClass ty := good_of_word (List.mem_filter.mp h).2
theorem kx_goodIn {ws : List Cond} (h : ∀ w ∈ ws, w ∈ kx_tbl) : GoodIn kx_tbl ws := fun w hw => ⟨h w hw, kx_tbl_good (h w hw)⟩
abbrev kx_wd (y : MethodName) (b : ByteArray) (n : Nat) (ret : Option FieldType) : List Cond := .code y b n ret :: kx_tbl
def kx_nst (U : State) : Prop := (∀ q ∈ kx_nl, va_Nw (.methodLinkNest q.1 q.2.1 q.2.2.1 q.2.2.2) U) ∧ va_AO "KeptLight$Shelf" U
theorem kx_nst.warm {s U : State} (h : kx_nst s) (hW : s.WarmedH U.vm) : kx_nst U := ⟨fun q hq => va_Nw.warmM hW (h.1 q hq), va_AO.moved hW.alike h.2⟩
def kx_B (D : va_G) (C4 : kx_C) (ad : Nat → Nat) (sz : Nat) (S : kx_S) : State → Prop := fun U => U.heap.size = sz ∧ va_P D vwCl (kx_ws C4 ad S) U.heap ∧ va_K D vwCl (kx_tys C4) U ∧ va_D (fun _ => True) (kx_ws C4 ad S) ∧ kx_nst U
theorem kx_blind {D : va_G} {C4 : kx_C} {ad : Nat → Nat} {sz : Nat} {S : kx_S} {av : List Value} : FrameBlind (va_Pc av (kx_B D C4 ad sz S)) := fun a U g mk q => by
  obtain ⟨q0, q1, qP, qK, qD, qN⟩ := q
  exact ⟨q0, q1, qP, va_K.moved (u := U) (U := U.calling g mk a) (Vm.Alike.refl U.vm) qK, qD, fun w hw => va_Nw.same rfl rfl (qN.1 w hw), va_AO.moved (u := U) (U := U.calling g mk a) (Vm.Alike.refl U.vm) qN.2⟩
def kx_Q (D : va_G) (C4 : kx_C) (ad : Nat → Nat) (S : kx_S) (r : Option kx_V) (S' : kx_S) (A1 : Nat → Prop) : Array Value → State → Outcome → State → Prop := fun _ st oc t => (∃ ad', kx_agree (kx_cnt S) ad ad' ∧ oc = .returned (r.map (kx_cv ad')) ∧ kx_okr (kx_cnt S') r ∧ kx_hv S' ∧ va_P D vwCl (kx_ws C4 ad' S') t.heap ∧ va_D A1 (kx_ws C4 ad' S')) ∧ va_F A1 st t
def kx_ok1 (l : Launch) (y : MethodName) (ws : List Cond) (rm : Room) (Sp : kx_Sp) (nl mc ms : Nat) : Prop := ∀ (D : va_G) (C4 : kx_C) (ad : Nat → Nat) (sz : Nat) (av : List kx_V) (S : kx_S) (r : Option kx_V) (S' : kx_S), Sp av S r S' → kx_catl av ≤ nl → kx_okl (kx_cnt S) av → kx_hv S → kx_cnt S' ≤ kx_NC → kx_cnt S' = kx_cnt S + mc → kx_sz (kx_cnt S') = kx_sz (kx_cnt S) + ms →
  Met l y ws rm (va_Pc (av.map (kx_cv ad)) (kx_B D C4 ad sz S)) (kx_Q D C4 ad S r S' (va_A (kx_ws C4 ad S) sz)) mc ms (va_A (kx_ws C4 ad S) sz)
def kx_Ctx (p : Program) (R : Room) (s : State) (m : MethodId) (args : Array Value) (c : Code) (cc : ByteArray) (own : String) (nL : Nat) (D : va_G) (C4 : kx_C) (A : Nat → Prop) (cnt0 : Nat) (P : kx_P) (gx gs : Nat) : Prop := CallFix p m c cc nL s args kx_tbl own ∧ va_K D vwCl (kx_tys C4) s ∧ kx_nst s ∧ (∀ q, s.heap.size ≤ q → A q) ∧ P.1 - cnt0 + gx ≤ R.cells ∧ kx_sz P.1 - kx_sz cnt0 + gs ≤ R.slots ∧ P.1 ≤ kx_NC
def kx_sp (tb : Nat → kx_T) (nl : Nat) : kx_Sp := fun av S r S' => kx_Run tb (kx_cnt S', fun r' S'' => r' = r ∧ S'' = S') 0 (kx_l0 av nl) [] S
section KXC
variable {p : Program} {l : Launch} {e : Env} {R : Room} {s : State} {m : MethodId} {args : Array Value} {below : List Frame} {meth : Method} {c : Code} {Q : State → Prop} {D : va_G} {C4 : kx_C} {A : Nat → Prop} {cnt0 : Nat} {ad0 : Nat → Nat} {nL gx gs : Nat} {P : kx_P} {cc : ByteArray} {pc : Nat} {own : String}
theorem kx_call {H : Heap} {locs : List Loc} {cells slots mc ms : Nat} {ls : Array Slot} {st0 rest : List Value} {ad : Nat → Nat} {S S' : kx_S} {r : Option kx_V} {A1 : Nat → Prop} {H0 : Heap} {a : Array Value}
    (hr : va_Run p l e R s m args below meth c H locs cells slots mc ms (F0 m pc ls st0) rest (kx_Q D C4 ad S r S' A1 a) A1) (hS : va_S A H0 H locs) (hf : ∀ q, A1 q → A q)
    (kk : ∀ (ad' : Nat → Nat) (H1 : Heap) (locs1 : List Loc), kx_agree (kx_cnt S) ad ad' → kx_okr (kx_cnt S') r → kx_hv S' → va_P D vwCl (kx_ws C4 ad' S') H1 → va_D A (kx_ws C4 ad' S') → va_S A H0 H1 locs1 → W p l e R s m args below meth c H1 locs1 (cells + mc) (slots + ms) Q (F0 m (pc + 3) ls ((r.map (kx_cv ad')).toList ++ rest))) : W p l e R s m args below meth c H locs cells slots Q (F0 m pc ls st0) := by
  intro T hT X
  obtain ⟨v, st₀, t, T', L, h0, X', hL, e1, e2, ⟨⟨ad', h1, hv, h2, h3, h4, h5⟩, hz, hk⟩, st⟩ := hr T hT X
  cases hv
  rw [h0] at hz hk
  obtain ⟨t2, a1, b1⟩ := kk ad' T'.heap (locs ++ L) h1 h2 h3 (by rw [e1]; exact h4) (h5.weaken fun _ _ _ z => hf _ z)
    ⟨Nat.le_trans hS.1 (by rw [e1]; exact hz), fun q g1 g2 => by rw [e1, hk q (Nat.lt_of_lt_of_le g1 hS.1) (fun z => g2 (hf q z))]; exact hS.2.1 q g1 g2, fun q hq => by
      rcases List.mem_append.mp hq with h | h
      · exact hS.2.2 q h
      · exact hf _ (hL q h)⟩ T' rfl X'
  exact ⟨t2, st t2 a1, b1⟩
/-- what a call's words are, for any kind of call -/
theorem kx_after {H : Heap} {locs : List Loc} {mc ms : Nat} {ls : Array Slot} {st0 : List Value} {ad : Nat → Nat} {S S' : kx_S} {r : Option kx_V} {a : Array Value} {K : kx_K} {L : kx_L} {st : List kx_V} (X : kx_Ctx p R s m args c cc own nL D C4 A cnt0 P gx gs)
    (hK : ∀ pc L st S, K pc L st S → kx_W p l e R s m args below meth c Q D C4 A cnt0 ad0 nL gx gs P pc L st S)
    (hr : va_Run p l e R s m args below meth c H locs (kx_cnt S - cnt0 + gx) (kx_sz (kx_cnt S) - kx_sz cnt0 + gs) mc ms (F0 m pc ls st0) (st.map (kx_cv ad)) (kx_Q D C4 ad S r S' (va_A (kx_ws C4 ad S) H.size) a) (va_A (kx_ws C4 ad S) H.size))
    (ha : kx_agree cnt0 ad0 ad) (hc : cnt0 ≤ kx_cnt S) (hc' : kx_cnt S' ≤ P.1) (hmc : kx_cnt S' = kx_cnt S + mc) (hms : kx_sz (kx_cnt S') = kx_sz (kx_cnt S) + ms) (hst : kx_okl (kx_cnt S) st) (hL : kx_okL (kx_cnt S) L) (hD : va_D A (kx_ws C4 ad S)) (hS : va_S A s.heap H locs) (hl : kx_has ad ls nL L)
    (hk : K (pc + 3) L (r.toList ++ st) S') : W p l e R s m args below meth c H locs (kx_cnt S - cnt0 + gx) (kx_sz (kx_cnt S) - kx_sz cnt0 + gs) Q (F0 m pc ls st0) := by
  refine kx_call hr hS (fun q hq => ?_) fun ad' H1 locs1 h1 h2 h3 h4 h5 h6 => ?_
  · rcases hq with ⟨k, x, hk⟩ | hq
    · exact hD.2 k _ hk
    · exact X.2.2.2.1 q (Nat.le_trans hS.1 hq)
  · have hz := kx_sz_mono hc (by have := X.2.2.2.2.2.2; omega)
    have e1 : kx_cnt S - cnt0 + gx + mc = kx_cnt S' - cnt0 + gx := by omega
    have e2 : kx_sz (kx_cnt S) - kx_sz cnt0 + gs + ms = kx_sz (kx_cnt S') - kx_sz cnt0 + gs := by omega
    rw [e1, e2]
    have e3 : (r.map (kx_cv ad')).toList ++ st.map (kx_cv ad) = (r.toList ++ st).map (kx_cv ad') := by
      rw [List.map_append, kx_map_agree h1 hst]
      cases r <;> rfl
    rw [e3]
    refine hK _ _ _ _ hk ad' H1 locs1 ls (ha.tr h1 hc) ⟨by omega, hc'⟩ h3 ?_ (hL.mono (by omega)) h4 h5 h6 (hl.agree h1 hL)
    cases r with
    | none => exact hst.mono (by omega)
    | some v => exact ⟨h2, hst.mono (by omega)⟩
theorem kx_pre {H : Heap} {ad : Nat → Nat} {S : kx_S} {av : List kx_V} (hK9 : va_K D vwCl (kx_tys C4) s) (hN : kx_nst s) (hP : va_P D vwCl (kx_ws C4 ad S) H) (hD : va_D A (kx_ws C4 ad S)) : PreS s H (va_Pc (av.map (kx_cv ad)) (kx_B D C4 ad H.size S)) (av.map (kx_cv ad)) :=
  ⟨kx_blind, fun U hU hW => ⟨rfl, by rw [hU], by rw [hU]; exact hP, va_K.moved hW.alike hK9, hD.weaken (fun _ _ _ _ => trivial), hN.warm hW⟩⟩
def ki_cs (k nl : Nat) (Sp : kx_Sp) (n : Nat) : kx_T := fun _ K L st S => bif Nat.beq (st.take k).length k && Nat.ble (kx_catl (st.drop k)) 8 && Nat.ble (kx_catl (st.take k).reverse) nl then (∃ r S', Sp (st.take k).reverse S r S' ∧ S'.2.2 = S.2.2 ∧ K n L (r.toList ++ st.drop k) S') else False
def ki_cv (t k nl : Nat) (Sp : kx_Sp) (n : Nat) : kx_T := fun _ K L st S => match (st.take (k + 1)).reverse with
  | .inr (.inr (some (t1, o))) :: r9 => bif Nat.beq t1 t && Nat.beq r9.length k && Nat.ble (kx_catl (st.drop (k + 1))) 8 && Nat.ble (1 + kx_catl r9) nl then (∃ r S', Sp (.inr (.inr (some (t, o))) :: r9) S r S' ∧ S'.2.2 = S.2.2 ∧ K n L (r.toList ++ st.drop (k + 1)) S') else False
  | _ => False
def ki_ci (t nl mc ms : Nat) (Sp : kx_Sp) (n : Nat) : kx_T := fun P K L st S => match st with
  | .inr (.inr (some (t1, o))) :: r9 => bif Nat.beq t1 t && Nat.ble (kx_catl r9) 8 && Nat.ble 1 nl then (∃ S', Sp [.inr (.inr (some (t, o)))] S none S' ∧ kx_cnt S' = kx_cnt S + mc ∧ kx_sz (kx_cnt S') = kx_sz (kx_cnt S) + ms ∧ kx_cnt S' ≤ P.1 ∧ K n L r9 S') else False
  | _ => False
theorem kx_rm0 {S : kx_S} (X : kx_Ctx p R s m args c cc own nL D C4 A cnt0 P gx gs) (hc : cnt0 ≤ kx_cnt S ∧ kx_cnt S ≤ P.1) : kx_cnt S - cnt0 + gx + 0 ≤ R.cells ∧ kx_sz (kx_cnt S) - kx_sz cnt0 + gs + 0 ≤ R.slots := by
  have h1 := X.2.2.2.2.1
  have h2 := X.2.2.2.2.2.1
  have h3 := kx_sz_mono hc.2 X.2.2.2.2.2.2
  omega
theorem kx_rm1 {S S' : kx_S} {mc ms : Nat} (X : kx_Ctx p R s m args c cc own nL D C4 A cnt0 P gx gs) (hc : cnt0 ≤ kx_cnt S) (hc' : kx_cnt S' ≤ P.1) (hmc : kx_cnt S' = kx_cnt S + mc) (hms : kx_sz (kx_cnt S') = kx_sz (kx_cnt S) + ms) : kx_cnt S - cnt0 + gx + mc ≤ R.cells ∧ kx_sz (kx_cnt S) - kx_sz cnt0 + gs + ms ≤ R.slots := by
  have h1 := X.2.2.2.2.1
  have h2 := X.2.2.2.2.2.1
  have h3 := kx_sz_mono hc' X.2.2.2.2.2.2
  have h4 := kx_sz_mono hc (by have := X.2.2.2.2.2.2; omega)
  omega

theorem ks_cs (X : kx_Ctx p R s m args c cc own nL D C4 A cnt0 P gx gs) {y : MethodName} {b : ByteArray} {nl : Nat} {ret : Option FieldType} {rm : Room} {Sp : kx_Sp} {k index : Nat} (hM : kx_ok1 l y (kx_wd y b nl ret) rm Sp nl 0 0) (hrm : rm.cells = 0 ∧ rm.slots = 0) (hlk : Cond.methodLink own index y ∈ kx_tbl) (hstt : Cond.static y ∈ kx_tbl) (hcode : Cond.code y b nl ret ∈ kx_tbl) (hini : Cond.initialized y.cls ∈ kx_tbl) (hd : y.cls ≠ "java/lang/invoke/MethodHandle" ∧ y.cls ≠ "java/lang/invoke/VarHandle" ∧ (parseMethodDescriptor y.desc).map (fun d => d.parameters.length) = some k) (hR : rm.frames + 1 ≤ R.frames ∧ 8 + (nl + 11) + rm.locals ≤ R.locals) (d : decode cc pc = .ok (.invokestatic index, 3)) : kx_Snd (kx_W p l e R s m args below meth c Q D C4 A cnt0 ad0 nL gx gs P) P pc (ki_cs k nl Sp (pc + 3)) := by
  intro K hK L st S h ad H locs ls ha hc ho hst hL hP hD hS hl
  unfold ki_cs at h
  cases hq : (Nat.beq (st.take k).length k && Nat.ble (kx_catl (st.drop k)) 8 && Nat.ble (kx_catl (st.take k).reverse) nl) with
  | false => rw [hq] at h; exact h.elim
  | true =>
    rw [hq] at h
    simp only [Bool.and_eq_true] at hq
    obtain ⟨r, S', hsp, hm, h⟩ := h
    have hcs := kx_cnt_same hm
    have hlen : (st.take k).length = k := Nat.eq_of_beq_eq_true hq.1.1
    have hcat : kx_catl (st.drop k) ≤ 8 := Nat.le_of_ble_eq_true hq.1.2
    have hcn : kx_catl (st.take k).reverse ≤ nl := Nat.le_of_ble_eq_true hq.2
    have hmet := hM D C4 ad H.size (st.take k).reverse S r S' hsp hcn (kx_okl_take k hst) ho (by rw [hcs]; exact ho.le) (by rw [hcs]; rfl) (by rw [hcs]; rfl)
    refine kx_after X hK (va_runS (As := (st.take k).reverse.map (kx_cv ad)) (rest := (st.drop k).map (kx_cv ad)) X.1 hmet (va_cwS k X.1.2.2.2.2 (kx_goodIn (by intro w hw; unfold va_wsS at hw; simp only [List.cons_append, List.nil_append, List.mem_cons] at hw; rcases hw with rfl | rfl | rfl | rfl | hw <;> assumption)) rfl hrm.1 hrm.2 hd hR) (kx_pre X.2.1 X.2.2.1 hP hD) rfl (by simpa using hlen) hl.1 ?_ (lv_room (by rw [kx_catl_eq]; exact hcat)) d (kx_rm0 X hc)) ha hc.1 (by rw [hcs]; exact hc.2) (by rw [hcs]; rfl) (by rw [hcs]; rfl) (kx_okl_drop k hst) hL hD hS hl h
    show st.map (kx_cv ad) = _
    rw [← List.map_reverse, List.reverse_reverse, ← List.map_append, List.take_append_drop]
theorem ks_csN (X : kx_Ctx p R s m args c cc own nL D C4 A cnt0 P gx gs) {y : MethodName} {b : ByteArray} {nl : Nat} {ret : Option FieldType} {rm : Room} {Sp : kx_Sp} {k index : Nat} (hM : kx_ok1 l y (kx_wd y b nl ret) rm Sp nl 0 0) (hrm : rm.cells = 0 ∧ rm.slots = 0) {host : String} (hlk : (own, index, y, host) ∈ kx_nl) (hstt : Cond.static y ∈ kx_tbl) (hcode : Cond.code y b nl ret ∈ kx_tbl) (hini : Cond.initialized y.cls ∈ kx_tbl) (hd : y.cls ≠ "java/lang/invoke/MethodHandle" ∧ y.cls ≠ "java/lang/invoke/VarHandle" ∧ (parseMethodDescriptor y.desc).map (fun d => d.parameters.length) = some k) (hR : rm.frames + 1 ≤ R.frames ∧ 8 + (nl + 11) + rm.locals ≤ R.locals) (d : decode cc pc = .ok (.invokestatic index, 3)) : kx_Snd (kx_W p l e R s m args below meth c Q D C4 A cnt0 ad0 nL gx gs P) P pc (ki_cs k nl Sp (pc + 3)) := by
  intro K hK L st S h ad H locs ls ha hc ho hst hL hP hD hS hl
  unfold ki_cs at h
  cases hq : (Nat.beq (st.take k).length k && Nat.ble (kx_catl (st.drop k)) 8 && Nat.ble (kx_catl (st.take k).reverse) nl) with
  | false => rw [hq] at h; exact h.elim
  | true =>
    rw [hq] at h
    simp only [Bool.and_eq_true] at hq
    obtain ⟨r, S', hsp, hm, h⟩ := h
    have hcs := kx_cnt_same hm
    have hlen : (st.take k).length = k := Nat.eq_of_beq_eq_true hq.1.1
    have hcat : kx_catl (st.drop k) ≤ 8 := Nat.le_of_ble_eq_true hq.1.2
    have hcn : kx_catl (st.take k).reverse ≤ nl := Nat.le_of_ble_eq_true hq.2
    have hmet := hM D C4 ad H.size (st.take k).reverse S r S' hsp hcn (kx_okl_take k hst) ho (by rw [hcs]; exact ho.le) (by rw [hcs]; rfl) (by rw [hcs]; rfl)
    refine kx_after X hK (va_runSN (As := (st.take k).reverse.map (kx_cv ad)) (rest := (st.drop k).map (kx_cv ad)) X.1 hmet ⟨va_cnB k X.1.2.2.2.2 (kx_goodIn (by intro w hw; simp only [List.mem_cons] at hw; rcases hw with rfl | hw <;> assumption)) rfl hrm.1 hrm.2 (X.2.2.1.1 _ hlk) (X.1.2.2.2.2 _ hini) hd hR, X.1.2.2.2.2 _ hstt, trivial⟩ (kx_pre X.2.1 X.2.2.1 hP hD) rfl (by simpa using hlen) hl.1 ?_ (lv_room (by rw [kx_catl_eq]; exact hcat)) d (kx_rm0 X hc)) ha hc.1 (by rw [hcs]; exact hc.2) (by rw [hcs]; rfl) (by rw [hcs]; rfl) (kx_okl_drop k hst) hL hD hS hl h
    show st.map (kx_cv ad) = _
    rw [← List.map_reverse, List.reverse_reverse, ← List.map_append, List.take_append_drop]
theorem ks_cv (X : kx_Ctx p R s m args c cc own nL D C4 A cnt0 P gx gs) {y : MethodName} {b : ByteArray} {nl : Nat} {ret : Option FieldType} {rm : Room} {Sp : kx_Sp} {k index : Nat} (hM : kx_ok1 l y (kx_wd y b nl ret) rm Sp nl 0 0) (hrm : rm.cells = 0 ∧ rm.slots = 0) {t N : Nat} {T : u_T} {ty : Nat → FieldType} (hf : kx_cf t y.cls T N ty) (hlk : Cond.methodLink own index y ∈ kx_tbl) (hins : Cond.instanceMethod y ∈ kx_tbl) (hsel : Cond.selects y.cls y y ∈ kx_tbl) (hcode : Cond.code y b nl ret ∈ kx_tbl) (hini : Cond.initialized y.cls ∈ kx_tbl) (hd : y.cls ≠ "java/lang/invoke/MethodHandle" ∧ y.cls ≠ "java/lang/invoke/VarHandle" ∧ (parseMethodDescriptor y.desc).map (fun d => d.parameters.length) = some k) (hR : rm.frames + 1 ≤ R.frames ∧ 8 + (nl + 11) + rm.locals ≤ R.locals) (d : decode cc pc = .ok (.invokevirtual index, 3)) : kx_Snd (kx_W p l e R s m args below meth c Q D C4 A cnt0 ad0 nL gx gs P) P pc (ki_cv t k nl Sp (pc + 3)) := by
  intro K hK L st S h ad H locs ls ha hc ho hst hL hP hD hS hl
  unfold ki_cv at h
  split at h
  next t1 o r9 he9 =>
    cases hq : (Nat.beq t1 t && Nat.beq r9.length k && Nat.ble (kx_catl (st.drop (k + 1))) 8 && Nat.ble (1 + kx_catl r9) nl) with
    | false => rw [hq] at h; exact h.elim
    | true =>
      rw [hq] at h
      simp only [Bool.and_eq_true] at hq
      obtain ⟨r, S', hsp, hm, h⟩ := h
      have hcs := kx_cnt_same hm
      obtain rfl := Nat.eq_of_beq_eq_true hq.1.1.1
      have hlen : r9.length = k := Nat.eq_of_beq_eq_true hq.1.1.2
      have hcat : kx_catl (st.drop (k + 1)) ≤ 8 := Nat.le_of_ble_eq_true hq.1.2
      have hcn : 1 + kx_catl r9 ≤ nl := Nat.le_of_ble_eq_true hq.2
      have hok := kx_okl_take (k + 1) hst
      rw [he9] at hok
      have hmet := hM D C4 ad H.size (.inr (.inr (some (t1, o))) :: r9) S r S' hsp hcn hok ho (by rw [hcs]; exact ho.le) (by rw [hcs]; rfl) (by rw [hcs]; rfl)
      have hi := kx_ok_lt hok.1 hf.1 (Nat.ne_of_beq_eq_false rfl)
      have he := kx_ws_at (C4 := C4) (ad := ad) hi ho.le
      rw [kx_en_o hf.1] at he
      have hpre := kx_pre (av := .inr (.inr (some (t1, o))) :: r9) X.2.1 X.2.2.1 hP hD
      refine kx_after X hK (va_runV (b := ad (kx_ix t1 o)) (C := y.cls) (As := r9.map (kx_cv ad)) (rest := (st.drop (k + 1)).map (kx_cv ad)) X.1 hmet (cwV k X.1.2.2.2.2 (kx_goodIn (by intro w hw; unfold wsV at hw; simp only [List.cons_append, List.nil_append, List.mem_cons] at hw; rcases hw with rfl | rfl | rfl | rfl | rfl | hw <;> assumption)) rfl hrm.1 hrm.2 ⟨rfl, hd⟩ hR) ⟨hpre.1, va_recv X.2.1 hP hf.2.1 he, hpre.2⟩ rfl (by simpa using hlen) hl.1 ?_ (lv_room (by rw [kx_catl_eq]; exact hcat)) d (kx_rm0 X hc)) ha hc.1 (by rw [hcs]; exact hc.2) (by rw [hcs]; rfl) (by rw [hcs]; rfl) (kx_okl_drop _ hst) hL hD hS hl h
      show st.map (kx_cv ad) = _
      have e9 : st.take (k + 1) = r9.reverse ++ [.inr (.inr (some (t1, o)))] := by
        have := congrArg List.reverse he9
        rw [List.reverse_reverse, List.reverse_cons] at this
        exact this
      rw [show (Value.ref (ad (kx_ix t1 o))) = kx_cv ad (.inr (.inr (some (t1, o)))) from rfl, ← List.map_reverse, ← List.map_cons, ← List.map_append]
      refine congrArg _ ?_
      have e8 := List.take_append_drop (k + 1) st
      rw [e9, List.append_assoc] at e8
      exact e8.symm
  next => exact h.elim
theorem ks_ci (X : kx_Ctx p R s m args c cc own nL D C4 A cnt0 P gx gs) {y : MethodName} {b : ByteArray} {nl mc ms : Nat} {rm : Room} {Sp : kx_Sp} {index : Nat} (hM : kx_ok1 l y (kx_wd y b nl none) rm Sp nl mc ms) (hrm : rm.cells = mc ∧ rm.slots = ms) (hy1 : y.name = "<init>") (hlk : Cond.methodLink own index y ∈ kx_tbl) (hins : Cond.instanceMethod y ∈ kx_tbl) (hcode : Cond.code y b nl none ∈ kx_tbl) (hini : Cond.initialized y.cls ∈ kx_tbl) (hd : y.cls ≠ "java/lang/invoke/MethodHandle" ∧ y.cls ≠ "java/lang/invoke/VarHandle" ∧ (parseMethodDescriptor y.desc).map (fun d => d.parameters.length) = some 0) (hR : rm.frames + 1 ≤ R.frames ∧ 8 + (nl + 11) + rm.locals ≤ R.locals) {t : Nat} (d : decode cc pc = .ok (.invokespecial index, 3)) : kx_Snd (kx_W p l e R s m args below meth c Q D C4 A cnt0 ad0 nL gx gs P) P pc (ki_ci t nl mc ms Sp (pc + 3)) := by
  intro K hK L st S h ad H locs ls ha hc ho hst hL hP hD hS hl
  match st, h, hst with
  | .inr (.inr (some (t1, o))) :: r9, g9, hst =>
    unfold ki_ci at g9
    dsimp only at g9
    cases hq : (Nat.beq t1 t && Nat.ble (kx_catl r9) 8 && Nat.ble 1 nl) with
    | false => rw [hq] at g9; exact g9.elim
    | true =>
      rw [hq] at g9
      simp only [Bool.and_eq_true] at hq
      obtain ⟨S', hsp, hmc, hms, hc', g9⟩ := g9
      obtain rfl := Nat.eq_of_beq_eq_true hq.1.1
      have hcat : kx_catl r9 ≤ 8 := Nat.le_of_ble_eq_true hq.1.2
      have hcn : 1 ≤ nl := Nat.le_of_ble_eq_true hq.2
      have hmet := hM D C4 ad H.size [.inr (.inr (some (t1, o)))] S none S' hsp hcn ⟨hst.1, trivial⟩ ho (Nat.le_trans hc' X.2.2.2.2.2.2) hmc hms
      exact kx_after (r := none) X hK (va_runI (b := ad (kx_ix t1 o)) (As := []) (rest := r9.map (kx_cv ad)) X.1 hmet (cwI 0 X.1.2.2.2.2 (kx_goodIn (by intro w hw; simp only [List.mem_cons] at hw; rcases hw with rfl | hw <;> assumption)) rfl hrm.1 hrm.2 (X.1.2.2.2.2 _ hini) (X.1.2.2.2.2 _ hlk) (X.1.2.2.2.2 _ hins) hy1 hd hR) (kx_pre (av := [.inr (.inr (some (t1, o)))]) X.2.1 X.2.2.1 hP hD) rfl rfl hl.1 rfl (lv_room (by rw [kx_catl_eq]; exact hcat)) d (kx_rm1 X hc.1 hc' hmc hms)) ha hc.1 hc' hmc hms hst.2 hL hD hS hl g9
theorem ks_ciN (X : kx_Ctx p R s m args c cc own nL D C4 A cnt0 P gx gs) {y : MethodName} {b : ByteArray} {nl mc ms : Nat} {rm : Room} {Sp : kx_Sp} {index : Nat} (hM : kx_ok1 l y (kx_wd y b nl none) rm Sp nl mc ms) (hrm : rm.cells = mc ∧ rm.slots = ms) (hy1 : y.name = "<init>") {host : String} (hlk : (own, index, y, host) ∈ kx_nl) (hins : Cond.instanceMethod y ∈ kx_tbl) (hcode : Cond.code y b nl none ∈ kx_tbl) (hini : Cond.initialized y.cls ∈ kx_tbl) (hd : y.cls ≠ "java/lang/invoke/MethodHandle" ∧ y.cls ≠ "java/lang/invoke/VarHandle" ∧ (parseMethodDescriptor y.desc).map (fun d => d.parameters.length) = some 0) (hR : rm.frames + 1 ≤ R.frames ∧ 8 + (nl + 11) + rm.locals ≤ R.locals) {t : Nat} (d : decode cc pc = .ok (.invokespecial index, 3)) : kx_Snd (kx_W p l e R s m args below meth c Q D C4 A cnt0 ad0 nL gx gs P) P pc (ki_ci t nl mc ms Sp (pc + 3)) := by
  intro K hK L st S h ad H locs ls ha hc ho hst hL hP hD hS hl
  match st, h, hst with
  | .inr (.inr (some (t1, o))) :: r9, g9, hst =>
    unfold ki_ci at g9
    dsimp only at g9
    cases hq : (Nat.beq t1 t && Nat.ble (kx_catl r9) 8 && Nat.ble 1 nl) with
    | false => rw [hq] at g9; exact g9.elim
    | true =>
      rw [hq] at g9
      simp only [Bool.and_eq_true] at hq
      obtain ⟨S', hsp, hmc, hms, hc', g9⟩ := g9
      obtain rfl := Nat.eq_of_beq_eq_true hq.1.1
      have hcat : kx_catl r9 ≤ 8 := Nat.le_of_ble_eq_true hq.1.2
      have hcn : 1 ≤ nl := Nat.le_of_ble_eq_true hq.2
      have hmet := hM D C4 ad H.size [.inr (.inr (some (t1, o)))] S none S' hsp hcn ⟨hst.1, trivial⟩ ho (Nat.le_trans hc' X.2.2.2.2.2.2) hmc hms
      exact kx_after (r := none) X hK (va_runIN (b := ad (kx_ix t1 o)) (As := []) (rest := r9.map (kx_cv ad)) X.1 hmet ⟨va_cnB 0 X.1.2.2.2.2 (kx_goodIn (by intro w hw; simp only [List.mem_cons] at hw; rcases hw with rfl | hw <;> assumption)) rfl hrm.1 hrm.2 (X.2.2.1.1 _ hlk) (X.1.2.2.2.2 _ hini) hd hR, hy1, X.1.2.2.2.2 _ hins⟩ (kx_pre (av := [.inr (.inr (some (t1, o)))]) X.2.1 X.2.2.1 hP hD) rfl rfl hl.1 rfl (lv_room (by rw [kx_catl_eq]; exact hcat)) d (kx_rm1 X hc.1 hc' hmc hms)) ha hc.1 hc' hmc hms hst.2 hL hD hS hl g9
def kx_Rt (below : List Frame) (args : Array Value) (s : State) (meth : Method) (Q : State → Prop) (D : va_G) (C4 : kx_C) (A : Nat → Prop) (cnt0 : Nat) (ad0 : Nat → Nat) (P : kx_P) (gx gs : Nat) : Prop := ∃ (S0 : kx_S) (r0 : Option kx_V) (S1 : kx_S), Q = MQ below (kx_Q D C4 ad0 S0 r0 S1 A) args s (kx_cnt S1 - cnt0 + gx) (kx_sz (kx_cnt S1) - kx_sz cnt0 + gs) A ∧ P = (kx_cnt S1, fun r S => r = r0 ∧ S = S1) ∧ cnt0 = kx_cnt S0 ∧ meth.locks = false
def ki_iret : kx_T := fun P _ _ st S => match st with
  | [.inl x] => P.2 (some (.inl x)) S
  | _ => False
def ki_zret : kx_T := fun P _ _ st S => match st with
  | [.inl x] => (x = 0 ∨ x = 1) ∧ P.2 (some (.inl x)) S
  | _ => False
def ki_lret : kx_T := fun P _ _ st S => match st with
  | [.inr (.inl x)] => P.2 (some (.inr (.inl x))) S
  | _ => False
def ki_aret : kx_T := fun P _ _ st S => match st with
  | [.inr (.inr z)] => P.2 (some (.inr (.inr z))) S
  | _ => False
def ki_vret : kx_T := fun P _ _ st S => match st with
  | [] => P.2 none S
  | _ => False
theorem ks_iret (Z : kx_Rt below args s meth Q D C4 A cnt0 ad0 P gx gs) (hx : p.tables.exec = Jvm.exec) (hb : c.code = cc) (hr : meth.sig.returnType = some .int) (d : decode cc pc = .ok (.ireturn, 1)) : kx_Snd (kx_W p l e R s m args below meth c Q D C4 A cnt0 ad0 nL gx gs P) P pc ki_iret := by
  obtain ⟨S0, r0, S1, rfl, rfl, rfl, hlocks⟩ := Z
  intro K hK L st S h ad H locs ls ha hc ho hst hL hP hD hS hl
  match st, h, hst with
  | [.inl x], h, hst =>
    obtain ⟨rfl, rfl⟩ := h
    exact W.iret (v := x) hx hb hr (fun t ht hW => ⟨⟨ad, ha, rfl, trivial, ho, by rw [ht]; exact hP, hD⟩, hS.F ht⟩) hS.2.2 d
theorem ks_lret (Z : kx_Rt below args s meth Q D C4 A cnt0 ad0 P gx gs) (hx : p.tables.exec = Jvm.exec) (hb : c.code = cc) (hr : meth.sig.returnType = some .long) (d : decode cc pc = .ok (.lreturn, 1)) : kx_Snd (kx_W p l e R s m args below meth c Q D C4 A cnt0 ad0 nL gx gs P) P pc ki_lret := by
  obtain ⟨S0, r0, S1, rfl, rfl, rfl, hlocks⟩ := Z
  intro K hK L st S h ad H locs ls ha hc ho hst hL hP hD hS hl
  match st, h, hst with
  | [.inr (.inl x)], h, hst =>
    obtain ⟨rfl, rfl⟩ := h
    exact W.lret (v := x) hx hb hr (fun t ht hW => ⟨⟨ad, ha, rfl, trivial, ho, by rw [ht]; exact hP, hD⟩, hS.F ht⟩) hS.2.2 d
theorem ks_vret (Z : kx_Rt below args s meth Q D C4 A cnt0 ad0 P gx gs) (hx : p.tables.exec = Jvm.exec) (hb : c.code = cc) (hr : meth.sig.returnType = none) (d : decode cc pc = .ok (.return_, 1)) : kx_Snd (kx_W p l e R s m args below meth c Q D C4 A cnt0 ad0 nL gx gs P) P pc ki_vret := by
  obtain ⟨S0, r0, S1, rfl, rfl, rfl, hlocks⟩ := Z
  intro K hK L st S h ad H locs ls ha hc ho hst hL hP hD hS hl
  match st, h, hst with
  | [], h, hst =>
    obtain ⟨rfl, rfl⟩ := h
    exact W.vret hx hb hr (fun t ht hW => ⟨⟨ad, ha, rfl, trivial, ho, by rw [ht]; exact hP, hD⟩, hS.F ht⟩) hS.2.2 d
theorem ks_zret (Z : kx_Rt below args s meth Q D C4 A cnt0 ad0 P gx gs) (hx : p.tables.exec = Jvm.exec) (hb : c.code = cc) (hr : meth.sig.returnType = some .boolean) (d : decode cc pc = .ok (.ireturn, 1)) : kx_Snd (kx_W p l e R s m args below meth c Q D C4 A cnt0 ad0 nL gx gs P) P pc ki_zret := by
  obtain ⟨S0, r0, S1, rfl, rfl, rfl, hlocks⟩ := Z
  intro K hK L st S h ad H locs ls ha hc ho hst hL hP hD hS hl
  match st, h, hst with
  | [.inl x], h, hst =>
    obtain ⟨rfl, rfl⟩ := h.2
    exact W.zret (v := x) hx hb hr (by rcases h.1 with rfl | rfl <;> rfl) (fun t ht hW => ⟨⟨ad, ha, rfl, trivial, ho, by rw [ht]; exact hP, hD⟩, hS.F ht⟩) hS.2.2 d
theorem ks_aret {C : String} (Z : kx_Rt below args s meth Q D C4 A cnt0 ad0 P gx gs) (hx : p.tables.exec = Jvm.exec) (hb : c.code = cc) (hr : meth.sig.returnType = some (.object C)) (d : decode cc pc = .ok (.areturn, 1)) : kx_Snd (kx_W p l e R s m args below meth c Q D C4 A cnt0 ad0 nL gx gs P) P pc ki_aret := by
  obtain ⟨S0, r0, S1, rfl, rfl, rfl, hlocks⟩ := Z
  intro K hK L st S h ad H locs ls ha hc ho hst hL hP hD hS hl
  match st, h, hst with
  | [.inr (.inr z)], h, hst =>
    obtain ⟨rfl, rfl⟩ := h
    exact W.aret (v := kx_cv ad (.inr (.inr z))) hx hb hr (Or.inl ⟨_, rfl⟩) (by
      rcases z with _ | q
      · exact Or.inl rfl
      · exact Or.inr ⟨_, rfl⟩) (fun t ht hW => ⟨⟨ad, ha, rfl, hst.1, ho, by rw [ht]; exact hP, hD⟩, hS.F ht⟩) hS.2.2 d
theorem kx_met {y : MethodName} {b : ByteArray} {nl mc ms : Nat} {ret : Option FieldType} {rm : Room} {tb : Nat → kx_T} (hy : plainName y.cls = true) (hrm : rm.cells = mc ∧ rm.slots = ms)
    (h : ∀ (p : Program) (e : Env) (s : State) (m : MethodId) (args : Array Value) (below : List Frame) (meth : Method) (c : Code) (Q : State → Prop) (D : va_G) (C4 : kx_C) (A : Nat → Prop) (cnt0 : Nat) (ad0 : Nat → Nat) (P : kx_P), kx_Ctx p rm s m args c b y.cls nl D C4 A cnt0 P 0 0 → kx_Rt below args s meth Q D C4 A cnt0 ad0 P 0 0 → meth.sig.returnType = ret → meth.name = y.name → ∀ pc, kx_Snd (kx_W p l e rm s m args below meth c Q D C4 A cnt0 ad0 nl 0 0 P) P pc (tb pc)) : kx_ok1 l y (kx_wd y b nl ret) rm (kx_sp tb nl) nl mc ms := by
  intro D C4 ad sz av S r S' hsp hcl hok hv hNC hmc hms
  refine Met.ofW (cc := b) (maxL := nl) (ret := ret) hy rfl ?_
  intro p e s m args below meth c s₁ B hml hvv
  obtain ⟨rfl, hsz, hP, hK, hD0, hN⟩ := hvv
  subst hsz
  have hts := atoms_spec (ws := kx_wd y b nl ret) B.pre
  have hin : meth.name = y.name := (name_of_methodNamed B.named B.method).1
  have hD := hD0.self (sz := s.heap.size)
  have hmc2 : kx_cnt S' - kx_cnt S = mc := by omega
  have hms2 : kx_sz (kx_cnt S') - kx_sz (kx_cnt S) = ms := by omega
  subst hmc2
  subst hms2
  have X : kx_Ctx p rm s m ((av.map (kx_cv ad)).toArray) c b y.cls nl D C4 (va_A (kx_ws C4 ad S) s.heap.size) (kx_cnt S) (kx_cnt S', fun r' S'' => r' = r ∧ S'' = S') 0 0 := ⟨⟨B.exec, B.bytes, hml, findClass_of_methodNamed B.named, fun w hw => hts w (List.mem_cons_of_mem _ hw)⟩, hK, hN, fun q hq => Or.inr hq, Nat.le_of_eq hrm.1.symm, Nat.le_of_eq hrm.2.symm, hNC⟩
  have Z : kx_Rt below ((av.map (kx_cv ad)).toArray) s meth (MQ below (kx_Q D C4 ad S r S' (va_A (kx_ws C4 ad S) s.heap.size)) ((av.map (kx_cv ad)).toArray) s (kx_cnt S' - kx_cnt S) (kx_sz (kx_cnt S') - kx_sz (kx_cnt S)) (va_A (kx_ws C4 ad S) s.heap.size)) D C4 (va_A (kx_ws C4 ad S) s.heap.size) (kx_cnt S) ad (kx_cnt S', fun r' S'' => r' = r ∧ S'' = S') 0 0 := ⟨S, r, S', rfl, rfl, rfl, B.notSynchronized⟩
  have hw := kx_sound (h p e s m _ below meth c _ D C4 _ _ ad _ X Z B.returns hin) hsp
  have hl := lv_entry (av.map (kx_cv ad)) (n := nl) (by rw [kx_catl_sl]; exact hcl)
  rw [lg_entry_eq]
  have hw2 := hw ad s.heap [] _ kx_agree.rf ⟨Nat.le_refl _, by show kx_cnt S ≤ kx_cnt S'; omega⟩ hv trivial (fun i v hi => kx_okl_mem hok v (kx_l0_get ad av nl i i v (by simpa using hi)).2) hP hD va_S.rf ⟨hl.1, hl.2.1, fun i v hi => hl.2.2 _ (by have := (kx_l0_get ad av nl 0 i v hi).1; simpa using this)⟩
  rw [Nat.sub_self, Nat.sub_self] at hw2
  exact hw2
end KXC

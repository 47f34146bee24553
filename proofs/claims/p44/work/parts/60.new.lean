/-! objects and arrays are made -/
theorem kx_cnt_some {S : kx_S} {k : Nat} (h : S.2.2 = some k) : kx_cnt S = k := by unfold kx_cnt; rw [h]
theorem kx_hv_some {S : kx_S} {k : Nat} (h : S.2.2 = some k) : kx_hv S ↔ (k ≤ kx_NC ∧ ∀ t o j t2 o2 : Nat, kx_ix t o < k → kx_tgt t o j = some (t2, o2) → S.1 t o j ≠ 0 → kx_ix t2 o2 < k) := by unfold kx_hv; rw [h]
theorem kx_kind5 (t a n : Nat) (h : kx_kind t = (a + 5, n)) : a = 4 := by
  have h1 : ∀ q ∈ kx_kinds, q.1 < 5 ∨ q.1 = 9 := by decide +kernel
  unfold kx_kind at h
  by_cases ht : t < kx_kinds.length
  · rw [List.getD_eq_getElem?_getD, List.getElem?_eq_getElem ht] at h
    have h2 := h1 _ (List.getElem_mem ht)
    simp only [Option.getD_some] at h
    rw [h] at h2
    dsimp only at h2
    omega
  · rw [List.getD_eq_getElem?_getD, List.getElem?_eq_none (by omega)] at h
    have := (Prod.mk.inj h).1
    omega
theorem kx_tgt_r {t o j n : Nat} (hk : kx_kind t = (4, n)) : kx_tgt t o j = some (kx_tSh, j) := by unfold kx_tgt; rw [hk]; rfl
theorem kx_en_push {C4 : kx_C} {ad ad' : Nat → Nat} {S S' : kx_S} {k k' t o : Nat} (hm : S.2.2 = some k) (hm' : S'.2.2 = some k') (hv : kx_hv S) (had : ∀ j, j < k → ad' j = ad j) (hi : kx_ix t o < k) (h1 : S'.1 t o = S.1 t o) (h2 : S'.2.1 t o = S.2.1 t o) : kx_en C4 ad' S' t o = kx_en C4 ad S t o := by
  have hv2 := ((kx_hv_some hm).mp hv).2
  have hr : ∀ j t2 o2, kx_tgt t o j = some (t2, o2) → kx_rv ad' S' t o j t2 o2 = kx_rv ad S t o j t2 o2 ∧ kx_ro ad' S' t o j t2 o2 = kx_ro ad S t o j t2 o2 := by
    intro j t2 o2 htg
    unfold kx_rv kx_ro
    rw [hm, hm']
    dsimp only
    rw [h1]
    by_cases hz : S.1 t o j = 0
    · simp [hz]
    · simp only [if_neg hz]
      rw [had _ (hv2 t o j t2 o2 hi htg hz)]
      exact ⟨rfl, rfl⟩
  rcases hkd : kx_kind t with ⟨a, n⟩
  match a, hkd with
  | 0, hkd =>
    rw [kx_en_o hkd, kx_en_o hkd]
    refine congrArg _ (congrArg _ (List.map_congr_left fun q hq => ?_))
    obtain ⟨f, j⟩ := q
    have hj : (kx_fts n)[j]? = some f := by
      have := List.mem_zipIdx_iff_getElem?.mp hq
      simpa using this
    unfold kx_sv
    cases f with
    | none => dsimp only; rw [h1]
    | some g => exact (hr j g.1 (g.2 o) (kx_tgt_o hkd hj)).1
  | 1, hkd => rw [kx_en_i hkd, kx_en_i hkd, h1]
  | 2, hkd => rw [kx_en_l hkd, kx_en_l hkd, h2]
  | 3, hkd => rw [kx_en_z hkd, kx_en_z hkd, h1]
  | 4, hkd =>
    rw [kx_en_r hkd, kx_en_r hkd]
    have e : (fun j => kx_ro ad' S' t o j kx_tSh j) = fun j => kx_ro ad S t o j kx_tSh j := by
      funext j
      exact (hr j _ _ (kx_tgt_r hkd)).2
    rw [e]
  | a + 5, hkd =>
    exfalso
    have h9 : kx_kind t = (9, n) := by rw [hkd, kx_kind5 t a n hkd]
    have hc := kx_ix_at (Nat.lt_of_lt_of_le hi ((kx_hv_some hm).mp hv).1)
    have h6 : ∀ q ∈ kx_cells, (kx_kind q.1).1 ≠ 9 := by decide +kernel
    exact h6 _ (List.mem_of_getElem? hc) (by rw [h9])
theorem kx_ws_push {C4 : kx_C} {ad ad' : Nat → Nat} {S S' : kx_S} {k t o : Nat} (hm : S.2.2 = some k) (hm' : S'.2.2 = some (k + 1)) (hv : kx_hv S) (hk : k < kx_NC) (had : ∀ j, j < k → ad' j = ad j) (hc : kx_cells[k]? = some (t, o)) (h1 : ∀ t2 o2, ¬ (t2 = t ∧ o2 = o) → S'.1 t2 o2 = S.1 t2 o2 ∧ S'.2.1 t2 o2 = S.2.1 t2 o2) :
    kx_ws C4 ad S ++ [(ad' k, kx_en C4 ad' S' t o)] = kx_ws C4 ad' S' := by
  have hn : kx_cnt S = k := kx_cnt_some hm
  have hn' : kx_cnt S' = k + 1 := kx_cnt_some hm'
  have hlen : (kx_ws C4 ad S).length = k := by rw [kx_ws_len (by omega), hn]
  apply List.ext_getElem?
  intro i
  by_cases hi : i < k
  · rw [List.getElem?_append_left (by omega)]
    have hl : i < kx_cells.length := by rw [kx_cells_len]; omega
    obtain ⟨⟨t2, o2⟩, hq⟩ : ∃ q, kx_cells[i]? = some q := ⟨_, List.getElem?_eq_getElem hl⟩
    have hix := kx_ix_of hq
    have hne : ¬ (t2 = t ∧ o2 = o) := by
      rintro ⟨rfl, rfl⟩
      have := kx_ix_of hc
      omega
    rw [kx_ws_k (by omega) hq, kx_ws_k (by omega) hq, had i hi, kx_en_push hm hm' hv had (by omega) (h1 t2 o2 hne).1 (h1 t2 o2 hne).2]
  · by_cases hi2 : i = k
    · subst hi2
      rw [List.getElem?_append_right (by omega), hlen, Nat.sub_self, kx_ws_k (by omega) hc]
      rfl
    · rw [List.getElem?_eq_none (by rw [List.length_append, hlen]; simp; omega), List.getElem?_eq_none (by rw [kx_ws_len (by omega)]; omega)]
theorem kx_hv_push {S S' : kx_S} {k t o : Nat} (hm : S.2.2 = some k) (hm' : S'.2.2 = some (k + 1)) (hv : kx_hv S) (hk : k < kx_NC) (hc : kx_cells[k]? = some (t, o)) (h1 : ∀ t2 o2, ¬ (t2 = t ∧ o2 = o) → S'.1 t2 o2 = S.1 t2 o2) (h2 : ∀ j q, kx_tgt t o j = some q → S'.1 t o j = 0) : kx_hv S' := by
  rw [kx_hv_some hm']
  refine ⟨hk, fun t5 o5 j5 t6 o6 g1 g2 g3 => ?_⟩
  by_cases hto : t5 = t ∧ o5 = o
  · obtain ⟨rfl, rfl⟩ := hto
    exact absurd (h2 _ _ g2) g3
  · rw [h1 _ _ hto] at g3
    have hlt : kx_ix t5 o5 < k := by
      refine Nat.lt_of_le_of_ne (by omega) fun e => hto ?_
      have h5 := kx_ix_at (t := t5) (o := o5) (by omega)
      rw [e, hc] at h5
      exact Prod.mk.inj (Option.some.inj h5.symm)
    exact Nat.lt_succ_of_lt (((kx_hv_some hm).mp hv).2 _ _ _ _ _ hlt g2 g3)
section KXN
variable {p : Program} {l : Launch} {e : Env} {R : Room} {s : State} {m : MethodId} {args : Array Value} {below : List Frame} {meth : Method} {c : Code} {Q : State → Prop} {D : va_G} {C4 : kx_C} {A : Nat → Prop} {cnt0 : Nat} {ad0 : Nat → Nat} {nL gx gs : Nat} {P : kx_P} {cc : ByteArray} {pc : Nat} {own : String}
def ki_new (cl n : Nat) : kx_T := fun P K L st S => match S.2.2 with
  | some k => (match kx_cells[k]? with
    | some (t, o) => bif Nat.beq t cl && Nat.ble (k + 1) P.1 then K n L (.inr (.inr (some (t, o))) :: st) (kx_uA S.1 t o (fun _ => 0), S.2.1, some (k + 1)) else False
    | none => False)
  | none => False
def ki_newa (a n : Nat) : kx_T := fun P K L st S => match st, S.2.2 with
  | .inl len :: r, some k => (match kx_cells[k]? with
    | some (t, o) => bif Nat.beq (kx_kind t).1 a && Nat.ble (k + 1) P.1 then len = Int32.ofNat (kx_kind t).2 ∧ K n L (.inr (.inr (some (t, o))) :: r) (kx_uA S.1 t o (fun _ => 0), kx_uL S.2.1 t o (fun _ => 0), some (k + 1)) else False
    | none => False)
  | _, _ => False
def ki_aast (n : Nat) : kx_T := fun _ K L st S => match st with
  | .inr (.inr (some (t3, o3))) :: .inl i :: .inr (.inr (some (t, o))) :: r => (match kx_kind t, S.2.2 with
    | (4, len), some _ => bif Nat.beq t3 kx_tSh then vp_in i len ∧ o3 = i.toNatClampNeg ∧ K n L r (kw S.1 t o i.toNatClampNeg 1, S.2) else False
    | _, _ => False)
  | _ => False
def ki_oinit (n : Nat) : kx_T := fun _ K L st S => match st with
  | .inr (.inr (some _)) :: r => bif Nat.ble (kx_catl r) 8 then K n L r S else False
  | _ => False
theorem ks_oinit (X : kx_Ctx p R s m args c cc own nL D C4 A cnt0 P gx gs) {index : Nat} (hlk : Cond.methodLink own index objectInit ∈ kx_tbl) (hins : Cond.instanceMethod objectInit ∈ kx_tbl) (hcode : Cond.code objectInit ⟨#[0xb1]⟩ 1 none ∈ kx_tbl) (hR : 1 ≤ R.frames ∧ 8 + 12 ≤ R.locals) (d : decode cc pc = .ok (.invokespecial index, 3)) : kx_Snd (kx_W p l e R s m args below meth c Q D C4 A cnt0 ad0 nL gx gs P) P pc (ki_oinit (pc + 3)) := by
  intro K hK L st S h ad H locs ls ha hc ho hst hL hP hD hS hl
  match st, h, hst with
  | .inr (.inr (some q)) :: r, g9, hst =>
    unfold ki_oinit at g9
    dsimp only at g9
    cases hq : Nat.ble (kx_catl r) 8 with
    | false => rw [hq] at g9; exact g9.elim
    | true =>
      rw [hq] at g9
      have hcat : kx_catl r ≤ 8 := Nat.le_of_ble_eq_true hq
      refine W.objInit X.1.1 X.1.2.1 X.1.2.2.2.1 (X.1.2.2.2.2 _ hlk) (X.1.2.2.2.2 _ hins) (X.1.2.2.2.2 _ hcode) rfl (by rw [X.1.2.2.1]; exact hl.1) rfl d hR.1 (by show 2 * 0 + _ + 12 ≤ _; rw [kx_catl_eq]; omega) ?_
      exact hK _ _ _ _ g9 ad H locs ls ha hc ho hst.2 hL hP hD hS hl
theorem ks_new (X : kx_Ctx p R s m args c cc own nL D C4 A cnt0 P gx gs) {C : String} {T : u_T} {N t index : Nat} {ty : Nat → FieldType} (hf : kx_cf t C T N ty) (hdf : (List.range N).all (fun j => match (kx_fts t)[j]? with
    | some (some _) => defaultValue (ty j) == .null
    | _ => defaultValue (ty j) == .int 0) = true) (hcl : Cond.classLink own index C ∈ kx_tbl) (hins : Cond.instantiable C N ∈ kx_tbl) (hini : Cond.initialized C ∈ kx_tbl) (hszN : ∀ k o, kx_cells[k]? = some (t, o) → kx_sz (k + 1) = kx_sz k + N) (d : decode cc pc = .ok (.new index, 3)) : kx_Snd (kx_W p l e R s m args below meth c Q D C4 A cnt0 ad0 nL gx gs P) P pc (ki_new t (pc + 3)) := by
  intro K hK L st S h ad H locs ls ha hc ho hst hL hP hD hS hl
  unfold ki_new at h
  split at h
  next k hm =>
    split at h
    next t1 o hcell =>
      cases hq : (Nat.beq t1 t && Nat.ble (k + 1) P.1) with
      | false => rw [hq] at h; exact h.elim
      | true =>
        rw [hq] at h
        simp only [Bool.and_eq_true] at hq
        obtain rfl := Nat.eq_of_beq_eq_true hq.1
        have hkP : k + 1 ≤ P.1 := Nat.le_of_ble_eq_true hq.2
        have hPN := X.2.2.2.2.2.2
        have hcn := kx_cnt_some hm
        have hcs : kx_sz (kx_cnt S) = kx_sz k := by rw [hcn]
        have hsz1 := hszN k o hcell
        have hm1 := kx_sz_mono (a := k + 1) (b := P.1) hkP hPN
        have hm0 := kx_sz_mono (a := cnt0) (b := k) (by omega) (by omega)
        have hRc := X.2.2.2.2.1
        have hRs := X.2.2.2.2.2.1
        refine va_new (D := D) (ci := t1) (fs := (kx_fts t1).zipIdx.map (kx_sv ad (kx_uA S.1 t1 o (fun _ => 0), S.2.1, some (k + 1)) t1 o)) X.1.1 X.1.2.1 X.1.2.2.2.2 hf.2.2.1 ty hf.2.2.2.1 X.1.2.2.2.1 (X.1.2.2.2.2 _ hcl) (X.1.2.2.2.2 _ hins) (X.1.2.2.2.2 _ hini) X.2.1 hP hD hS X.2.2.2.1 hf.2.1 (fun j hj => ?_) (by omega) (by omega) d (fun q H1 hP1 hD1 hS1 => ?_)
        · have hg : (kx_fts t1)[j]? = some ((kx_fts t1)[j]'(by rw [hf.2.2.2.2.2.1]; exact hj)) := List.getElem?_eq_getElem _
          have h2 := List.all_eq_true.mp hdf j (List.mem_range.mpr hj)
          rw [hg] at h2
          unfold vp_V
          rw [List.getD_eq_getElem?_getD, kx_fs_get hg]
          unfold kx_sv
          generalize (kx_fts t1)[j]'(by rw [hf.2.2.2.2.2.1]; exact hj) = f at h2 ⊢
          cases f with
          | none => simp only [kx_uA_eq, Option.getD_some]; simpa using h2
          | some g => simp only [kx_rv, kx_uA_eq, Option.getD_some]; simpa using h2
        · have hix := kx_ix_of hcell
          have e1 : kx_en C4 (fun j => if j = k then q else ad j) (kx_uA S.1 t1 o (fun _ => 0), S.2.1, some (k + 1)) t1 o = .inr (t1, (kx_fts t1).zipIdx.map (kx_sv ad (kx_uA S.1 t1 o (fun _ => 0), S.2.1, some (k + 1)) t1 o)) := by
            rw [kx_en_o hf.1]
            refine congrArg _ (congrArg _ (List.map_congr_left fun x hx => ?_))
            obtain ⟨f, j⟩ := x
            unfold kx_sv
            cases f with
            | none => rfl
            | some g => simp [kx_rv, kx_uA_eq]
          have hpush := kx_ws_push (C4 := C4) (ad := ad) (ad' := fun j => if j = k then q else ad j) (S := S) (S' := (kx_uA S.1 t1 o (fun _ => 0), S.2.1, some (k + 1))) hm rfl ho (by omega) (fun j hj => by simp [Nat.ne_of_lt hj]) hcell (fun t2 o2 hne => ⟨kx_uA_ne _ _ hne, rfl⟩)
          rw [e1] at hpush
          simp only [↓reduceIte] at hpush
          rw [hpush] at hP1 hD1
          have hag : kx_agree k ad (fun j => if j = k then q else ad j) := fun j hj => by
            rcases hj with hj | hj
            · simp [Nat.ne_of_lt hj]
            · have : j ≠ k := by omega
              simp [this]
          have hcn1 : kx_cnt (kx_uA S.1 t1 o (fun _ => 0), S.2.1, some (k + 1)) = k + 1 := rfl
          have hkk := hK _ _ _ _ h (fun j => if j = k then q else ad j) H1 locs ls (ha.tr hag (by omega)) ⟨by rw [hcn1]; omega, by rw [hcn1]; exact hkP⟩ (kx_hv_push (S := S) hm rfl ho (by omega) hcell (fun t2 o2 hne => kx_uA_ne _ _ hne) (fun j q2 _ => by dsimp only; rw [kx_uA_eq])) ⟨Or.inl (by show kx_ix t1 o < k + 1; omega), hst.mono (by rw [hcn1]; omega)⟩ (hL.mono (by rw [hcn1]; omega)) hP1 hD1 hS1 (hl.agree (n := k) hag (by rw [hcn] at hL; exact hL))
          have e2 : kx_cnt S - cnt0 + gx + 1 = kx_cnt (kx_uA S.1 t1 o (fun _ => 0), S.2.1, some (k + 1)) - cnt0 + gx := by rw [hcn1]; omega
          have e3 : kx_sz (kx_cnt S) - kx_sz cnt0 + gs + N = kx_sz (kx_cnt (kx_uA S.1 t1 o (fun _ => 0), S.2.1, some (k + 1))) - kx_sz cnt0 + gs := by rw [hcn1, hcn]; omega
          rw [e2, e3]
          rw [List.map_cons, kx_map_agree hag (by rw [hcn] at hst; exact hst)] at hkk
          have e4 : kx_cv (fun j => if j = k then q else ad j) (.inr (.inr (some (t1, o)))) = .ref q := by
            show Value.ref _ = _
            rw [hix]
            simp
          rw [e4] at hkk
          exact hkk
    next => exact h.elim
  next => exact h.elim
theorem kx_szk : ∀ k, k < kx_NC → ∀ q, kx_cells[k]? = some q → kx_sz (k + 1) = kx_sz k + (if (kx_kind q.1).1 = 0 then (kx_fts (kx_kind q.1).2).length else (kx_kind q.1).2) := by
  have h : ∀ k, k < kx_NC → (kx_cells[k]?).all (fun q => decide (kx_sz (k + 1) = kx_sz k + (if (kx_kind q.1).1 = 0 then (kx_fts (kx_kind q.1).2).length else (kx_kind q.1).2))) = true := by decide +kernel
  intro k hk q hq
  have h1 := h k hk
  rw [hq] at h1
  simpa using h1
theorem kx_sz_cl {t N : Nat} {C : String} {T : u_T} {ty : Nat → FieldType} (hf : kx_cf t C T N ty) : ∀ k o, kx_cells[k]? = some (t, o) → kx_sz (k + 1) = kx_sz k + N := by
  intro k o h
  have hk : k < kx_NC := by
    rw [← kx_cells_len]
    exact (List.getElem?_eq_some_iff.mp h).1
  rw [kx_szk k hk _ h, hf.1]
  dsimp only
  rw [if_pos rfl, hf.2.2.2.2.2.1]

theorem ks_newa1 (X : kx_Ctx p R s m args c cc own nL D C4 A cnt0 P gx gs) {atype : ArrayType} (hty : newarray.typeOf atype = .int) (harr : Cond.arrayClass (newarray.typeOf atype) ∈ kx_tbl) (d : decode cc pc = .ok (.newarray atype, 2)) : kx_Snd (kx_W p l e R s m args below meth c Q D C4 A cnt0 ad0 nL gx gs P) P pc (ki_newa 1 (pc + 2)) := by
  intro K hK L st S h ad H locs ls ha hc ho hst hL hP hD hS hl
  unfold ki_newa at h
  split at h
  next len r k hm =>
    split at h
    next t o hcell =>
      cases hq : (Nat.beq (kx_kind t).1 1 && Nat.ble (k + 1) P.1) with
      | false => rw [hq] at h; exact h.elim
      | true =>
        rw [hq] at h
        simp only [Bool.and_eq_true] at hq
        have hkP : k + 1 ≤ P.1 := Nat.le_of_ble_eq_true hq.2
        have hkd : kx_kind t = (1, (kx_kind t).2) := Prod.ext (Nat.eq_of_beq_eq_true hq.1) rfl
        generalize (kx_kind t).2 = N at hkd h
        obtain ⟨hlen, h⟩ := h
        have hPN := X.2.2.2.2.2.2
        have hcn := kx_cnt_some hm
        have hcs : kx_sz (kx_cnt S) = kx_sz k := by rw [hcn]
        have hN : N < 2 ^ 20 := by
          have h6 : ∀ q ∈ kx_cells, (kx_kind q.1).2 < 2 ^ 20 := by decide +kernel
          have h7 := h6 _ (List.mem_of_getElem? hcell)
          rw [hkd] at h7
          exact h7
        have hsz1 := kx_szk k (by omega) _ hcell
        rw [hkd] at hsz1
        simp only [] at hsz1
        rw [if_neg (by omega)] at hsz1
        have hm1 := kx_sz_mono (a := k + 1) (b := P.1) hkP hPN
        have hm0 := kx_sz_mono (a := cnt0) (b := k) (by omega) (by omega)
        have hRc := X.2.2.2.2.1
        have hRs := X.2.2.2.2.2.1
        subst hlen
        refine va_newa X.1.1 X.1.2.1 (X.1.2.2.2.2 _ harr) hty X.2.1 hP hD hS X.2.2.2.1 (N' := N) (a0 := (N, .inl (fun _ => 0))) (fun cA => rfl) (nI_pos (by omega)) (nI_clamp (by omega)) (Nat.le_trans (Nat.mul_le_mul (Nat.le_of_lt hN) (show componentBytes .int ≤ 8 by decide)) (by decide)) (by omega) (by omega) d (fun q cA H1 hK1 hP1 hD1 hS1 => ?_)
        have hcA : cA = C4.1 := by
          have h1 := va_nm_int (hK1.2 4 (cA, .int) rfl).2
          have h2 := va_nm_int (X.2.1.2 0 _ rfl).2
          exact Option.some.inj (h1.symm.trans h2)
        subst hcA
        have hix := kx_ix_of hcell
        have e1 : kx_en C4 (fun j => if j = k then q else ad j) (kx_uA S.1 t o (fun _ => 0), kx_uL S.2.1 t o (fun _ => 0), some (k + 1)) t o = .inl (C4.1, (N, .inl (fun _ => 0))) := by
          rw [kx_en_i hkd]
          simp only [kx_uA_eq, kx_uL_eq]
        have hpush := kx_ws_push (C4 := C4) (ad := ad) (ad' := fun j => if j = k then q else ad j) (S := S) (S' := (kx_uA S.1 t o (fun _ => 0), kx_uL S.2.1 t o (fun _ => 0), some (k + 1))) hm rfl ho (by omega) (fun j hj => by simp [Nat.ne_of_lt hj]) hcell (fun t2 o2 hne => ⟨kx_uA_ne _ _ hne, kx_uL_ne _ _ hne⟩)
        rw [e1] at hpush
        simp only [↓reduceIte] at hpush
        rw [hpush] at hP1 hD1
        have hag : kx_agree k ad (fun j => if j = k then q else ad j) := fun j hj => by
          rcases hj with hj | hj
          · simp [Nat.ne_of_lt hj]
          · have : j ≠ k := by omega
            simp [this]
        have hcn1 : kx_cnt (kx_uA S.1 t o (fun _ => 0), kx_uL S.2.1 t o (fun _ => 0), some (k + 1)) = k + 1 := rfl
        have hkk := hK _ _ _ _ h (fun j => if j = k then q else ad j) H1 locs ls (ha.tr hag (by omega)) ⟨by rw [hcn1]; omega, by rw [hcn1]; exact hkP⟩ (kx_hv_push (S := S) hm rfl ho (by omega) hcell (fun t2 o2 hne => kx_uA_ne _ _ hne) (fun j q2 _ => by dsimp only; rw [kx_uA_eq])) ⟨Or.inl (by show kx_ix t o < k + 1; omega), hst.2.mono (by rw [hcn1]; omega)⟩ (hL.mono (by rw [hcn1]; omega)) hP1 hD1 hS1 (hl.agree (n := k) hag (by rw [hcn] at hL; exact hL))
        have e2 : kx_cnt S - cnt0 + gx + 1 = kx_cnt (kx_uA S.1 t o (fun _ => 0), kx_uL S.2.1 t o (fun _ => 0), some (k + 1)) - cnt0 + gx := by rw [hcn1]; omega
        have e3 : kx_sz (kx_cnt S) - kx_sz cnt0 + gs + N = kx_sz (kx_cnt (kx_uA S.1 t o (fun _ => 0), kx_uL S.2.1 t o (fun _ => 0), some (k + 1))) - kx_sz cnt0 + gs := by rw [hcn1, hcn]; omega
        rw [e2, e3]
        rw [List.map_cons, kx_map_agree hag (by have := hst.2; rw [hcn] at this; exact this)] at hkk
        have e4 : kx_cv (fun j => if j = k then q else ad j) (.inr (.inr (some (t, o)))) = .ref q := by
          show Value.ref _ = _
          rw [hix]
          simp
        rw [e4] at hkk
        exact hkk
    next => exact h.elim
  next => exact h.elim
theorem ks_newa2 (X : kx_Ctx p R s m args c cc own nL D C4 A cnt0 P gx gs) {atype : ArrayType} (hty : newarray.typeOf atype = .long) (harr : Cond.arrayClass (newarray.typeOf atype) ∈ kx_tbl) (d : decode cc pc = .ok (.newarray atype, 2)) : kx_Snd (kx_W p l e R s m args below meth c Q D C4 A cnt0 ad0 nL gx gs P) P pc (ki_newa 2 (pc + 2)) := by
  intro K hK L st S h ad H locs ls ha hc ho hst hL hP hD hS hl
  unfold ki_newa at h
  split at h
  next len r k hm =>
    split at h
    next t o hcell =>
      cases hq : (Nat.beq (kx_kind t).1 2 && Nat.ble (k + 1) P.1) with
      | false => rw [hq] at h; exact h.elim
      | true =>
        rw [hq] at h
        simp only [Bool.and_eq_true] at hq
        have hkP : k + 1 ≤ P.1 := Nat.le_of_ble_eq_true hq.2
        have hkd : kx_kind t = (2, (kx_kind t).2) := Prod.ext (Nat.eq_of_beq_eq_true hq.1) rfl
        generalize (kx_kind t).2 = N at hkd h
        obtain ⟨hlen, h⟩ := h
        have hPN := X.2.2.2.2.2.2
        have hcn := kx_cnt_some hm
        have hcs : kx_sz (kx_cnt S) = kx_sz k := by rw [hcn]
        have hN : N < 2 ^ 20 := by
          have h6 : ∀ q ∈ kx_cells, (kx_kind q.1).2 < 2 ^ 20 := by decide +kernel
          have h7 := h6 _ (List.mem_of_getElem? hcell)
          rw [hkd] at h7
          exact h7
        have hsz1 := kx_szk k (by omega) _ hcell
        rw [hkd] at hsz1
        simp only [] at hsz1
        rw [if_neg (by omega)] at hsz1
        have hm1 := kx_sz_mono (a := k + 1) (b := P.1) hkP hPN
        have hm0 := kx_sz_mono (a := cnt0) (b := k) (by omega) (by omega)
        have hRc := X.2.2.2.2.1
        have hRs := X.2.2.2.2.2.1
        subst hlen
        refine va_newa X.1.1 X.1.2.1 (X.1.2.2.2.2 _ harr) hty X.2.1 hP hD hS X.2.2.2.1 (N' := N) (a0 := (N, .inr (.inl (fun _ => 0)))) (fun cA => rfl) (nI_pos (by omega)) (nI_clamp (by omega)) (Nat.le_trans (Nat.mul_le_mul (Nat.le_of_lt hN) (show componentBytes .long ≤ 8 by decide)) (by decide)) (by omega) (by omega) d (fun q cA H1 hK1 hP1 hD1 hS1 => ?_)
        have hcA : cA = C4.2.1 := by
          have h1 := va_nm_long (hK1.2 4 (cA, .long) rfl).2
          have h2 := va_nm_long (X.2.1.2 1 _ rfl).2
          exact Option.some.inj (h1.symm.trans h2)
        subst hcA
        have hix := kx_ix_of hcell
        have e1 : kx_en C4 (fun j => if j = k then q else ad j) (kx_uA S.1 t o (fun _ => 0), kx_uL S.2.1 t o (fun _ => 0), some (k + 1)) t o = .inl (C4.2.1, (N, .inr (.inl (fun _ => 0)))) := by
          rw [kx_en_l hkd]
          simp only [kx_uA_eq, kx_uL_eq]
        have hpush := kx_ws_push (C4 := C4) (ad := ad) (ad' := fun j => if j = k then q else ad j) (S := S) (S' := (kx_uA S.1 t o (fun _ => 0), kx_uL S.2.1 t o (fun _ => 0), some (k + 1))) hm rfl ho (by omega) (fun j hj => by simp [Nat.ne_of_lt hj]) hcell (fun t2 o2 hne => ⟨kx_uA_ne _ _ hne, kx_uL_ne _ _ hne⟩)
        rw [e1] at hpush
        simp only [↓reduceIte] at hpush
        rw [hpush] at hP1 hD1
        have hag : kx_agree k ad (fun j => if j = k then q else ad j) := fun j hj => by
          rcases hj with hj | hj
          · simp [Nat.ne_of_lt hj]
          · have : j ≠ k := by omega
            simp [this]
        have hcn1 : kx_cnt (kx_uA S.1 t o (fun _ => 0), kx_uL S.2.1 t o (fun _ => 0), some (k + 1)) = k + 1 := rfl
        have hkk := hK _ _ _ _ h (fun j => if j = k then q else ad j) H1 locs ls (ha.tr hag (by omega)) ⟨by rw [hcn1]; omega, by rw [hcn1]; exact hkP⟩ (kx_hv_push (S := S) hm rfl ho (by omega) hcell (fun t2 o2 hne => kx_uA_ne _ _ hne) (fun j q2 _ => by dsimp only; rw [kx_uA_eq])) ⟨Or.inl (by show kx_ix t o < k + 1; omega), hst.2.mono (by rw [hcn1]; omega)⟩ (hL.mono (by rw [hcn1]; omega)) hP1 hD1 hS1 (hl.agree (n := k) hag (by rw [hcn] at hL; exact hL))
        have e2 : kx_cnt S - cnt0 + gx + 1 = kx_cnt (kx_uA S.1 t o (fun _ => 0), kx_uL S.2.1 t o (fun _ => 0), some (k + 1)) - cnt0 + gx := by rw [hcn1]; omega
        have e3 : kx_sz (kx_cnt S) - kx_sz cnt0 + gs + N = kx_sz (kx_cnt (kx_uA S.1 t o (fun _ => 0), kx_uL S.2.1 t o (fun _ => 0), some (k + 1))) - kx_sz cnt0 + gs := by rw [hcn1, hcn]; omega
        rw [e2, e3]
        rw [List.map_cons, kx_map_agree hag (by have := hst.2; rw [hcn] at this; exact this)] at hkk
        have e4 : kx_cv (fun j => if j = k then q else ad j) (.inr (.inr (some (t, o)))) = .ref q := by
          show Value.ref _ = _
          rw [hix]
          simp
        rw [e4] at hkk
        exact hkk
    next => exact h.elim
  next => exact h.elim
theorem ks_newq (X : kx_Ctx p R s m args c cc own nL D C4 A cnt0 P gx gs) {index : Nat} (hcl : Cond.classLink own index "KeptLight$Shelf" ∈ kx_tbl) (d : decode cc pc = .ok (.anewarray index, 3)) : kx_Snd (kx_W p l e R s m args below meth c Q D C4 A cnt0 ad0 nL gx gs P) P pc (ki_newa 4 (pc + 3)) := by
  intro K hK L st S h ad H locs ls ha hc ho hst hL hP hD hS hl
  unfold ki_newa at h
  split at h
  next len r k hm =>
    split at h
    next t o hcell =>
      cases hq : (Nat.beq (kx_kind t).1 4 && Nat.ble (k + 1) P.1) with
      | false => rw [hq] at h; exact h.elim
      | true =>
        rw [hq] at h
        simp only [Bool.and_eq_true] at hq
        have hkP : k + 1 ≤ P.1 := Nat.le_of_ble_eq_true hq.2
        have hkd : kx_kind t = (4, (kx_kind t).2) := Prod.ext (Nat.eq_of_beq_eq_true hq.1) rfl
        generalize (kx_kind t).2 = N at hkd h
        obtain ⟨hlen, h⟩ := h
        have hPN := X.2.2.2.2.2.2
        have hcn := kx_cnt_some hm
        have hcs : kx_sz (kx_cnt S) = kx_sz k := by rw [hcn]
        have hN : N < 2 ^ 20 := by
          have h6 : ∀ q ∈ kx_cells, (kx_kind q.1).2 < 2 ^ 20 := by decide +kernel
          have h7 := h6 _ (List.mem_of_getElem? hcell)
          rw [hkd] at h7
          exact h7
        have hsz1 := kx_szk k (by omega) _ hcell
        rw [hkd] at hsz1
        simp only [] at hsz1
        rw [if_neg (by omega)] at hsz1
        have hm1 := kx_sz_mono (a := k + 1) (b := P.1) hkP hPN
        have hm0 := kx_sz_mono (a := cnt0) (b := k) (by omega) (by omega)
        have hRc := X.2.2.2.2.1
        have hRs := X.2.2.2.2.2.1
        subst hlen
        refine va_newq X.1.1 X.1.2.1 X.1.2.2.2.1 (X.1.2.2.2.2 _ hcl) X.2.2.1.2 X.2.1 hP hD hS X.2.2.2.1 (N' := N) (nI_pos (by omega)) (nI_clamp (by omega)) (by omega) (by omega) (by omega) d (fun q cA H1 hK1 hP1 hD1 hS1 => ?_)
        have hcA : cA = C4.2.2.2 := by
          have h1 := va_nmO (hK1.2 4 (cA, .object "KeptLight$Shelf") rfl).2 rfl
          have h2 := va_nmO (X.2.1.2 3 _ rfl).2 rfl
          exact Option.some.inj (h1.symm.trans h2)
        subst hcA
        have hix := kx_ix_of hcell
        have e1 : kx_en C4 (fun j => if j = k then q else ad j) (kx_uA S.1 t o (fun _ => 0), kx_uL S.2.1 t o (fun _ => 0), some (k + 1)) t o = .inl (C4.2.2.2, (N, .inr (.inr (.inr (.inr (fun _ => none)))))) := by
          rw [kx_en_r hkd]
          simp only [kx_ro, kx_uA_eq, ↓reduceIte]
        have hpush := kx_ws_push (C4 := C4) (ad := ad) (ad' := fun j => if j = k then q else ad j) (S := S) (S' := (kx_uA S.1 t o (fun _ => 0), kx_uL S.2.1 t o (fun _ => 0), some (k + 1))) hm rfl ho (by omega) (fun j hj => by simp [Nat.ne_of_lt hj]) hcell (fun t2 o2 hne => ⟨kx_uA_ne _ _ hne, kx_uL_ne _ _ hne⟩)
        rw [e1] at hpush
        simp only [↓reduceIte] at hpush
        rw [hpush] at hP1 hD1
        have hag : kx_agree k ad (fun j => if j = k then q else ad j) := fun j hj => by
          rcases hj with hj | hj
          · simp [Nat.ne_of_lt hj]
          · have : j ≠ k := by omega
            simp [this]
        have hcn1 : kx_cnt (kx_uA S.1 t o (fun _ => 0), kx_uL S.2.1 t o (fun _ => 0), some (k + 1)) = k + 1 := rfl
        have hkk := hK _ _ _ _ h (fun j => if j = k then q else ad j) H1 locs ls (ha.tr hag (by omega)) ⟨by rw [hcn1]; omega, by rw [hcn1]; exact hkP⟩ (kx_hv_push (S := S) hm rfl ho (by omega) hcell (fun t2 o2 hne => kx_uA_ne _ _ hne) (fun j q2 _ => by dsimp only; rw [kx_uA_eq])) ⟨Or.inl (by show kx_ix t o < k + 1; omega), hst.2.mono (by rw [hcn1]; omega)⟩ (hL.mono (by rw [hcn1]; omega)) hP1 hD1 hS1 (hl.agree (n := k) hag (by rw [hcn] at hL; exact hL))
        have e2 : kx_cnt S - cnt0 + gx + 1 = kx_cnt (kx_uA S.1 t o (fun _ => 0), kx_uL S.2.1 t o (fun _ => 0), some (k + 1)) - cnt0 + gx := by rw [hcn1]; omega
        have e3 : kx_sz (kx_cnt S) - kx_sz cnt0 + gs + N = kx_sz (kx_cnt (kx_uA S.1 t o (fun _ => 0), kx_uL S.2.1 t o (fun _ => 0), some (k + 1))) - kx_sz cnt0 + gs := by rw [hcn1, hcn]; omega
        rw [e2, e3]
        rw [List.map_cons, kx_map_agree hag (by have := hst.2; rw [hcn] at this; exact this)] at hkk
        have e4 : kx_cv (fun j => if j = k then q else ad j) (.inr (.inr (some (t, o)))) = .ref q := by
          show Value.ref _ = _
          rw [hix]
          simp
        rw [e4] at hkk
        exact hkk
    next => exact h.elim
  next => exact h.elim
theorem ks_aast (X : kx_Ctx p R s m args c cc own nL D C4 A cnt0 P gx gs) {T : u_T} {N : Nat} {ty : Nat → FieldType} (hf : kx_cf kx_tSh "KeptLight$Shelf" T N ty) (d : decode cc pc = .ok (.aastore, 1)) : kx_Snd (kx_W p l e R s m args below meth c Q D C4 A cnt0 ad0 nL gx gs P) P pc (ki_aast (pc + 1)) := by
  intro K hK L st S h ad H locs ls ha hc ho hst hL hP hD hS hl
  match st, h, hst with
  | .inr (.inr (some (t3, o3))) :: .inl i :: .inr (.inr (some (t, o))) :: r, g9, hst =>
    unfold ki_aast at g9
    dsimp only at g9
    split at g9
    next len k hk hm =>
      cases hq : Nat.beq t3 kx_tSh with
      | false => rw [hq] at g9; exact g9.elim
      | true =>
        rw [hq] at g9
        obtain rfl := Nat.eq_of_beq_eq_true hq
        obtain ⟨hin, rfl, g9⟩ := g9
        have hi := kx_ok_lt hst.2.2.1 hk (Nat.ne_of_beq_eq_false rfl)
        have hi3 := kx_ok_lt hst.1 hf.1 (Nat.ne_of_beq_eq_false rfl)
        have he := kx_ws_at (C4 := C4) (ad := ad) hi ho.le
        have he3 := kx_ws_at (C4 := C4) (ad := ad) hi3 ho.le
        rw [kx_en_r hk] at he
        rw [kx_en_o hf.1] at he3
        have hset := kx_set1 (C4 := C4) (ad := ad) (f := upd (S.1 t o) i.toNatClampNeg 1) hi ho.le
        rw [kx_en_r hk] at hset
        have e : (fun j => kx_ro ad (kx_uA S.1 t o (upd (S.1 t o) i.toNatClampNeg 1), S.2) t o j kx_tSh j) = va_up (fun j => kx_ro ad S t o j kx_tSh j) i.toNatClampNeg (some (ad (kx_ix kx_tSh i.toNatClampNeg))) := by
          funext j
          simp only [kx_ro, va_up, kx_uA_eq, hm]
          by_cases hj : j = i.toNatClampNeg
          · subst hj; simp [upd]
          · simp [upd, hj]
        rw [e] at hset
        refine va_astq (D := D) (r := ("KeptLight$Shelf", T, N)) X.1.1 X.1.2.1 X.2.1 hP hD hS _ 3 _ kx_tSh he rfl he3 hf.2.1 hin d (fun H1 locs1 hP1 hD1 hS1 => ?_)
        rw [hset] at hP1 hD1
        refine hK _ _ _ _ g9 ad H1 locs1 ls ha hc ?_ hst.2.2.2 hL hP1 hD1 hS1 hl
        rw [kx_hv_some (S := (kw S.1 t o i.toNatClampNeg 1, S.2)) hm]
        have hv0 := (kx_hv_some hm).mp ho
        rw [kx_cnt_some hm] at hi3
        refine ⟨hv0.1, fun t5 o5 j5 t6 o6 h1 h2 h4 => ?_⟩
        by_cases hto : t5 = t ∧ o5 = o
        · obtain ⟨rfl, rfl⟩ := hto
          dsimp only [kw] at h4
          rw [kx_uA_eq] at h4
          by_cases hjj : j5 = i.toNatClampNeg
          · subst hjj
            rw [kx_tgt_r hk] at h2
            cases h2
            exact hi3
          · simp only [upd, if_neg hjj] at h4
            exact hv0.2 _ _ _ _ _ h1 h2 h4
        · dsimp only [kw] at h4
          rw [kx_uA_ne _ _ hto] at h4
          exact hv0.2 _ _ _ _ _ h1 h2 h4
    next => exact g9.elim
end KXN

theorem kx_ok_lt {n t o : Nat} {k : Nat × Nat} (h : kx_ok n (.inr (.inr (some (t, o))))) (hk : kx_kind t = k) (h9 : k.1 ≠ 9) : kx_ix t o < n := by
  rcases h with h | h
  · exact h
  · exfalso
    have h2 : t = 999 := h
    subst h2
    subst hk
    exact h9 (by decide +kernel)
theorem kx_hv.le {S : kx_S} (h : kx_hv S) : kx_cnt S ≤ kx_NC := by
  unfold kx_hv at h
  unfold kx_cnt
  split at h
  next he => exact Nat.le_refl _
  next k he => exact h.1
theorem kx_hv_same {S S' : kx_S} (h3 : S'.2.2 = S.2.2) (ho : ∀ t o j q, kx_tgt t o j = some q → S'.1 t o j = S.1 t o j) (h : kx_hv S) : kx_hv S' := by
  unfold kx_hv at h ⊢
  rw [h3]
  split
  next => trivial
  next k he =>
    rw [he] at h
    refine ⟨h.1, fun t o j t2 o2 h1 h2 h4 => h.2 t o j t2 o2 h1 h2 ?_⟩
    rw [← ho t o j _ h2]
    exact h4
theorem kx_cnt_same {S S' : kx_S} (h3 : S'.2.2 = S.2.2) : kx_cnt S' = kx_cnt S := by unfold kx_cnt; rw [h3]
theorem kx_tgt_o {t o c j : Nat} {f : kx_F} (hk : kx_kind t = (0, c)) (hf : (kx_fts c)[j]? = some f) : kx_tgt t o j = f.map (fun g => (g.1, g.2 o)) := by
  unfold kx_tgt
  rw [hk]
  show (match (kx_fts c)[j]? with
    | some (some f) => some (f.1, f.2 o)
    | _ => none) = _
  rw [hf]
  cases f <;> rfl
theorem kx_tgt_n {t o j a n : Nat} (hk : kx_kind t = (a + 1, n)) (h4 : a ≠ 3) : kx_tgt t o j = none := by
  unfold kx_tgt
  rw [hk]
  split
  next h => cases h
  next h => exfalso; exact h4 (by have := (Prod.mk.inj h).1; omega)
  next => rfl
/-- what a class's rows of the tables say -/
def kx_cf (t : Nat) (C : String) (T : u_T) (N : Nat) (ty : Nat → FieldType) : Prop := kx_kind t = (0, t) ∧ vwCl[t]? = some (C, T, N) ∧ (∀ w ∈ u_ws C T N, w ∈ kx_tbl) ∧ (∀ k, k < N → parseFieldDescriptor (T k).2.2.1 = some (ty k)) ∧ (∀ a, a < N → ∀ b, b < N → a ≠ b → (T a).2.1 ≠ (T b).2.1) ∧ (kx_fts t).length = N ∧ (∀ k, k < N → (T k).1 = C)
theorem kx_set1 {C4 : kx_C} {ad : Nat → Nat} {S : kx_S} {t o : Nat} {f : Nat → Int32} (h : kx_ix t o < kx_cnt S) (hn : kx_cnt S ≤ kx_NC) : (kx_ws C4 ad S).set (kx_ix t o) (ad (kx_ix t o), kx_en C4 ad (kx_uA S.1 t o f, S.2) t o) = kx_ws C4 ad (kx_uA S.1 t o f, S.2) :=
  kx_ws_set h hn rfl (fun t2 o2 hne => kx_en_same (kx_uA_ne _ _ hne) rfl rfl)
theorem kx_set2 {C4 : kx_C} {ad : Nat → Nat} {S : kx_S} {t o : Nat} {f : Nat → Int64} (h : kx_ix t o < kx_cnt S) (hn : kx_cnt S ≤ kx_NC) : (kx_ws C4 ad S).set (kx_ix t o) (ad (kx_ix t o), kx_en C4 ad (S.1, kx_uL S.2.1 t o f, S.2.2) t o) = kx_ws C4 ad (S.1, kx_uL S.2.1 t o f, S.2.2) :=
  kx_ws_set h hn rfl (fun t2 o2 hne => kx_en_same rfl (kx_uL_ne _ _ hne) rfl)
section KXH
variable {p : Program} {l : Launch} {e : Env} {R : Room} {s : State} {m : MethodId} {args : Array Value} {below : List Frame} {meth : Method} {c : Code} {Q : State → Prop} {D : va_G} {C4 : kx_C} {A : Nat → Prop} {cnt0 : Nat} {ad0 : Nat → Nat} {nL gx gs : Nat} {P : kx_P} {cc : ByteArray} {pc : Nat}
def ki_getI (t j n : Nat) : kx_T := fun _ K L st S => match st with
  | .inr (.inr (some (t1, o))) :: r => bif Nat.beq t1 t then K n L (.inl (S.1 t o j) :: r) S else False
  | _ => False
def ki_getR (t j t2 : Nat) (g : Nat → Nat) (n : Nat) : kx_T := fun _ K L st S => match st with
  | .inr (.inr (some (t1, o))) :: r => bif Nat.beq t1 t then (match S.2.2 with
    | none => K n L (.inr (.inr (some (t2, g o))) :: r) S
    | some _ => S.1 t o j ≠ 0 ∧ K n L (.inr (.inr (some (t2, g o))) :: r) S) else False
  | _ => False
def ki_putI (t j n : Nat) : kx_T := fun _ K L st S => match st with
  | .inl x :: .inr (.inr (some (t1, o))) :: r => bif Nat.beq t1 t then K n L r (kw S.1 t o j x, S.2) else False
  | _ => False
def ki_putZ (t j n : Nat) : kx_T := fun _ K L st S => match st with
  | .inl x :: .inr (.inr (some (t1, o))) :: r => bif Nat.beq t1 t then (x = 0 ∨ x = 1) ∧ K n L r (kw S.1 t o j x, S.2) else False
  | _ => False
def ki_putR (t j t2 : Nat) (g : Nat → Nat) (n : Nat) : kx_T := fun _ K L st S => match st with
  | .inr (.inr (some (t3, o3))) :: .inr (.inr (some (t1, o))) :: r => bif Nat.beq t1 t && Nat.beq t3 t2 && Nat.beq o3 (g o) then (match S.2.2 with
    | none => False
    | some _ => K n L r (kw S.1 t o j 1, S.2)) else False
  | _ => False

theorem ks_getI (hx : p.tables.exec = Jvm.exec) (hb : c.code = cc) (hts : ∀ w ∈ kx_tbl, w.before args s = true) {own C : String} {T : u_T} {N t j index : Nat} {ty : Nat → FieldType} (hown : s.vm.findClass own = some m.cls) (hK9 : va_K D vwCl (kx_tys C4) s) (hf : kx_cf t C T N ty) (hj : (kx_fts t)[j]? = some none) (hlk : Cond.fieldLink own index C (T j).2.1 (T j).2.2.1 ∈ kx_tbl) (d : decode cc pc = .ok (.getfield index, 3)) : kx_Snd (kx_W p l e R s m args below meth c Q D C4 A cnt0 ad0 nL gx gs P) P pc (ki_getI t j (pc + 3)) := by
  intro K hK L st S h ad H locs ls ha hc ho hst hL hP hD hS hl
  match st, h, hst with
  | .inr (.inr (some (t1, o))) :: r, h, hst =>
    unfold ki_getI at h
    dsimp only at h
    cases hq : Nat.beq t1 t with
    | false => rw [hq] at h; exact h.elim
    | true =>
      rw [hq] at h
      obtain rfl := Nat.eq_of_beq_eq_true hq
      have hi := kx_ok_lt hst.1 hf.1 (Nat.ne_of_beq_eq_false rfl)
      have he := kx_ws_at (C4 := C4) (ad := ad) hi ho.le
      rw [kx_en_o hf.1] at he
      have hjN : j < N := by rw [← hf.2.2.2.2.2.1]; exact (List.getElem?_eq_some_iff.mp hj).1
      have hT : (T j).1 = C := hf.2.2.2.2.2.2 j hjN
      exact va_get (D := D) hx hb hts hf.2.2.1 hown hK9 hP _ he hf.2.1 j hjN (hts _ hlk) (fun _ h9 => by rw [← hT]; exact h9) (v := .int (S.1 t1 o j)) (kx_fs_get hj) d (hK _ _ _ _ h ad H locs ls ha hc ho ⟨trivial, hst.2⟩ hL hP hD hS hl)
theorem ks_getR (hx : p.tables.exec = Jvm.exec) (hb : c.code = cc) (hts : ∀ w ∈ kx_tbl, w.before args s = true) {own C : String} {T : u_T} {N t j index : Nat} {ty : Nat → FieldType} (hown : s.vm.findClass own = some m.cls) (hK9 : va_K D vwCl (kx_tys C4) s) (hf : kx_cf t C T N ty) {t2 : Nat} {g : Nat → Nat} (hj : (kx_fts t)[j]? = some (some (t2, g))) (hlk : Cond.fieldLink own index C (T j).2.1 (T j).2.2.1 ∈ kx_tbl) (d : decode cc pc = .ok (.getfield index, 3)) : kx_Snd (kx_W p l e R s m args below meth c Q D C4 A cnt0 ad0 nL gx gs P) P pc (ki_getR t j t2 g (pc + 3)) := by
  intro K hK L st S h ad H locs ls ha hc ho hst hL hP hD hS hl
  match st, h, hst with
  | .inr (.inr (some (t1, o))) :: r, h, hst =>
    unfold ki_getR at h
    dsimp only at h
    cases hq : Nat.beq t1 t with
    | false => rw [hq] at h; exact h.elim
    | true =>
      rw [hq] at h
      obtain rfl := Nat.eq_of_beq_eq_true hq
      have hi := kx_ok_lt hst.1 hf.1 (Nat.ne_of_beq_eq_false rfl)
      have he := kx_ws_at (C4 := C4) (ad := ad) hi ho.le
      rw [kx_en_o hf.1] at he
      have hjN : j < N := by rw [← hf.2.2.2.2.2.1]; exact (List.getElem?_eq_some_iff.mp hj).1
      have hT : (T j).1 = C := hf.2.2.2.2.2.2 j hjN
      have hm : (t1, o) ∈ kx_cells := List.mem_of_getElem? (kx_ix_at (Nat.lt_of_lt_of_le hi ho.le))
      obtain ⟨hv, hk2, hok⟩ : kx_sv ad S t1 o (some (t2, g), j) = .ref (ad (kx_ix t2 (g o))) ∧ K (pc + 3) L (.inr (.inr (some (t2, g o))) :: r) S ∧ kx_ix t2 (g o) < kx_cnt S := by
        cases hm2 : S.2.2 with
        | none =>
          rw [hm2] at h
          refine ⟨by unfold kx_sv kx_rv; dsimp only; rw [hm2], h, ?_⟩
          have hz := kx_closed _ hm (some (t2, g)) (by rw [hf.1]; dsimp only; rw [if_pos rfl]; exact List.mem_of_getElem? hj) (t2, g) rfl
          unfold kx_cnt
          rw [hm2]
          exact hz
        | some k =>
          rw [hm2] at h
          refine ⟨by unfold kx_sv kx_rv; dsimp only; rw [hm2]; dsimp only; rw [if_neg h.1], h.2, ?_⟩
          unfold kx_hv at ho
          rw [hm2] at ho
          have hcn : kx_cnt S = k := by unfold kx_cnt; rw [hm2]
          rw [hcn] at hi ⊢
          exact ho.2 t1 o j t2 (g o) hi (kx_tgt_o hf.1 hj) h.1
      have hget := kx_fs_get (ad := ad) (S := S) (t := t1) (o := o) hj
      rw [hv] at hget
      exact va_get (D := D) hx hb hts hf.2.2.1 hown hK9 hP _ he hf.2.1 j hjN (hts _ hlk) (fun _ h9 => by rw [← hT]; exact h9) hget d (hK _ _ _ _ hk2 ad H locs ls ha hc ho ⟨Or.inl hok, hst.2⟩ hL hP hD hS hl)
theorem ks_putI (hx : p.tables.exec = Jvm.exec) (hb : c.code = cc) (hts : ∀ w ∈ kx_tbl, w.before args s = true) {own C : String} {T : u_T} {N t j index : Nat} {ty : Nat → FieldType} (hown : s.vm.findClass own = some m.cls) (hK9 : va_K D vwCl (kx_tys C4) s) (hf : kx_cf t C T N ty) (hj : (kx_fts t)[j]? = some none) (hlk : Cond.fieldLink own index C (T j).2.1 (T j).2.2.1 ∈ kx_tbl) (hfin : (T j).2.2.2 = false) (hd : parseFieldDescriptor (T j).2.2.1 = some .int) (d : decode cc pc = .ok (.putfield index, 3)) : kx_Snd (kx_W p l e R s m args below meth c Q D C4 A cnt0 ad0 nL gx gs P) P pc (ki_putI t j (pc + 3)) := by
  intro K hK L st S h ad H locs ls ha hc ho hst hL hP hD hS hl
  match st, h, hst with
  | .inl x :: .inr (.inr (some (t1, o))) :: r, h, hst =>
    unfold ki_putI at h
    dsimp only at h
    cases hq : Nat.beq t1 t with
    | false => rw [hq] at h; exact h.elim
    | true =>
      rw [hq] at h
      obtain rfl := Nat.eq_of_beq_eq_true hq
      have hi := kx_ok_lt hst.2.1 hf.1 (Nat.ne_of_beq_eq_false rfl)
      have he := kx_ws_at (C4 := C4) (ad := ad) hi ho.le
      rw [kx_en_o hf.1] at he
      have hjN : j < N := by rw [← hf.2.2.2.2.2.1]; exact (List.getElem?_eq_some_iff.mp hj).1
      have hT : (T j).1 = C := hf.2.2.2.2.2.2 j hjN
      have hset := kx_set1 (C4 := C4) (ad := ad) (f := upd (S.1 t1 o) j x) hi ho.le
      have hfs := kx_fs_set (ad := ad) (S := S) (S' := (kx_uA S.1 t1 o (upd (S.1 t1 o) j x), S.2)) (t := t1) (o := o) (v := .int x) hj (by unfold kx_sv; dsimp only; rw [kx_uA_eq]; simp [upd]) rfl (fun i hi2 => by dsimp only; rw [kx_uA_eq]; simp [upd, hi2])
      rw [kx_en_o hf.1, ← hfs] at hset
      refine va_put (D := D) hx hb hts hf.2.2.1 ty hf.2.2.2.1 hf.2.2.2.2.1 hown hK9 hP hD hS _ he hf.2.1 j hjN (hts _ hlk) (fun _ h9 => by rw [← hT]; exact h9) hfin (v := .int x) hd rfl rfl (by rw [kx_fs_len, hf.2.2.2.2.2.1]; exact hjN) d (fun H1 locs1 hP1 hD1 hS1 => ?_)
      rw [hset] at hP1 hD1
      refine hK _ _ _ _ h ad H1 locs1 ls ha hc (kx_hv_same (S := S) rfl (fun t3 o3 j3 q hq3 => ?_) ho) hst.2.2 hL hP1 hD1 hS1 hl
      by_cases hto : t3 = t1 ∧ o3 = o
      · obtain ⟨rfl, rfl⟩ := hto
        dsimp only [kw]
        rw [kx_uA_eq]
        by_cases hjj : j3 = j
        · subst hjj
          rw [kx_tgt_o hf.1 hj] at hq3
          cases hq3
        · simp [upd, hjj]
      · dsimp only [kw]
        rw [kx_uA_ne _ _ hto]
theorem ks_putZ (hx : p.tables.exec = Jvm.exec) (hb : c.code = cc) (hts : ∀ w ∈ kx_tbl, w.before args s = true) {own C : String} {T : u_T} {N t j index : Nat} {ty : Nat → FieldType} (hown : s.vm.findClass own = some m.cls) (hK9 : va_K D vwCl (kx_tys C4) s) (hf : kx_cf t C T N ty) (hj : (kx_fts t)[j]? = some none) (hlk : Cond.fieldLink own index C (T j).2.1 (T j).2.2.1 ∈ kx_tbl) (hfin : (T j).2.2.2 = false) (hd : parseFieldDescriptor (T j).2.2.1 = some .boolean) (d : decode cc pc = .ok (.putfield index, 3)) : kx_Snd (kx_W p l e R s m args below meth c Q D C4 A cnt0 ad0 nL gx gs P) P pc (ki_putZ t j (pc + 3)) := by
  intro K hK L st S h ad H locs ls ha hc ho hst hL hP hD hS hl
  match st, h, hst with
  | .inl x :: .inr (.inr (some (t1, o))) :: r, h, hst =>
    unfold ki_putZ at h
    dsimp only at h
    cases hq : Nat.beq t1 t with
    | false => rw [hq] at h; exact h.elim
    | true =>
      rw [hq] at h
      obtain rfl := Nat.eq_of_beq_eq_true hq
      have hi := kx_ok_lt hst.2.1 hf.1 (Nat.ne_of_beq_eq_false rfl)
      have he := kx_ws_at (C4 := C4) (ad := ad) hi ho.le
      rw [kx_en_o hf.1] at he
      have hjN : j < N := by rw [← hf.2.2.2.2.2.1]; exact (List.getElem?_eq_some_iff.mp hj).1
      have hT : (T j).1 = C := hf.2.2.2.2.2.2 j hjN
      have hset := kx_set1 (C4 := C4) (ad := ad) (f := upd (S.1 t1 o) j x) hi ho.le
      have hfs := kx_fs_set (ad := ad) (S := S) (S' := (kx_uA S.1 t1 o (upd (S.1 t1 o) j x), S.2)) (t := t1) (o := o) (v := .int x) hj (by unfold kx_sv; dsimp only; rw [kx_uA_eq]; simp [upd]) rfl (fun i hi2 => by dsimp only; rw [kx_uA_eq]; simp [upd, hi2])
      rw [kx_en_o hf.1, ← hfs] at hset
      refine va_put (D := D) hx hb hts hf.2.2.1 ty hf.2.2.2.1 hf.2.2.2.2.1 hown hK9 hP hD hS _ he hf.2.1 j hjN (hts _ hlk) (fun _ h9 => by rw [← hT]; exact h9) hfin (v := .int x) hd (by rcases h.1 with rfl | rfl <;> rfl) (by rcases h.1 with rfl | rfl <;> rfl) (by rw [kx_fs_len, hf.2.2.2.2.2.1]; exact hjN) d (fun H1 locs1 hP1 hD1 hS1 => ?_)
      rw [hset] at hP1 hD1
      refine hK _ _ _ _ h.2 ad H1 locs1 ls ha hc (kx_hv_same (S := S) rfl (fun t3 o3 j3 q hq3 => ?_) ho) hst.2.2 hL hP1 hD1 hS1 hl
      by_cases hto : t3 = t1 ∧ o3 = o
      · obtain ⟨rfl, rfl⟩ := hto
        dsimp only [kw]
        rw [kx_uA_eq]
        by_cases hjj : j3 = j
        · subst hjj
          rw [kx_tgt_o hf.1 hj] at hq3
          cases hq3
        · simp [upd, hjj]
      · dsimp only [kw]
        rw [kx_uA_ne _ _ hto]
theorem ks_putR (hx : p.tables.exec = Jvm.exec) (hb : c.code = cc) (hts : ∀ w ∈ kx_tbl, w.before args s = true) {own C : String} {T : u_T} {N t j index : Nat} {ty : Nat → FieldType} (hown : s.vm.findClass own = some m.cls) (hK9 : va_K D vwCl (kx_tys C4) s) (hf : kx_cf t C T N ty) {t2 : Nat} {g : Nat → Nat} {ty1 : FieldType} (hj : (kx_fts t)[j]? = some (some (t2, g))) (hlk : Cond.fieldLink own index C (T j).2.1 (T j).2.2.1 ∈ kx_tbl) (hfin : (T j).2.2.2 = true) (hin2 : meth.name = "<init>") (hoC : own = C) (hd : parseFieldDescriptor (T j).2.2.1 = some ty1) (hnr : ∀ a, narrow ty1 (.ref a) = .ref a) (hft : ∀ a, fits ty1 (.ref a) = true) (d : decode cc pc = .ok (.putfield index, 3)) : kx_Snd (kx_W p l e R s m args below meth c Q D C4 A cnt0 ad0 nL gx gs P) P pc (ki_putR t j t2 g (pc + 3)) := by
  intro K hK L st S h ad H locs ls ha hc ho hst hL hP hD hS hl
  match st, h, hst with
  | .inr (.inr (some (t3, o3))) :: .inr (.inr (some (t1, o))) :: r, g9, hst =>
    unfold ki_putR at g9
    dsimp only at g9
    cases hq : (Nat.beq t1 t && Nat.beq t3 t2 && Nat.beq o3 (g o)) with
    | false => rw [hq] at g9; exact g9.elim
    | true =>
      rw [hq] at g9
      simp only [Bool.and_eq_true] at hq
      obtain rfl := Nat.eq_of_beq_eq_true hq.1.1
      obtain rfl := Nat.eq_of_beq_eq_true hq.1.2
      obtain rfl := Nat.eq_of_beq_eq_true hq.2
      cases hm2 : S.2.2 with
      | none => rw [hm2] at g9; exact g9.elim
      | some k =>
      rw [hm2] at g9
      have hi := kx_ok_lt hst.2.1 hf.1 (Nat.ne_of_beq_eq_false rfl)
      have he := kx_ws_at (C4 := C4) (ad := ad) hi ho.le
      rw [kx_en_o hf.1] at he
      have hjN : j < N := by rw [← hf.2.2.2.2.2.1]; exact (List.getElem?_eq_some_iff.mp hj).1
      have hT : (T j).1 = C := hf.2.2.2.2.2.2 j hjN
      have hset := kx_set1 (C4 := C4) (ad := ad) (f := upd (S.1 t1 o) j 1) hi ho.le
      have hfs := kx_fs_set (ad := ad) (S := S) (S' := (kx_uA S.1 t1 o (upd (S.1 t1 o) j 1), S.2)) (t := t1) (o := o) (v := .ref (ad (kx_ix t3 (g o)))) hj (by unfold kx_sv kx_rv; dsimp only; simp only [hm2, kx_uA_eq]; simp [upd]) rfl (fun i hi2 => by dsimp only; rw [kx_uA_eq]; simp [upd, hi2])
      rw [kx_en_o hf.1, ← hfs] at hset
      refine va_putF (D := D) hx hb hts hf.2.2.1 ty hf.2.2.2.1 hf.2.2.2.2.1 hown hK9 hP hD hS _ he hf.2.1 j hjN (hts _ hlk) (fun _ h9 => by rw [← hT]; exact h9) hfin hin2 (hT.trans hoC.symm) (v := .ref (ad (kx_ix t3 (g o)))) hd (hnr _) (hft _) (by rw [kx_fs_len, hf.2.2.2.2.2.1]; exact hjN) d (fun H1 locs1 hP1 hD1 hS1 => ?_)
      rw [hset] at hP1 hD1
      have hok3 : kx_ix t3 (g o) < kx_cnt S := by
        rcases hst.1 with h9 | h9
        · exact h9
        · exfalso
          have hcl := kx_closed _ (List.mem_of_getElem? (kx_ix_at (Nat.lt_of_lt_of_le hi ho.le))) (some (t3, g)) (by rw [hf.1]; dsimp only; rw [if_pos rfl]; exact List.mem_of_getElem? hj) (t3, g) rfl
          have h8 : t3 = 999 := h9
          have h7 := kx_ix_at hcl
          have h6 : ∀ q ∈ kx_cells, q.1 ≠ 999 := by decide +kernel
          exact h6 _ (List.mem_of_getElem? h7) h8
      refine hK _ _ _ _ g9 ad H1 locs1 ls ha hc ?_ hst.2.2 hL hP1 hD1 hS1 hl
      have hcn : kx_cnt S = k := by unfold kx_cnt; rw [hm2]
      unfold kx_hv at ho ⊢
      dsimp only [kw]
      rw [hm2] at ho ⊢
      rw [hcn] at hok3
      refine ⟨ho.1, fun t5 o5 j5 t6 o6 h1 h2 h4 => ?_⟩
      by_cases hto : t5 = t1 ∧ o5 = o
      · obtain ⟨rfl, rfl⟩ := hto
        by_cases hjj : j5 = j
        · subst hjj
          rw [kx_tgt_o hf.1 hj] at h2
          cases h2
          exact hok3
        · rw [kx_uA_eq] at h4
          simp only [upd, if_neg hjj] at h4
          exact ho.2 _ _ _ _ _ h1 h2 h4
      · rw [kx_uA_ne _ _ hto] at h4
        exact ho.2 _ _ _ _ _ h1 h2 h4
def ki_iald (n : Nat) : kx_T := fun _ K L st S => match st with
  | .inl i :: .inr (.inr (some (t, o))) :: r => (match kx_kind t with
    | (1, len) => vp_in i len ∧ K n L (.inl (S.1 t o i.toNatClampNeg) :: r) S
    | _ => False)
  | _ => False
def ki_iast (n : Nat) : kx_T := fun _ K L st S => match st with
  | .inl x :: .inl i :: .inr (.inr (some (t, o))) :: r => (match kx_kind t with
    | (1, len) => vp_in i len ∧ K n L r (kw S.1 t o i.toNatClampNeg x, S.2)
    | _ => False)
  | _ => False
def ki_bald (n : Nat) : kx_T := fun _ K L st S => match st with
  | .inl i :: .inr (.inr (some (t, o))) :: r => (match kx_kind t with
    | (3, len) => vp_in i len ∧ K n L (.inl (S.1 t o i.toNatClampNeg) :: r) S
    | _ => False)
  | _ => False
def ki_bast (n : Nat) : kx_T := fun _ K L st S => match st with
  | .inl x :: .inl i :: .inr (.inr (some (t, o))) :: r => (match kx_kind t with
    | (3, len) => vp_in i len ∧ K n L r (kw S.1 t o i.toNatClampNeg (vp_nar .boolean x), S.2)
    | _ => False)
  | _ => False
def ki_lald (n : Nat) : kx_T := fun _ K L st S => match st with
  | .inl i :: .inr (.inr (some (t, o))) :: r => (match kx_kind t with
    | (2, len) => vp_in i len ∧ K n L (.inr (.inl (S.2.1 t o i.toNatClampNeg)) :: r) S
    | _ => False)
  | _ => False
def ki_last (n : Nat) : kx_T := fun _ K L st S => match st with
  | .inr (.inl x) :: .inl i :: .inr (.inr (some (t, o))) :: r => (match kx_kind t with
    | (2, len) => vp_in i len ∧ K n L r (S.1, kwL S.2.1 t o i.toNatClampNeg x, S.2.2)
    | _ => False)
  | _ => False
def ki_aald (n : Nat) : kx_T := fun _ K L st S => match st with
  | .inl i :: .inr (.inr (some (t, o))) :: r => (match kx_kind t, S.2.2 with
    | (4, len), none => vp_in i len ∧ K n L (.inr (.inr (some (kx_tSh, i.toNatClampNeg))) :: r) S
    | _, _ => False)
  | _ => False
def ki_alen (n : Nat) : kx_T := fun _ K L st S => match st with
  | .inr (.inr (some (t, o))) :: r => (match kx_kind t with
    | (1, len) => K n L (.inl (Int32.ofNat len) :: r) S
    | (2, len) => K n L (.inl (Int32.ofNat len) :: r) S
    | (4, len) => K n L (.inl (Int32.ofNat len) :: r) S
    | _ => False)
  | _ => False
def ki_acopy (n : Nat) : kx_T := fun _ K L st S => match st with
  | [.inl k, .inl dp, .inr (.inr (some (t2, o2))), .inl sp, .inr (.inr (some (t1, o1)))] => (match kx_kind t1, kx_kind t2 with
    | (1, l1), (1, l2) => ¬ sp < 0 ∧ ¬ dp < 0 ∧ ¬ k < 0 ∧ sp.toNatClampNeg + k.toNatClampNeg ≤ l1 ∧ dp.toNatClampNeg + k.toNatClampNeg ≤ l2 ∧ K n L [] (kcI S.1 t1 o1 t2 o2 sp.toNatClampNeg dp.toNatClampNeg k.toNatClampNeg, S.2)
    | (2, l1), (2, l2) => ¬ sp < 0 ∧ ¬ dp < 0 ∧ ¬ k < 0 ∧ sp.toNatClampNeg + k.toNatClampNeg ≤ l1 ∧ dp.toNatClampNeg + k.toNatClampNeg ≤ l2 ∧ K n L [] (S.1, kcL S.2.1 t1 o1 t2 o2 sp.toNatClampNeg dp.toNatClampNeg k.toNatClampNeg, S.2.2)
    | _, _ => False)
  | _ => False
theorem kx_hv_arr {S : kx_S} {t o a n : Nat} {f : Nat → Int32} (hk : kx_kind t = (a + 1, n)) (h4 : a ≠ 3) (h : kx_hv S) : kx_hv (kx_uA S.1 t o f, S.2) := by
  refine kx_hv_same (S := S) rfl (fun t3 o3 j3 q hq3 => ?_) h
  by_cases hto : t3 = t ∧ o3 = o
  · obtain ⟨rfl, rfl⟩ := hto
    rw [kx_tgt_n hk h4] at hq3
    cases hq3
  · dsimp only
    rw [kx_uA_ne _ _ hto]
theorem kx_kind4 : ∀ t n, kx_kind t = (4, n) → n = 8 := by
  intro t n h
  have h1 : ∀ q ∈ kx_kinds, q.1 = 4 → q.2 = 8 := by decide +kernel
  unfold kx_kind at h
  by_cases ht : t < kx_kinds.length
  · rw [List.getD_eq_getElem?_getD, List.getElem?_eq_getElem ht] at h
    have h2 := h1 _ (List.getElem_mem ht)
    simp only [Option.getD_some] at h
    rw [h] at h2
    exact h2 rfl
  · rw [List.getD_eq_getElem?_getD, List.getElem?_eq_none (by omega)] at h
    cases h
theorem ks_iald (hx : p.tables.exec = Jvm.exec) (hb : c.code = cc) (hK9 : va_K D vwCl (kx_tys C4) s) (d : decode cc pc = .ok (.iaload, 1)) : kx_Snd (kx_W p l e R s m args below meth c Q D C4 A cnt0 ad0 nL gx gs P) P pc (ki_iald (pc + 1)) := by
  intro K hK L st S h ad H locs ls ha hc ho hst hL hP hD hS hl
  match st, h, hst with
  | .inl i :: .inr (.inr (some (t, o))) :: r, h, hst =>
    unfold ki_iald at h
    dsimp only at h
    split at h
    next len hk =>
      have hi := kx_ok_lt hst.2.1 hk (Nat.ne_of_beq_eq_false rfl)
      have he := kx_ws_at (C4 := C4) (ad := ad) hi ho.le
      rw [kx_en_i hk] at he
      exact va_iald hx hb hK9 hP _ 0 he rfl h.1 d (hK _ _ _ _ h.2 ad H locs ls ha hc ho ⟨trivial, hst.2.2⟩ hL hP hD hS hl)
    next => exact h.elim
theorem ks_lald (hx : p.tables.exec = Jvm.exec) (hb : c.code = cc) (hK9 : va_K D vwCl (kx_tys C4) s) (d : decode cc pc = .ok (.laload, 1)) : kx_Snd (kx_W p l e R s m args below meth c Q D C4 A cnt0 ad0 nL gx gs P) P pc (ki_lald (pc + 1)) := by
  intro K hK L st S h ad H locs ls ha hc ho hst hL hP hD hS hl
  match st, h, hst with
  | .inl i :: .inr (.inr (some (t, o))) :: r, h, hst =>
    unfold ki_lald at h
    dsimp only at h
    split at h
    next len hk =>
      have hi := kx_ok_lt hst.2.1 hk (Nat.ne_of_beq_eq_false rfl)
      have he := kx_ws_at (C4 := C4) (ad := ad) hi ho.le
      rw [kx_en_l hk] at he
      exact va_lald hx hb hK9 hP _ 1 he rfl h.1 d (hK _ _ _ _ h.2 ad H locs ls ha hc ho ⟨trivial, hst.2.2⟩ hL hP hD hS hl)
    next => exact h.elim
theorem ks_iast (hx : p.tables.exec = Jvm.exec) (hb : c.code = cc) (hK9 : va_K D vwCl (kx_tys C4) s) (d : decode cc pc = .ok (.iastore, 1)) : kx_Snd (kx_W p l e R s m args below meth c Q D C4 A cnt0 ad0 nL gx gs P) P pc (ki_iast (pc + 1)) := by
  intro K hK L st S h ad H locs ls ha hc ho hst hL hP hD hS hl
  match st, h, hst with
  | .inl x :: .inl i :: .inr (.inr (some (t, o))) :: r, h, hst =>
    unfold ki_iast at h
    dsimp only at h
    split at h
    next len hk =>
      have hi := kx_ok_lt hst.2.2.1 hk (Nat.ne_of_beq_eq_false rfl)
      have he := kx_ws_at (C4 := C4) (ad := ad) hi ho.le
      rw [kx_en_i hk] at he
      have hset := kx_set1 (C4 := C4) (ad := ad) (f := upd (S.1 t o) i.toNatClampNeg x) hi ho.le
      rw [kx_en_i hk] at hset
      dsimp only at hset
      rw [kx_uA_eq] at hset
      refine va_iast hx hb hK9 hP hD hS _ 0 he rfl h.1 d (fun H1 locs1 hP1 hD1 hS1 => ?_)
      rw [hset] at hP1 hD1
      exact hK _ _ _ _ h.2 ad H1 locs1 ls ha hc (kx_hv_arr (a := 0) hk (by decide) ho) hst.2.2.2 hL hP1 hD1 hS1 hl
    next => exact h.elim
theorem ks_last (hx : p.tables.exec = Jvm.exec) (hb : c.code = cc) (hK9 : va_K D vwCl (kx_tys C4) s) (d : decode cc pc = .ok (.lastore, 1)) : kx_Snd (kx_W p l e R s m args below meth c Q D C4 A cnt0 ad0 nL gx gs P) P pc (ki_last (pc + 1)) := by
  intro K hK L st S h ad H locs ls ha hc ho hst hL hP hD hS hl
  match st, h, hst with
  | .inr (.inl x) :: .inl i :: .inr (.inr (some (t, o))) :: r, h, hst =>
    unfold ki_last at h
    dsimp only at h
    split at h
    next len hk =>
      have hi := kx_ok_lt hst.2.2.1 hk (Nat.ne_of_beq_eq_false rfl)
      have he := kx_ws_at (C4 := C4) (ad := ad) hi ho.le
      rw [kx_en_l hk] at he
      have hset := kx_set2 (C4 := C4) (ad := ad) (f := vp_updL (S.2.1 t o) i.toNatClampNeg x) hi ho.le
      rw [kx_en_l hk] at hset
      dsimp only at hset
      rw [kx_uL_eq] at hset
      refine va_last hx hb hK9 hP hD hS _ 1 he rfl h.1 d (fun H1 locs1 hP1 hD1 hS1 => ?_)
      rw [hset] at hP1 hD1
      exact hK _ _ _ _ h.2 ad H1 locs1 ls ha hc (kx_hv_same (S := S) rfl (fun _ _ _ _ _ => rfl) ho) hst.2.2.2 hL hP1 hD1 hS1 hl
    next => exact h.elim
theorem ks_aald (hx : p.tables.exec = Jvm.exec) (hb : c.code = cc) (hK9 : va_K D vwCl (kx_tys C4) s) (d : decode cc pc = .ok (.aaload, 1)) : kx_Snd (kx_W p l e R s m args below meth c Q D C4 A cnt0 ad0 nL gx gs P) P pc (ki_aald (pc + 1)) := by
  intro K hK L st S h ad H locs ls ha hc ho hst hL hP hD hS hl
  match st, h, hst with
  | .inl i :: .inr (.inr (some (t, o))) :: r, h, hst =>
    unfold ki_aald at h
    dsimp only at h
    split at h
    next len hk hm =>
      have hi := kx_ok_lt hst.2.1 hk (Nat.ne_of_beq_eq_false rfl)
      have he := kx_ws_at (C4 := C4) (ad := ad) hi ho.le
      rw [kx_en_r hk] at he
      have h8 := kx_kind4 _ _ hk
      subst h8
      have hlt : i.toNatClampNeg < 8 := Nat.not_le.mp fun q => h.1 (Or.inr q)
      have hok : kx_ok (kx_cnt S) (.inr (.inr (some (kx_tSh, i.toNatClampNeg)))) := by
        refine Or.inl ?_
        unfold kx_cnt
        rw [hm]
        exact kx_closed_r _ hlt
      have hkk := hK _ _ _ _ h.2 ad H locs ls ha hc ho ⟨hok, hst.2.2⟩ hL hP hD hS hl
      refine va_aldq hx hb hK9 hP _ 3 he rfl h.1 d ?_
      have e9 : kx_ro ad S t o i.toNatClampNeg kx_tSh i.toNatClampNeg = some (ad (kx_ix kx_tSh i.toNatClampNeg)) := by
        unfold kx_ro
        rw [hm]
      rw [e9]
      exact hkk
    next => exact h.elim
theorem ks_alen (hx : p.tables.exec = Jvm.exec) (hb : c.code = cc) (hK9 : va_K D vwCl (kx_tys C4) s) (d : decode cc pc = .ok (.arraylength, 1)) : kx_Snd (kx_W p l e R s m args below meth c Q D C4 A cnt0 ad0 nL gx gs P) P pc (ki_alen (pc + 1)) := by
  intro K hK L st S h ad H locs ls ha hc ho hst hL hP hD hS hl
  match st, h, hst with
  | .inr (.inr (some (t, o))) :: r, h, hst =>
    unfold ki_alen at h
    dsimp only at h
    split at h
    next len hk =>
      have hi := kx_ok_lt hst.1 hk (Nat.ne_of_beq_eq_false rfl)
      have he := kx_ws_at (C4 := C4) (ad := ad) hi ho.le
      rw [kx_en_i hk] at he
      exact va_alen hx hb hK9 hP _ 0 he rfl rfl d (hK _ _ _ _ h ad H locs ls ha hc ho ⟨trivial, hst.2⟩ hL hP hD hS hl)
    next len hk =>
      have hi := kx_ok_lt hst.1 hk (Nat.ne_of_beq_eq_false rfl)
      have he := kx_ws_at (C4 := C4) (ad := ad) hi ho.le
      rw [kx_en_l hk] at he
      exact va_alen hx hb hK9 hP _ 1 he rfl rfl d (hK _ _ _ _ h ad H locs ls ha hc ho ⟨trivial, hst.2⟩ hL hP hD hS hl)
    next len hk =>
      have hi := kx_ok_lt hst.1 hk (Nat.ne_of_beq_eq_false rfl)
      have he := kx_ws_at (C4 := C4) (ad := ad) hi ho.le
      rw [kx_en_r hk] at he
      exact va_alen hx hb hK9 hP _ 3 he rfl rfl d (hK _ _ _ _ h ad H locs ls ha hc ho ⟨trivial, hst.2⟩ hL hP hD hS hl)
    next => exact h.elim
theorem ks_acopy (hx : p.tables.exec = Jvm.exec) (hb : c.code = cc) (hK9 : va_K D vwCl (kx_tys C4) s) (hts : ∀ w ∈ kx_tbl, w.before args s = true) {own : String} {index : Nat} (hml : c.maxLocals = nL) (hown : s.vm.findClass own = some m.cls) (hlk : Cond.methodLink own index arraycopyName ∈ kx_tbl) (hnat : Cond.native arraycopyName ∈ kx_tbl) (hstat : Cond.static arraycopyName ∈ kx_tbl) (hini : Cond.initialized "java/lang/System" ∈ kx_tbl) (hfr : 1 ≤ R.frames) (hlo : 0 + (nativeFrameWords "java/lang/System" "arraycopy" 5 + 11) ≤ R.locals) (d : decode cc pc = .ok (.invokestatic index, 3)) : kx_Snd (kx_W p l e R s m args below meth c Q D C4 A cnt0 ad0 nL gx gs P) P pc (ki_acopy (pc + 3)) := by
  intro K hK L st S h ad H locs ls ha hc ho hst hL hP hD hS hl
  match st, h, hst with
  | [.inl k, .inl dp, .inr (.inr (some (t2, o2))), .inl sp, .inr (.inr (some (t1, o1)))], h, hst =>
    unfold ki_acopy at h
    dsimp only at h
    split at h
    next l1 l2 hk1 hk2 =>
      obtain ⟨h1, h2, h3, h4, h5, h⟩ := h
      have hi2 := kx_ok_lt hst.2.2.1 hk2 (Nat.ne_of_beq_eq_false rfl)
      have hi1 := kx_ok_lt hst.2.2.2.2.1 hk1 (Nat.ne_of_beq_eq_false rfl)
      have he1 := kx_ws_at (C4 := C4) (ad := ad) hi1 ho.le
      have he2 := kx_ws_at (C4 := C4) (ad := ad) hi2 ho.le
      rw [kx_en_i hk1] at he1
      rw [kx_en_i hk2] at he2
      have hset := kx_set1 (C4 := C4) (ad := ad) (f := va_cpy (S.1 t1 o1) (S.1 t2 o2) sp.toNatClampNeg dp.toNatClampNeg k.toNatClampNeg) hi2 ho.le
      rw [kx_en_i hk2] at hset
      dsimp only at hset
      rw [kx_uA_eq] at hset
      refine va_copyi hx hb (hml.trans hl.1.symm) hown (hts _ hlk) (hts _ hnat) (hts _ hstat) (hts _ hini) hK9 hP hD hS _ _ 0 0 he1 he2 rfl rfl rfl h1 h2 h3 h4 h5 (fun _ _ => rfl) hfr hlo d (fun H1 locs1 hP1 hD1 hS1 => ?_)
      rw [hset] at hP1 hD1
      exact hK _ _ _ _ h ad H1 locs1 ls ha hc (kx_hv_arr (a := 0) hk2 (by decide) ho) trivial hL hP1 hD1 hS1 hl
    next l1 l2 hk1 hk2 =>
      obtain ⟨h1, h2, h3, h4, h5, h⟩ := h
      have hi2 := kx_ok_lt hst.2.2.1 hk2 (Nat.ne_of_beq_eq_false rfl)
      have hi1 := kx_ok_lt hst.2.2.2.2.1 hk1 (Nat.ne_of_beq_eq_false rfl)
      have he1 := kx_ws_at (C4 := C4) (ad := ad) hi1 ho.le
      have he2 := kx_ws_at (C4 := C4) (ad := ad) hi2 ho.le
      rw [kx_en_l hk1] at he1
      rw [kx_en_l hk2] at he2
      have hset := kx_set2 (C4 := C4) (ad := ad) (f := va_cpy (S.2.1 t1 o1) (S.2.1 t2 o2) sp.toNatClampNeg dp.toNatClampNeg k.toNatClampNeg) hi2 ho.le
      rw [kx_en_l hk2] at hset
      dsimp only at hset
      rw [kx_uL_eq] at hset
      refine va_copyl hx hb (hml.trans hl.1.symm) hown (hts _ hlk) (hts _ hnat) (hts _ hstat) (hts _ hini) hK9 hP hD hS _ _ 1 1 he1 he2 rfl rfl rfl h1 h2 h3 h4 h5 (fun _ _ => rfl) hfr hlo d (fun H1 locs1 hP1 hD1 hS1 => ?_)
      rw [hset] at hP1 hD1
      exact hK _ _ _ _ h ad H1 locs1 ls ha hc (kx_hv_same (S := S) rfl (fun _ _ _ _ _ => rfl) ho) trivial hL hP1 hD1 hS1 hl
    next => exact h.elim
end KXH

section KXJ
variable {l : Launch}
theorem kx_metF {y : MethodName} {b : ByteArray} {nl mc ms : Nat} {ret : Option FieldType} {rm : Room} {tb : Nat → kx_T} (hy : plainFor y = true) (hrm : rm.cells = mc ∧ rm.slots = ms)
    (h : ∀ (p : Program) (e : Env) (s : State) (m : MethodId) (args : Array Value) (below : List Frame) (meth : Method) (c : Code) (Q : State → Prop) (D : va_G) (C4 : kx_C) (A : Nat → Prop) (cnt0 : Nat) (ad0 : Nat → Nat) (P : kx_P), kx_Ctx p rm s m args c b y.cls nl D C4 A cnt0 P 0 0 → kx_Rt below args s meth Q D C4 A cnt0 ad0 P 0 0 → meth.sig.returnType = ret → meth.name = y.name → ∀ pc, kx_Snd (kx_W p l e rm s m args below meth c Q D C4 A cnt0 ad0 nl 0 0 P) P pc (tb pc)) : kx_ok1 l y (kx_wd y b nl ret) rm (kx_sp tb nl) nl mc ms := by
  intro D C4 ad sz av S r S' hsp hcl hok hv hNC hmc hms
  refine va_MetF (cc := b) (maxL := nl) (ret := ret) hy rfl ?_
  intro p e s m args below meth c s₁ B hml hvv
  obtain ⟨rfl, hsz, hP, hK, hD0, hN⟩ := hvv
  subst hsz
  have hts := atoms_spec (ws := kx_wd y b nl ret) B.pre
  have hin : meth.name = y.name := (name_of_methodNamed B.named B.method).1
  have hD := hD0.self (sz := s.heap.size)
  have hmc2 : kx_cnt S' - kx_cnt S = mc := by omega
  have hms2 : kx_sz (kx_cnt S') - kx_sz (kx_cnt S) = ms := by omega
  subst hmc2
  subst hms2
  have X : kx_Ctx p rm s m ((av.map (kx_cv ad)).toArray) c b y.cls nl D C4 (va_A (kx_ws C4 ad S) s.heap.size) (kx_cnt S) (kx_cnt S', fun r' S'' => r' = r ∧ S'' = S') 0 0 := ⟨⟨B.exec, B.bytes, hml, findClass_of_methodNamed B.named, fun w hw => hts w (List.mem_cons_of_mem _ hw)⟩, hK, hN, fun q hq => Or.inr hq, Nat.le_of_eq hrm.1.symm, Nat.le_of_eq hrm.2.symm, hNC⟩
  have Z : kx_Rt below ((av.map (kx_cv ad)).toArray) s meth (MQ below (kx_Q D C4 ad S r S' (va_A (kx_ws C4 ad S) s.heap.size)) ((av.map (kx_cv ad)).toArray) s (kx_cnt S' - kx_cnt S) (kx_sz (kx_cnt S') - kx_sz (kx_cnt S)) (va_A (kx_ws C4 ad S) s.heap.size)) D C4 (va_A (kx_ws C4 ad S) s.heap.size) (kx_cnt S) ad (kx_cnt S', fun r' S'' => r' = r ∧ S'' = S') 0 0 := ⟨S, r, S', rfl, rfl, rfl, B.notSynchronized⟩
  have hw := kx_sound (h p e s m _ below meth c _ D C4 _ _ ad _ X Z B.returns hin) hsp
  have hl := lv_entry (av.map (kx_cv ad)) (n := nl) (by rw [kx_catl_sl]; exact hcl)
  rw [lg_entry_eq]
  have hw2 := hw ad s.heap [] _ kx_agree.rf ⟨Nat.le_refl _, by show kx_cnt S ≤ kx_cnt S'; omega⟩ hv trivial (fun i v hi => kx_okl_mem hok v (kx_l0_get ad av nl i i v (by simpa using hi)).2) hP hD va_S.rf ⟨hl.1, hl.2.1, fun i v hi => hl.2.2 _ (by have := (kx_l0_get ad av nl 0 i v hi).1; simpa using this)⟩
  rw [Nat.sub_self, Nat.sub_self] at hw2
  exact hw2

end KXJ
theorem kx_pf1 : plainFor yJ9_floorMod_7cf53 = true := by decide +kernel
section KXM
variable {p : Program} {l : Launch} {e : Env} {R : Room} {s : State} {m : MethodId} {args : Array Value} {below : List Frame} {meth : Method} {c : Code} {Q : State → Prop} {D : va_G} {C4 : kx_C} {A : Nat → Prop} {cnt0 : Nat} {ad0 : Nat → Nat} {nL gx gs : Nat} {P : kx_P} {cc : ByteArray} {pc : Nat} {own : String}
theorem kx_cells_le {S : kx_S} (X : kx_Ctx p R s m args c cc own nL D C4 A cnt0 P gx gs) (hc : cnt0 ≤ kx_cnt S ∧ kx_cnt S ≤ P.1) : kx_cnt S - cnt0 + gx ≤ R.cells ∧ kx_sz (kx_cnt S) - kx_sz cnt0 + gs ≤ R.slots := by
  have := kx_rm0 X hc
  omega

def ki_mmax (n : Nat) : kx_T := fun _ K L st S => match st with
  | .inl y :: .inl x :: r => bif Nat.ble (kx_catl r) 8 then K n L (.inl (if x < y then y else x) :: r) S else False
  | _ => False
theorem ks_mmax (X : kx_Ctx p R s m args c cc own nL D C4 A cnt0 P gx gs) {index : Nat} (hlk : Cond.methodLink own index Lib.Math.max.name ∈ kx_tbl) (hstt : Cond.static Lib.Math.max.name ∈ kx_tbl) (hini : Cond.initialized "java/lang/Math" ∈ kx_tbl) (hcode : Cond.code Lib.Math.max.name Lib.Math.max.code 2 (some .int) ∈ kx_tbl) (hR : 1 ≤ R.frames ∧ 8 + 13 ≤ R.locals) (d : decode cc pc = .ok (.invokestatic index, 3)) : kx_Snd (kx_W p l e R s m args below meth c Q D C4 A cnt0 ad0 nL gx gs P) P pc (ki_mmax (pc + 3)) := by
  intro K hK L st S h ad H locs ls ha hc ho hst hL hP hD hS hl
  match st, h, hst with
  | .inl y :: .inl x :: r, g9, hst =>
    unfold ki_mmax at g9
    dsimp only at g9
    cases hq : Nat.ble (kx_catl r) 8 with
    | false => rw [hq] at g9; exact g9.elim
    | true =>
      rw [hq] at g9
      have hcat : kx_catl r ≤ 8 := Nat.le_of_ble_eq_true hq
      have hcl := kx_cells_le X hc
      exact va_mmax X.1.1 X.1.2.1 (X.1.2.2.1.trans hl.1.symm) X.1.2.2.2.1 (X.1.2.2.2.2 _ hlk) (X.1.2.2.2.2 _ hstt) (X.1.2.2.2.2 _ hini) (X.1.2.2.2.2 _ hcode) hR.1 (by rw [kx_catl_eq]; omega) hcl.1 hcl.2 d (hK _ _ _ _ g9 ad H locs ls ha hc ho ⟨trivial, hst.2.2⟩ hL hP hD hS hl)
def ki_mmin (n : Nat) : kx_T := fun _ K L st S => match st with
  | .inl y :: .inl x :: r => bif Nat.ble (kx_catl r) 8 then K n L (.inl (if y < x then y else x) :: r) S else False
  | _ => False
theorem ks_mmin (X : kx_Ctx p R s m args c cc own nL D C4 A cnt0 P gx gs) {index : Nat} (hlk : Cond.methodLink own index Lib.Math.min.name ∈ kx_tbl) (hstt : Cond.static Lib.Math.min.name ∈ kx_tbl) (hini : Cond.initialized "java/lang/Math" ∈ kx_tbl) (hcode : Cond.code Lib.Math.min.name Lib.Math.min.code 2 (some .int) ∈ kx_tbl) (hR : 1 ≤ R.frames ∧ 8 + 13 ≤ R.locals) (d : decode cc pc = .ok (.invokestatic index, 3)) : kx_Snd (kx_W p l e R s m args below meth c Q D C4 A cnt0 ad0 nL gx gs P) P pc (ki_mmin (pc + 3)) := by
  intro K hK L st S h ad H locs ls ha hc ho hst hL hP hD hS hl
  match st, h, hst with
  | .inl y :: .inl x :: r, g9, hst =>
    unfold ki_mmin at g9
    dsimp only at g9
    cases hq : Nat.ble (kx_catl r) 8 with
    | false => rw [hq] at g9; exact g9.elim
    | true =>
      rw [hq] at g9
      have hcat : kx_catl r ≤ 8 := Nat.le_of_ble_eq_true hq
      have hcl := kx_cells_le X hc
      exact va_mmin X.1.1 X.1.2.1 (X.1.2.2.1.trans hl.1.symm) X.1.2.2.2.1 (X.1.2.2.2.2 _ hlk) (X.1.2.2.2.2 _ hstt) (X.1.2.2.2.2 _ hini) (X.1.2.2.2.2 _ hcode) hR.1 (by rw [kx_catl_eq]; omega) hcl.1 hcl.2 d (hK _ _ _ _ g9 ad H locs ls ha hc ho ⟨trivial, hst.2.2⟩ hL hP hD hS hl)
end KXM

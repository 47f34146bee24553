section KXS
variable {p : Program} {l : Launch} {e : Env} {R : Room} {s : State} {m : MethodId} {args : Array Value} {below : List Frame} {meth : Method} {c : Code} {Q : State → Prop} {D : va_G} {C4 : kx_C} {A : Nat → Prop} {cnt0 : Nat} {ad0 : Nat → Nat} {nL gx gs : Nat} {P : kx_P} {cc : ByteArray} {pc : Nat}
def ki_iadd (n : Nat) : kx_T := fun _ K L st S => match st with
  | .inl y :: .inl x :: r => K n L (.inl (x + y) :: r) S
  | _ => False
theorem ks_iadd (hx : p.tables.exec = Jvm.exec) (hb : c.code = cc) (d : decode cc pc = .ok (.iadd, 1)) : kx_Snd (kx_W p l e R s m args below meth c Q D C4 A cnt0 ad0 nL gx gs P) P pc (ki_iadd (pc + 1)) := by
  intro K hK L st S h ad H locs ls ha hc ho hst hL hP hD hS hl
  match st, h, hst with
  | .inl y :: .inl x :: r, h, hst => exact lv_iadd hx hb d (hK _ _ _ _ h ad H locs ls ha hc ho ⟨trivial, hst.2.2⟩ hL hP hD hS hl)
def ki_isub (n : Nat) : kx_T := fun _ K L st S => match st with
  | .inl y :: .inl x :: r => K n L (.inl (x - y) :: r) S
  | _ => False
theorem ks_isub (hx : p.tables.exec = Jvm.exec) (hb : c.code = cc) (d : decode cc pc = .ok (.isub, 1)) : kx_Snd (kx_W p l e R s m args below meth c Q D C4 A cnt0 ad0 nL gx gs P) P pc (ki_isub (pc + 1)) := by
  intro K hK L st S h ad H locs ls ha hc ho hst hL hP hD hS hl
  match st, h, hst with
  | .inl y :: .inl x :: r, h, hst => exact lv_isub hx hb d (hK _ _ _ _ h ad H locs ls ha hc ho ⟨trivial, hst.2.2⟩ hL hP hD hS hl)
def ki_imul (n : Nat) : kx_T := fun _ K L st S => match st with
  | .inl y :: .inl x :: r => K n L (.inl (x * y) :: r) S
  | _ => False
theorem ks_imul (hx : p.tables.exec = Jvm.exec) (hb : c.code = cc) (d : decode cc pc = .ok (.imul, 1)) : kx_Snd (kx_W p l e R s m args below meth c Q D C4 A cnt0 ad0 nL gx gs P) P pc (ki_imul (pc + 1)) := by
  intro K hK L st S h ad H locs ls ha hc ho hst hL hP hD hS hl
  match st, h, hst with
  | .inl y :: .inl x :: r, h, hst => exact lv_imul hx hb d (hK _ _ _ _ h ad H locs ls ha hc ho ⟨trivial, hst.2.2⟩ hL hP hD hS hl)
def ki_iand (n : Nat) : kx_T := fun _ K L st S => match st with
  | .inl y :: .inl x :: r => K n L (.inl (x &&& y) :: r) S
  | _ => False
theorem ks_iand (hx : p.tables.exec = Jvm.exec) (hb : c.code = cc) (d : decode cc pc = .ok (.iand, 1)) : kx_Snd (kx_W p l e R s m args below meth c Q D C4 A cnt0 ad0 nL gx gs P) P pc (ki_iand (pc + 1)) := by
  intro K hK L st S h ad H locs ls ha hc ho hst hL hP hD hS hl
  match st, h, hst with
  | .inl y :: .inl x :: r, h, hst => exact lv_iand hx hb d (hK _ _ _ _ h ad H locs ls ha hc ho ⟨trivial, hst.2.2⟩ hL hP hD hS hl)
def ki_ior (n : Nat) : kx_T := fun _ K L st S => match st with
  | .inl y :: .inl x :: r => K n L (.inl (x ||| y) :: r) S
  | _ => False
theorem ks_ior (hx : p.tables.exec = Jvm.exec) (hb : c.code = cc) (d : decode cc pc = .ok (.ior, 1)) : kx_Snd (kx_W p l e R s m args below meth c Q D C4 A cnt0 ad0 nL gx gs P) P pc (ki_ior (pc + 1)) := by
  intro K hK L st S h ad H locs ls ha hc ho hst hL hP hD hS hl
  match st, h, hst with
  | .inl y :: .inl x :: r, h, hst => exact lv_ior hx hb d (hK _ _ _ _ h ad H locs ls ha hc ho ⟨trivial, hst.2.2⟩ hL hP hD hS hl)
def ki_ixor (n : Nat) : kx_T := fun _ K L st S => match st with
  | .inl y :: .inl x :: r => K n L (.inl (x ^^^ y) :: r) S
  | _ => False
theorem ks_ixor (hx : p.tables.exec = Jvm.exec) (hb : c.code = cc) (d : decode cc pc = .ok (.ixor, 1)) : kx_Snd (kx_W p l e R s m args below meth c Q D C4 A cnt0 ad0 nL gx gs P) P pc (ki_ixor (pc + 1)) := by
  intro K hK L st S h ad H locs ls ha hc ho hst hL hP hD hS hl
  match st, h, hst with
  | .inl y :: .inl x :: r, h, hst => exact lv_ixor hx hb d (hK _ _ _ _ h ad H locs ls ha hc ho ⟨trivial, hst.2.2⟩ hL hP hD hS hl)
def ki_ishl (n : Nat) : kx_T := fun _ K L st S => match st with
  | .inl y :: .inl x :: r => K n L (.inl (x <<< (y &&& 31)) :: r) S
  | _ => False
theorem ks_ishl (hx : p.tables.exec = Jvm.exec) (hb : c.code = cc) (d : decode cc pc = .ok (.ishl, 1)) : kx_Snd (kx_W p l e R s m args below meth c Q D C4 A cnt0 ad0 nL gx gs P) P pc (ki_ishl (pc + 1)) := by
  intro K hK L st S h ad H locs ls ha hc ho hst hL hP hD hS hl
  match st, h, hst with
  | .inl y :: .inl x :: r, h, hst => exact lv_ishl hx hb d (hK _ _ _ _ h ad H locs ls ha hc ho ⟨trivial, hst.2.2⟩ hL hP hD hS hl)
def ki_irem (n : Nat) : kx_T := fun _ K L st S => match st with
  | .inl y :: .inl x :: r => ¬ y = 0 ∧ K n L (.inl (x - x / y * y) :: r) S
  | _ => False
theorem ks_irem (hx : p.tables.exec = Jvm.exec) (hb : c.code = cc) (d : decode cc pc = .ok (.irem, 1)) : kx_Snd (kx_W p l e R s m args below meth c Q D C4 A cnt0 ad0 nL gx gs P) P pc (ki_irem (pc + 1)) := by
  intro K hK L st S h ad H locs ls ha hc ho hst hL hP hD hS hl
  match st, h, hst with
  | .inl y :: .inl x :: r, h, hst => exact lv_irem hx hb d h.1 (hK _ _ _ _ h.2 ad H locs ls ha hc ho ⟨trivial, hst.2.2⟩ hL hP hD hS hl)
def ki_idiv (n : Nat) : kx_T := fun _ K L st S => match st with
  | .inl y :: .inl x :: r => ¬ y = 0 ∧ K n L (.inl (x / y) :: r) S
  | _ => False
theorem ks_idiv (hx : p.tables.exec = Jvm.exec) (hb : c.code = cc) (d : decode cc pc = .ok (.idiv, 1)) : kx_Snd (kx_W p l e R s m args below meth c Q D C4 A cnt0 ad0 nL gx gs P) P pc (ki_idiv (pc + 1)) := by
  intro K hK L st S h ad H locs ls ha hc ho hst hL hP hD hS hl
  match st, h, hst with
  | .inl y :: .inl x :: r, h, hst => exact lv_idiv hx hb d h.1 (hK _ _ _ _ h.2 ad H locs ls ha hc ho ⟨trivial, hst.2.2⟩ hL hP hD hS hl)
def ki_iushr (n : Nat) : kx_T := fun _ K L st S => match st with
  | .inl y :: .inl x :: r => K n L (.inl ((x.toUInt32 >>> (y.toUInt32 &&& Int32.toUInt32 31)).toInt32) :: r) S
  | _ => False
theorem ks_iushr (hx : p.tables.exec = Jvm.exec) (hb : c.code = cc) (d : decode cc pc = .ok (.iushr, 1)) : kx_Snd (kx_W p l e R s m args below meth c Q D C4 A cnt0 ad0 nL gx gs P) P pc (ki_iushr (pc + 1)) := by
  intro K hK L st S h ad H locs ls ha hc ho hst hL hP hD hS hl
  match st, h, hst with
  | .inl y :: .inl x :: r, h, hst => exact lv_iushr hx hb d rfl (hK _ _ _ _ h ad H locs ls ha hc ho ⟨trivial, hst.2.2⟩ hL hP hD hS hl)
def ki_ineg (n : Nat) : kx_T := fun _ K L st S => match st with
  | .inl x :: r => K n L (.inl (-x) :: r) S
  | _ => False
theorem ks_ineg (hx : p.tables.exec = Jvm.exec) (hb : c.code = cc) (d : decode cc pc = .ok (.ineg, 1)) : kx_Snd (kx_W p l e R s m args below meth c Q D C4 A cnt0 ad0 nL gx gs P) P pc (ki_ineg (pc + 1)) := by
  intro K hK L st S h ad H locs ls ha hc ho hst hL hP hD hS hl
  match st, h, hst with
  | .inl x :: r, h, hst => exact lv_ineg hx hb d (hK _ _ _ _ h ad H locs ls ha hc ho ⟨trivial, hst.2⟩ hL hP hD hS hl)
def ki_ladd (n : Nat) : kx_T := fun _ K L st S => match st with
  | .inr (.inl y) :: .inr (.inl x) :: r => K n L (.inr (.inl (x + y)) :: r) S
  | _ => False
theorem ks_ladd (hx : p.tables.exec = Jvm.exec) (hb : c.code = cc) (d : decode cc pc = .ok (.ladd, 1)) : kx_Snd (kx_W p l e R s m args below meth c Q D C4 A cnt0 ad0 nL gx gs P) P pc (ki_ladd (pc + 1)) := by
  intro K hK L st S h ad H locs ls ha hc ho hst hL hP hD hS hl
  match st, h, hst with
  | .inr (.inl y) :: .inr (.inl x) :: r, h, hst => exact lv_ladd hx hb d (hK _ _ _ _ h ad H locs ls ha hc ho ⟨trivial, hst.2.2⟩ hL hP hD hS hl)
def ki_land (n : Nat) : kx_T := fun _ K L st S => match st with
  | .inr (.inl y) :: .inr (.inl x) :: r => K n L (.inr (.inl (x &&& y)) :: r) S
  | _ => False
theorem ks_land (hx : p.tables.exec = Jvm.exec) (hb : c.code = cc) (d : decode cc pc = .ok (.land, 1)) : kx_Snd (kx_W p l e R s m args below meth c Q D C4 A cnt0 ad0 nL gx gs P) P pc (ki_land (pc + 1)) := by
  intro K hK L st S h ad H locs ls ha hc ho hst hL hP hD hS hl
  match st, h, hst with
  | .inr (.inl y) :: .inr (.inl x) :: r, h, hst => exact lv_land hx hb d (hK _ _ _ _ h ad H locs ls ha hc ho ⟨trivial, hst.2.2⟩ hL hP hD hS hl)
def ki_lor (n : Nat) : kx_T := fun _ K L st S => match st with
  | .inr (.inl y) :: .inr (.inl x) :: r => K n L (.inr (.inl (x ||| y)) :: r) S
  | _ => False
theorem ks_lor (hx : p.tables.exec = Jvm.exec) (hb : c.code = cc) (d : decode cc pc = .ok (.lor, 1)) : kx_Snd (kx_W p l e R s m args below meth c Q D C4 A cnt0 ad0 nL gx gs P) P pc (ki_lor (pc + 1)) := by
  intro K hK L st S h ad H locs ls ha hc ho hst hL hP hD hS hl
  match st, h, hst with
  | .inr (.inl y) :: .inr (.inl x) :: r, h, hst => exact lv_lor hx hb d (hK _ _ _ _ h ad H locs ls ha hc ho ⟨trivial, hst.2.2⟩ hL hP hD hS hl)
def ki_lshl (n : Nat) : kx_T := fun _ K L st S => match st with
  | .inl y :: .inr (.inl x) :: r => K n L (.inr (.inl (x <<< (y.toInt64 &&& 63))) :: r) S
  | _ => False
theorem ks_lshl (hx : p.tables.exec = Jvm.exec) (hb : c.code = cc) (d : decode cc pc = .ok (.lshl, 1)) : kx_Snd (kx_W p l e R s m args below meth c Q D C4 A cnt0 ad0 nL gx gs P) P pc (ki_lshl (pc + 1)) := by
  intro K hK L st S h ad H locs ls ha hc ho hst hL hP hD hS hl
  match st, h, hst with
  | .inl y :: .inr (.inl x) :: r, h, hst => exact lv_lshl hx hb d rfl (hK _ _ _ _ h ad H locs ls ha hc ho ⟨trivial, hst.2.2⟩ hL hP hD hS hl)
def ki_i2l (n : Nat) : kx_T := fun _ K L st S => match st with
  | .inl x :: r => K n L (.inr (.inl x.toInt64) :: r) S
  | _ => False
theorem ks_i2l (hx : p.tables.exec = Jvm.exec) (hb : c.code = cc) (d : decode cc pc = .ok (.i2l, 1)) : kx_Snd (kx_W p l e R s m args below meth c Q D C4 A cnt0 ad0 nL gx gs P) P pc (ki_i2l (pc + 1)) := by
  intro K hK L st S h ad H locs ls ha hc ho hst hL hP hD hS hl
  match st, h, hst with
  | .inl x :: r, h, hst => exact lv_i2l hx hb d rfl (hK _ _ _ _ h ad H locs ls ha hc ho ⟨trivial, hst.2⟩ hL hP hD hS hl)
def ki_l2i (n : Nat) : kx_T := fun _ K L st S => match st with
  | .inr (.inl x) :: r => K n L (.inl x.toInt32 :: r) S
  | _ => False
theorem ks_l2i (hx : p.tables.exec = Jvm.exec) (hb : c.code = cc) (d : decode cc pc = .ok (.l2i, 1)) : kx_Snd (kx_W p l e R s m args below meth c Q D C4 A cnt0 ad0 nL gx gs P) P pc (ki_l2i (pc + 1)) := by
  intro K hK L st S h ad H locs ls ha hc ho hst hL hP hD hS hl
  match st, h, hst with
  | .inr (.inl x) :: r, h, hst => exact lv_l2i hx hb d rfl (hK _ _ _ _ h ad H locs ls ha hc ho ⟨trivial, hst.2⟩ hL hP hD hS hl)
def ki_i2b (n : Nat) : kx_T := fun _ K L st S => match st with
  | .inl x :: r => K n L (.inl x.toInt8.toInt32 :: r) S
  | _ => False
theorem ks_i2b (hx : p.tables.exec = Jvm.exec) (hb : c.code = cc) (d : decode cc pc = .ok (.i2b, 1)) : kx_Snd (kx_W p l e R s m args below meth c Q D C4 A cnt0 ad0 nL gx gs P) P pc (ki_i2b (pc + 1)) := by
  intro K hK L st S h ad H locs ls ha hc ho hst hL hP hD hS hl
  match st, h, hst with
  | .inl x :: r, h, hst => exact lv_i2b hx hb d rfl (hK _ _ _ _ h ad H locs ls ha hc ho ⟨trivial, hst.2⟩ hL hP hD hS hl)
def ki_i2s (n : Nat) : kx_T := fun _ K L st S => match st with
  | .inl x :: r => K n L (.inl x.toInt16.toInt32 :: r) S
  | _ => False
theorem ks_i2s (hx : p.tables.exec = Jvm.exec) (hb : c.code = cc) (d : decode cc pc = .ok (.i2s, 1)) : kx_Snd (kx_W p l e R s m args below meth c Q D C4 A cnt0 ad0 nL gx gs P) P pc (ki_i2s (pc + 1)) := by
  intro K hK L st S h ad H locs ls ha hc ho hst hL hP hD hS hl
  match st, h, hst with
  | .inl x :: r, h, hst => exact lv_i2s hx hb d rfl (hK _ _ _ _ h ad H locs ls ha hc ho ⟨trivial, hst.2⟩ hL hP hD hS hl)
def ki_lcmp (n : Nat) : kx_T := fun _ K L st S => match st with
  | .inr (.inl y) :: .inr (.inl x) :: r => K n L (.inl (lg_cmp x y) :: r) S
  | _ => False
theorem ks_lcmp (hx : p.tables.exec = Jvm.exec) (hb : c.code = cc) (d : decode cc pc = .ok (.lcmp, 1)) : kx_Snd (kx_W p l e R s m args below meth c Q D C4 A cnt0 ad0 nL gx gs P) P pc (ki_lcmp (pc + 1)) := by
  intro K hK L st S h ad H locs ls ha hc ho hst hL hP hD hS hl
  match st, h, hst with
  | .inr (.inl y) :: .inr (.inl x) :: r, h, hst => exact W.lcmp hx hb d (hK _ _ _ _ h ad H locs ls ha hc ho ⟨trivial, hst.2.2⟩ hL hP hD hS hl)
def ki_ic (v : Int32) (n : Nat) : kx_T := fun _ K L st S => K n L (.inl v :: st) S
theorem ks_iconst (hx : p.tables.exec = Jvm.exec) (hb : c.code = cc) {k : Int} {v : Int32} (hv : Int32.ofInt k = v) (d : decode cc pc = .ok (.iconst k, 1)) : kx_Snd (kx_W p l e R s m args below meth c Q D C4 A cnt0 ad0 nL gx gs P) P pc (ki_ic v (pc + 1)) := by
  intro K hK L st S h ad H locs ls ha hc ho hst hL hP hD hS hl
  exact lv_iconst hx hb d hv (hK _ _ _ _ h ad H locs ls ha hc ho ⟨trivial, hst⟩ hL hP hD hS hl)
theorem ks_bipush (hx : p.tables.exec = Jvm.exec) (hb : c.code = cc) {k : Int} {v : Int32} (hv : (Int8.ofInt k).toInt32 = v) (d : decode cc pc = .ok (.bipush k, 2)) : kx_Snd (kx_W p l e R s m args below meth c Q D C4 A cnt0 ad0 nL gx gs P) P pc (ki_ic v (pc + 2)) := by
  intro K hK L st S h ad H locs ls ha hc ho hst hL hP hD hS hl
  exact lv_bipush hx hb d hv (hK _ _ _ _ h ad H locs ls ha hc ho ⟨trivial, hst⟩ hL hP hD hS hl)
theorem ks_sipush (hx : p.tables.exec = Jvm.exec) (hb : c.code = cc) {k : Int} {v : Int32} (hv : (Int16.ofInt k).toInt32 = v) (d : decode cc pc = .ok (.sipush k, 3)) : kx_Snd (kx_W p l e R s m args below meth c Q D C4 A cnt0 ad0 nL gx gs P) P pc (ki_ic v (pc + 3)) := by
  intro K hK L st S h ad H locs ls ha hc ho hst hL hP hD hS hl
  exact lv_sipush hx hb d hv (hK _ _ _ _ h ad H locs ls ha hc ho ⟨trivial, hst⟩ hL hP hD hS hl)
theorem ks_ldc (hx : p.tables.exec = Jvm.exec) (hb : c.code = cc) {own : String} {index : Nat} {v : Int32} (hown : s.vm.findClass own = some m.cls) (hk : (Jvm.Cond.constant own index v).before args s = true) (d : decode cc pc = .ok (.ldc index, 2)) : kx_Snd (kx_W p l e R s m args below meth c Q D C4 A cnt0 ad0 nL gx gs P) P pc (ki_ic v (pc + 2)) := by
  intro K hK L st S h ad H locs ls ha hc ho hst hL hP hD hS hl
  exact lv_ldc hx hb hown hk d (hK _ _ _ _ h ad H locs ls ha hc ho ⟨trivial, hst⟩ hL hP hD hS hl)
def ki_lc (v : Int64) (n : Nat) : kx_T := fun _ K L st S => K n L (.inr (.inl v) :: st) S
theorem ks_lconst (hx : p.tables.exec = Jvm.exec) (hb : c.code = cc) {k : Fin 2} {v : Int64} (hv : Int64.ofNat (k : Nat) = v) (d : decode cc pc = .ok (.lconst k, 1)) : kx_Snd (kx_W p l e R s m args below meth c Q D C4 A cnt0 ad0 nL gx gs P) P pc (ki_lc v (pc + 1)) := by
  intro K hK L st S h ad H locs ls ha hc ho hst hL hP hD hS hl
  exact lv_lconst hx hb d hv (hK _ _ _ _ h ad H locs ls ha hc ho ⟨trivial, hst⟩ hL hP hD hS hl)
theorem ks_ldc2 (hx : p.tables.exec = Jvm.exec) (hb : c.code = cc) {own : String} {index : Nat} {v : Int64} (hown : s.vm.findClass own = some m.cls) (hk : (Jvm.Cond.constantLong own index v).before args s = true) (d : decode cc pc = .ok (.ldc2_w index, 3)) : kx_Snd (kx_W p l e R s m args below meth c Q D C4 A cnt0 ad0 nL gx gs P) P pc (ki_lc v (pc + 3)) := by
  intro K hK L st S h ad H locs ls ha hc ho hst hL hP hD hS hl
  exact lv_ldc2 hx hb hown hk d (hK _ _ _ _ h ad H locs ls ha hc ho ⟨trivial, hst⟩ hL hP hD hS hl)
def ki_null (n : Nat) : kx_T := fun _ K L st S => K n L (.inr (.inr none) :: st) S
theorem ks_null (hx : p.tables.exec = Jvm.exec) (hb : c.code = cc) (d : decode cc pc = .ok (.aconst_null, 1)) : kx_Snd (kx_W p l e R s m args below meth c Q D C4 A cnt0 ad0 nL gx gs P) P pc (ki_null (pc + 1)) := by
  intro K hK L st S h ad H locs ls ha hc ho hst hL hP hD hS hl
  exact lv_null hx hb d (hK _ _ _ _ h ad H locs ls ha hc ho ⟨trivial, hst⟩ hL hP hD hS hl)
def ki_iload (i n : Nat) : kx_T := fun _ K L st S => match L[i]? with
  | some (some (.inl x)) => K n L (.inl x :: st) S
  | _ => False
def ki_lload (i n : Nat) : kx_T := fun _ K L st S => match L[i]? with
  | some (some (.inr (.inl x))) => K n L (.inr (.inl x) :: st) S
  | _ => False
def ki_aload (i n : Nat) : kx_T := fun _ K L st S => match L[i]? with
  | some (some (.inr (.inr none))) => K n L (.inr (.inr none) :: st) S
  | some (some (.inr (.inr (some q)))) => K n L (.inr (.inr (some q)) :: st) S
  | _ => False
theorem ks_iload (hx : p.tables.exec = Jvm.exec) (hb : c.code = cc) {i : Nat} (d : decode cc pc = .ok (.iload i, 2)) : kx_Snd (kx_W p l e R s m args below meth c Q D C4 A cnt0 ad0 nL gx gs P) P pc (ki_iload i (pc + 2)) := by
  intro K hK L st S h ad H locs ls ha hc ho hst hL hP hD hS hl
  unfold ki_iload at h
  split at h
  next x he => exact lv_iload hx hb d (hl.2.2 i (.inl x) he) (hK _ _ _ _ h ad H locs ls ha hc ho ⟨trivial, hst⟩ hL hP hD hS hl)
  next => exact h.elim
theorem ks_iload_n (hx : p.tables.exec = Jvm.exec) (hb : c.code = cc) {k : Fin 4} {i : Nat} (hi : (k : Nat) = i) (d : decode cc pc = .ok (.iload_n k, 1)) : kx_Snd (kx_W p l e R s m args below meth c Q D C4 A cnt0 ad0 nL gx gs P) P pc (ki_iload i (pc + 1)) := by
  intro K hK L st S h ad H locs ls ha hc ho hst hL hP hD hS hl
  unfold ki_iload at h
  split at h
  next x he => exact lv_iload_n hx hb d hi (hl.2.2 i (.inl x) he) (hK _ _ _ _ h ad H locs ls ha hc ho ⟨trivial, hst⟩ hL hP hD hS hl)
  next => exact h.elim
theorem ks_lload (hx : p.tables.exec = Jvm.exec) (hb : c.code = cc) {i : Nat} (d : decode cc pc = .ok (.lload i, 2)) : kx_Snd (kx_W p l e R s m args below meth c Q D C4 A cnt0 ad0 nL gx gs P) P pc (ki_lload i (pc + 2)) := by
  intro K hK L st S h ad H locs ls ha hc ho hst hL hP hD hS hl
  unfold ki_lload at h
  split at h
  next x he => exact lv_lload hx hb d (hl.2.2 i (.inr (.inl x)) he) (hK _ _ _ _ h ad H locs ls ha hc ho ⟨trivial, hst⟩ hL hP hD hS hl)
  next => exact h.elim
theorem ks_lload_n (hx : p.tables.exec = Jvm.exec) (hb : c.code = cc) {k : Fin 4} {i : Nat} (hi : (k : Nat) = i) (d : decode cc pc = .ok (.lload_n k, 1)) : kx_Snd (kx_W p l e R s m args below meth c Q D C4 A cnt0 ad0 nL gx gs P) P pc (ki_lload i (pc + 1)) := by
  intro K hK L st S h ad H locs ls ha hc ho hst hL hP hD hS hl
  unfold ki_lload at h
  split at h
  next x he => exact lv_lload_n hx hb d hi (hl.2.2 i (.inr (.inl x)) he) (hK _ _ _ _ h ad H locs ls ha hc ho ⟨trivial, hst⟩ hL hP hD hS hl)
  next => exact h.elim
theorem ks_aload (hx : p.tables.exec = Jvm.exec) (hb : c.code = cc) {i : Nat} (d : decode cc pc = .ok (.aload i, 2)) : kx_Snd (kx_W p l e R s m args below meth c Q D C4 A cnt0 ad0 nL gx gs P) P pc (ki_aload i (pc + 2)) := by
  intro K hK L st S h ad H locs ls ha hc ho hst hL hP hD hS hl
  unfold ki_aload at h
  split at h
  next he => exact lv_aloadN hx hb d (hl.2.2 i (.inr (.inr none)) he) (hK _ _ _ _ h ad H locs ls ha hc ho ⟨trivial, hst⟩ hL hP hD hS hl)
  next q he => exact lv_aload hx hb d (hl.2.2 i (.inr (.inr (some q))) he) (hK _ _ _ _ h ad H locs ls ha hc ho ⟨hL i _ he, hst⟩ hL hP hD hS hl)
  next => exact h.elim
theorem ks_aload_n (hx : p.tables.exec = Jvm.exec) (hb : c.code = cc) {k : Fin 4} {i : Nat} (hi : (k : Nat) = i) (d : decode cc pc = .ok (.aload_n k, 1)) : kx_Snd (kx_W p l e R s m args below meth c Q D C4 A cnt0 ad0 nL gx gs P) P pc (ki_aload i (pc + 1)) := by
  intro K hK L st S h ad H locs ls ha hc ho hst hL hP hD hS hl
  unfold ki_aload at h
  split at h
  next he => exact lv_aload_nN hx hb d hi (hl.2.2 i (.inr (.inr none)) he) (hK _ _ _ _ h ad H locs ls ha hc ho ⟨trivial, hst⟩ hL hP hD hS hl)
  next q he => exact lv_aload_n hx hb d hi (hl.2.2 i (.inr (.inr (some q))) he) (hK _ _ _ _ h ad H locs ls ha hc ho ⟨hL i _ he, hst⟩ hL hP hD hS hl)
  next => exact h.elim
def ki_istore (i n : Nat) : kx_T := fun _ K L st S => match st with
  | .inl x :: r => K n (kx_st1 L i (.inl x)) r S
  | _ => False
def ki_lstore (i n : Nat) : kx_T := fun _ K L st S => match st with
  | .inr (.inl x) :: r => K n (kx_st2 L i (.inr (.inl x))) r S
  | _ => False
def ki_astore (i n : Nat) : kx_T := fun _ K L st S => match st with
  | .inr (.inr none) :: r => K n (kx_st1 L i (.inr (.inr none))) r S
  | .inr (.inr (some q)) :: r => K n (kx_st1 L i (.inr (.inr (some q)))) r S
  | _ => False
def ki_iinc (i : Nat) (v : Int32) (n : Nat) : kx_T := fun _ K L st S => match L[i]? with
  | some (some (.inl x)) => K n (kx_st1 L i (.inl (x + v))) st S
  | _ => False
theorem ks_istore (hx : p.tables.exec = Jvm.exec) (hb : c.code = cc) {i : Nat} (hn : i < nL) (d : decode cc pc = .ok (.istore i, 2)) : kx_Snd (kx_W p l e R s m args below meth c Q D C4 A cnt0 ad0 nL gx gs P) P pc (ki_istore i (pc + 2)) := by
  intro K hK L st S h ad H locs ls ha hc ho hst hL hP hD hS hl
  match st, h, hst with
  | .inl x :: r, h, hst => exact lv_istore hx hb d hl.lv hn rfl (fun ls' hl' => hK _ _ _ _ h ad H locs ls' ha hc ho hst.2 (hL.st1 trivial) hP hD hS (kx_has.st1 (v := .inl x) hl'))
theorem ks_lstore (hx : p.tables.exec = Jvm.exec) (hb : c.code = cc) {i : Nat} (hn : i + 1 < nL) (d : decode cc pc = .ok (.lstore i, 2)) : kx_Snd (kx_W p l e R s m args below meth c Q D C4 A cnt0 ad0 nL gx gs P) P pc (ki_lstore i (pc + 2)) := by
  intro K hK L st S h ad H locs ls ha hc ho hst hL hP hD hS hl
  match st, h, hst with
  | .inr (.inl x) :: r, h, hst => exact lv_lstore hx hb d hl.lv hn rfl (fun ls' hl' => hK _ _ _ _ h ad H locs ls' ha hc ho hst.2 (hL.st2 trivial) hP hD hS (kx_has.st2 (v := .inr (.inl x)) hl'))
theorem ks_astore (hx : p.tables.exec = Jvm.exec) (hb : c.code = cc) {i : Nat} (hn : i < nL) (d : decode cc pc = .ok (.astore i, 2)) : kx_Snd (kx_W p l e R s m args below meth c Q D C4 A cnt0 ad0 nL gx gs P) P pc (ki_astore i (pc + 2)) := by
  intro K hK L st S h ad H locs ls ha hc ho hst hL hP hD hS hl
  match st, h, hst with
  | .inr (.inr none) :: r, h, hst => exact lv_astoreN hx hb d hl.lv hn rfl (fun ls' hl' => hK _ _ _ _ h ad H locs ls' ha hc ho hst.2 (hL.st1 trivial) hP hD hS (kx_has.st1 (v := .inr (.inr none)) hl'))
  | .inr (.inr (some q)) :: r, h, hst => exact lv_astore hx hb d hl.lv hn rfl (fun ls' hl' => hK _ _ _ _ h ad H locs ls' ha hc ho hst.2 (hL.st1 hst.1) hP hD hS (kx_has.st1 (v := .inr (.inr (some q))) hl'))
theorem ks_istore_n (hx : p.tables.exec = Jvm.exec) (hb : c.code = cc) {k : Fin 4} {i : Nat} (hi : (k : Nat) = i) (hn : i < nL) (d : decode cc pc = .ok (.istore_n k, 1)) : kx_Snd (kx_W p l e R s m args below meth c Q D C4 A cnt0 ad0 nL gx gs P) P pc (ki_istore i (pc + 1)) := by
  intro K hK L st S h ad H locs ls ha hc ho hst hL hP hD hS hl
  match st, h, hst with
  | .inl x :: r, h, hst => exact lv_istore_n hx hb d hi hl.lv hn rfl (fun ls' hl' => hK _ _ _ _ h ad H locs ls' ha hc ho hst.2 (hL.st1 trivial) hP hD hS (kx_has.st1 (v := .inl x) hl'))
theorem ks_lstore_n (hx : p.tables.exec = Jvm.exec) (hb : c.code = cc) {k : Fin 4} {i : Nat} (hi : (k : Nat) = i) (hn : i + 1 < nL) (d : decode cc pc = .ok (.lstore_n k, 1)) : kx_Snd (kx_W p l e R s m args below meth c Q D C4 A cnt0 ad0 nL gx gs P) P pc (ki_lstore i (pc + 1)) := by
  intro K hK L st S h ad H locs ls ha hc ho hst hL hP hD hS hl
  match st, h, hst with
  | .inr (.inl x) :: r, h, hst => exact lv_lstore_n hx hb d hi hl.lv hn rfl (fun ls' hl' => hK _ _ _ _ h ad H locs ls' ha hc ho hst.2 (hL.st2 trivial) hP hD hS (kx_has.st2 (v := .inr (.inl x)) hl'))
theorem ks_astore_n (hx : p.tables.exec = Jvm.exec) (hb : c.code = cc) {k : Fin 4} {i : Nat} (hi : (k : Nat) = i) (hn : i < nL) (d : decode cc pc = .ok (.astore_n k, 1)) : kx_Snd (kx_W p l e R s m args below meth c Q D C4 A cnt0 ad0 nL gx gs P) P pc (ki_astore i (pc + 1)) := by
  intro K hK L st S h ad H locs ls ha hc ho hst hL hP hD hS hl
  match st, h, hst with
  | .inr (.inr none) :: r, h, hst => exact lv_astore_nN hx hb d hi hl.lv hn rfl (fun ls' hl' => hK _ _ _ _ h ad H locs ls' ha hc ho hst.2 (hL.st1 trivial) hP hD hS (kx_has.st1 (v := .inr (.inr none)) hl'))
  | .inr (.inr (some q)) :: r, h, hst => exact lv_astore_n hx hb d hi hl.lv hn rfl (fun ls' hl' => hK _ _ _ _ h ad H locs ls' ha hc ho hst.2 (hL.st1 hst.1) hP hD hS (kx_has.st1 (v := .inr (.inr (some q))) hl'))
theorem ks_iinc (hx : p.tables.exec = Jvm.exec) (hb : c.code = cc) {i : Nat} {k : Int} {v : Int32} (hv : Int32.ofInt k = v) (hn : i < nL) (d : decode cc pc = .ok (.iinc i k, 3)) : kx_Snd (kx_W p l e R s m args below meth c Q D C4 A cnt0 ad0 nL gx gs P) P pc (ki_iinc i v (pc + 3)) := by
  subst hv
  intro K hK L st S h ad H locs ls ha hc ho hst hL hP hD hS hl
  unfold ki_iinc at h
  split at h
  next x he =>
    obtain ⟨q, hq⟩ := List.getElem?_of_mem ((kx_lp_mem ad L 0 (i, .int x)).mpr ⟨i, .inl x, he, by simp [kx_cv]⟩)
    exact lv_iinc hx hb d hl.lv hq rfl hn rfl (fun ls' hl' => hK _ _ _ _ h ad H locs ls' ha hc ho hst (hL.st1 trivial) hP hD hS (kx_has.st1 (v := .inl (x + Int32.ofInt k)) hl'))
  next => exact h.elim
def ki_dup (n : Nat) : kx_T := fun _ K L st S => match st with
  | v :: r => bif kx_lg (some v) then False else K n L (v :: v :: r) S
  | _ => False
def ki_pop (n : Nat) : kx_T := fun _ K L st S => match st with
  | v :: r => bif kx_lg (some v) then False else K n L r S
  | _ => False
def ki_dup2 (n : Nat) : kx_T := fun _ K L st S => match st with
  | v :: w :: r => bif kx_lg (some v) || kx_lg (some w) then False else K n L (v :: w :: v :: w :: r) S
  | _ => False
theorem ks_dup (hx : p.tables.exec = Jvm.exec) (hb : c.code = cc) (d : decode cc pc = .ok (.dup, 1)) : kx_Snd (kx_W p l e R s m args below meth c Q D C4 A cnt0 ad0 nL gx gs P) P pc (ki_dup (pc + 1)) := by
  intro K hK L st S h ad H locs ls ha hc ho hst hL hP hD hS hl
  match st, h, hst with
  | v :: r, h, hst =>
    unfold ki_dup at h
    dsimp only at h
    cases hg : kx_lg (some v) with
    | true => rw [hg] at h; exact h.elim
    | false => rw [hg] at h; exact lv_dup hx hb d (kx_nlg_cat ad hg) (hK _ _ _ _ h ad H locs ls ha hc ho ⟨hst.1, hst.1, hst.2⟩ hL hP hD hS hl)
theorem ks_pop (hx : p.tables.exec = Jvm.exec) (hb : c.code = cc) (d : decode cc pc = .ok (.pop, 1)) : kx_Snd (kx_W p l e R s m args below meth c Q D C4 A cnt0 ad0 nL gx gs P) P pc (ki_pop (pc + 1)) := by
  intro K hK L st S h ad H locs ls ha hc ho hst hL hP hD hS hl
  match st, h, hst with
  | v :: r, h, hst =>
    unfold ki_pop at h
    dsimp only at h
    cases hg : kx_lg (some v) with
    | true => rw [hg] at h; exact h.elim
    | false => rw [hg] at h; exact lv_pop hx hb d (kx_nlg_cat ad hg) (hK _ _ _ _ h ad H locs ls ha hc ho hst.2 hL hP hD hS hl)
theorem ks_dup2 (hx : p.tables.exec = Jvm.exec) (hb : c.code = cc) (d : decode cc pc = .ok (.dup2, 1)) : kx_Snd (kx_W p l e R s m args below meth c Q D C4 A cnt0 ad0 nL gx gs P) P pc (ki_dup2 (pc + 1)) := by
  intro K hK L st S h ad H locs ls ha hc ho hst hL hP hD hS hl
  match st, h, hst with
  | v :: w :: r, h, hst =>
    unfold ki_dup2 at h
    dsimp only at h
    cases hg : kx_lg (some v) with
    | true => rw [hg] at h; exact h.elim
    | false =>
      cases hg2 : kx_lg (some w) with
      | true => rw [hg, hg2] at h; exact h.elim
      | false => rw [hg, hg2] at h; exact lv_dup2_11 hx hb d (kx_nlg_cat ad hg) (kx_nlg_cat ad hg2) (hK _ _ _ _ h ad H locs ls ha hc ho ⟨hst.1, hst.2.1, hst.1, hst.2.1, hst.2.2⟩ hL hP hD hS hl)
def ki_if_eq (t n : Nat) : kx_T := fun _ K L st S => match st with
  | .inl x :: r => (x = 0 → K t L r S) ∧ (¬ x = 0 → K n L r S)
  | _ => False
theorem ks_if_eq (hx : p.tables.exec = Jvm.exec) (hb : c.code = cc) {off : Int} {t : Nat} (ht : (pc : Int) + off = (t : Int)) (d : decode cc pc = .ok (.ifCond .eq off, 3)) : kx_Snd (kx_W p l e R s m args below meth c Q D C4 A cnt0 ad0 nL gx gs P) P pc (ki_if_eq t (pc + 3)) := by
  intro K hK L st S h ad H locs ls ha hc ho hst hL hP hD hS hl
  match st, h, hst with
  | .inl x :: r, h, hst => exact lv_if_eq hx hb d ht (fun q => hK _ _ _ _ (h.1 q) ad H locs ls ha hc ho hst.2 hL hP hD hS hl) (fun q => hK _ _ _ _ (h.2 q) ad H locs ls ha hc ho hst.2 hL hP hD hS hl)
def ki_if_ne (t n : Nat) : kx_T := fun _ K L st S => match st with
  | .inl x :: r => (¬ x = 0 → K t L r S) ∧ (x = 0 → K n L r S)
  | _ => False
theorem ks_if_ne (hx : p.tables.exec = Jvm.exec) (hb : c.code = cc) {off : Int} {t : Nat} (ht : (pc : Int) + off = (t : Int)) (d : decode cc pc = .ok (.ifCond .ne off, 3)) : kx_Snd (kx_W p l e R s m args below meth c Q D C4 A cnt0 ad0 nL gx gs P) P pc (ki_if_ne t (pc + 3)) := by
  intro K hK L st S h ad H locs ls ha hc ho hst hL hP hD hS hl
  match st, h, hst with
  | .inl x :: r, h, hst => exact lv_if_ne hx hb d ht (fun q => hK _ _ _ _ (h.1 q) ad H locs ls ha hc ho hst.2 hL hP hD hS hl) (fun q => hK _ _ _ _ (h.2 q) ad H locs ls ha hc ho hst.2 hL hP hD hS hl)
def ki_if_lt (t n : Nat) : kx_T := fun _ K L st S => match st with
  | .inl x :: r => (x < 0 → K t L r S) ∧ (¬ x < 0 → K n L r S)
  | _ => False
theorem ks_if_lt (hx : p.tables.exec = Jvm.exec) (hb : c.code = cc) {off : Int} {t : Nat} (ht : (pc : Int) + off = (t : Int)) (d : decode cc pc = .ok (.ifCond .lt off, 3)) : kx_Snd (kx_W p l e R s m args below meth c Q D C4 A cnt0 ad0 nL gx gs P) P pc (ki_if_lt t (pc + 3)) := by
  intro K hK L st S h ad H locs ls ha hc ho hst hL hP hD hS hl
  match st, h, hst with
  | .inl x :: r, h, hst => exact lv_if_lt hx hb d ht (fun q => hK _ _ _ _ (h.1 q) ad H locs ls ha hc ho hst.2 hL hP hD hS hl) (fun q => hK _ _ _ _ (h.2 q) ad H locs ls ha hc ho hst.2 hL hP hD hS hl)
def ki_if_ge (t n : Nat) : kx_T := fun _ K L st S => match st with
  | .inl x :: r => (0 ≤ x → K t L r S) ∧ (¬ 0 ≤ x → K n L r S)
  | _ => False
theorem ks_if_ge (hx : p.tables.exec = Jvm.exec) (hb : c.code = cc) {off : Int} {t : Nat} (ht : (pc : Int) + off = (t : Int)) (d : decode cc pc = .ok (.ifCond .ge off, 3)) : kx_Snd (kx_W p l e R s m args below meth c Q D C4 A cnt0 ad0 nL gx gs P) P pc (ki_if_ge t (pc + 3)) := by
  intro K hK L st S h ad H locs ls ha hc ho hst hL hP hD hS hl
  match st, h, hst with
  | .inl x :: r, h, hst => exact lv_if_ge hx hb d ht (fun q => hK _ _ _ _ (h.1 q) ad H locs ls ha hc ho hst.2 hL hP hD hS hl) (fun q => hK _ _ _ _ (h.2 q) ad H locs ls ha hc ho hst.2 hL hP hD hS hl)
def ki_if_gt (t n : Nat) : kx_T := fun _ K L st S => match st with
  | .inl x :: r => (0 < x → K t L r S) ∧ (¬ 0 < x → K n L r S)
  | _ => False
theorem ks_if_gt (hx : p.tables.exec = Jvm.exec) (hb : c.code = cc) {off : Int} {t : Nat} (ht : (pc : Int) + off = (t : Int)) (d : decode cc pc = .ok (.ifCond .gt off, 3)) : kx_Snd (kx_W p l e R s m args below meth c Q D C4 A cnt0 ad0 nL gx gs P) P pc (ki_if_gt t (pc + 3)) := by
  intro K hK L st S h ad H locs ls ha hc ho hst hL hP hD hS hl
  match st, h, hst with
  | .inl x :: r, h, hst => exact lv_if_gt hx hb d ht (fun q => hK _ _ _ _ (h.1 q) ad H locs ls ha hc ho hst.2 hL hP hD hS hl) (fun q => hK _ _ _ _ (h.2 q) ad H locs ls ha hc ho hst.2 hL hP hD hS hl)
def ki_if_le (t n : Nat) : kx_T := fun _ K L st S => match st with
  | .inl x :: r => (x ≤ 0 → K t L r S) ∧ (¬ x ≤ 0 → K n L r S)
  | _ => False
theorem ks_if_le (hx : p.tables.exec = Jvm.exec) (hb : c.code = cc) {off : Int} {t : Nat} (ht : (pc : Int) + off = (t : Int)) (d : decode cc pc = .ok (.ifCond .le off, 3)) : kx_Snd (kx_W p l e R s m args below meth c Q D C4 A cnt0 ad0 nL gx gs P) P pc (ki_if_le t (pc + 3)) := by
  intro K hK L st S h ad H locs ls ha hc ho hst hL hP hD hS hl
  match st, h, hst with
  | .inl x :: r, h, hst => exact lv_if_le hx hb d ht (fun q => hK _ _ _ _ (h.1 q) ad H locs ls ha hc ho hst.2 hL hP hD hS hl) (fun q => hK _ _ _ _ (h.2 q) ad H locs ls ha hc ho hst.2 hL hP hD hS hl)
def ki_icmp_eq (t n : Nat) : kx_T := fun _ K L st S => match st with
  | .inl y :: .inl x :: r => (x = y → K t L r S) ∧ (¬ x = y → K n L r S)
  | _ => False
theorem ks_icmp_eq (hx : p.tables.exec = Jvm.exec) (hb : c.code = cc) {off : Int} {t : Nat} (ht : (pc : Int) + off = (t : Int)) (d : decode cc pc = .ok (.if_icmp .eq off, 3)) : kx_Snd (kx_W p l e R s m args below meth c Q D C4 A cnt0 ad0 nL gx gs P) P pc (ki_icmp_eq t (pc + 3)) := by
  intro K hK L st S h ad H locs ls ha hc ho hst hL hP hD hS hl
  match st, h, hst with
  | .inl y :: .inl x :: r, h, hst => exact lv_icmp_eq hx hb d ht (fun q => hK _ _ _ _ (h.1 q) ad H locs ls ha hc ho hst.2.2 hL hP hD hS hl) (fun q => hK _ _ _ _ (h.2 q) ad H locs ls ha hc ho hst.2.2 hL hP hD hS hl)
def ki_icmp_ne (t n : Nat) : kx_T := fun _ K L st S => match st with
  | .inl y :: .inl x :: r => (¬ x = y → K t L r S) ∧ (x = y → K n L r S)
  | _ => False
theorem ks_icmp_ne (hx : p.tables.exec = Jvm.exec) (hb : c.code = cc) {off : Int} {t : Nat} (ht : (pc : Int) + off = (t : Int)) (d : decode cc pc = .ok (.if_icmp .ne off, 3)) : kx_Snd (kx_W p l e R s m args below meth c Q D C4 A cnt0 ad0 nL gx gs P) P pc (ki_icmp_ne t (pc + 3)) := by
  intro K hK L st S h ad H locs ls ha hc ho hst hL hP hD hS hl
  match st, h, hst with
  | .inl y :: .inl x :: r, h, hst => exact lv_icmp_ne hx hb d ht (fun q => hK _ _ _ _ (h.1 q) ad H locs ls ha hc ho hst.2.2 hL hP hD hS hl) (fun q => hK _ _ _ _ (h.2 q) ad H locs ls ha hc ho hst.2.2 hL hP hD hS hl)
def ki_icmp_lt (t n : Nat) : kx_T := fun _ K L st S => match st with
  | .inl y :: .inl x :: r => (x < y → K t L r S) ∧ (¬ x < y → K n L r S)
  | _ => False
theorem ks_icmp_lt (hx : p.tables.exec = Jvm.exec) (hb : c.code = cc) {off : Int} {t : Nat} (ht : (pc : Int) + off = (t : Int)) (d : decode cc pc = .ok (.if_icmp .lt off, 3)) : kx_Snd (kx_W p l e R s m args below meth c Q D C4 A cnt0 ad0 nL gx gs P) P pc (ki_icmp_lt t (pc + 3)) := by
  intro K hK L st S h ad H locs ls ha hc ho hst hL hP hD hS hl
  match st, h, hst with
  | .inl y :: .inl x :: r, h, hst => exact lv_icmp_lt hx hb d ht (fun q => hK _ _ _ _ (h.1 q) ad H locs ls ha hc ho hst.2.2 hL hP hD hS hl) (fun q => hK _ _ _ _ (h.2 q) ad H locs ls ha hc ho hst.2.2 hL hP hD hS hl)
def ki_icmp_ge (t n : Nat) : kx_T := fun _ K L st S => match st with
  | .inl y :: .inl x :: r => (y ≤ x → K t L r S) ∧ (¬ y ≤ x → K n L r S)
  | _ => False
theorem ks_icmp_ge (hx : p.tables.exec = Jvm.exec) (hb : c.code = cc) {off : Int} {t : Nat} (ht : (pc : Int) + off = (t : Int)) (d : decode cc pc = .ok (.if_icmp .ge off, 3)) : kx_Snd (kx_W p l e R s m args below meth c Q D C4 A cnt0 ad0 nL gx gs P) P pc (ki_icmp_ge t (pc + 3)) := by
  intro K hK L st S h ad H locs ls ha hc ho hst hL hP hD hS hl
  match st, h, hst with
  | .inl y :: .inl x :: r, h, hst => exact lv_icmp_ge hx hb d ht (fun q => hK _ _ _ _ (h.1 q) ad H locs ls ha hc ho hst.2.2 hL hP hD hS hl) (fun q => hK _ _ _ _ (h.2 q) ad H locs ls ha hc ho hst.2.2 hL hP hD hS hl)
def ki_icmp_gt (t n : Nat) : kx_T := fun _ K L st S => match st with
  | .inl y :: .inl x :: r => (y < x → K t L r S) ∧ (¬ y < x → K n L r S)
  | _ => False
theorem ks_icmp_gt (hx : p.tables.exec = Jvm.exec) (hb : c.code = cc) {off : Int} {t : Nat} (ht : (pc : Int) + off = (t : Int)) (d : decode cc pc = .ok (.if_icmp .gt off, 3)) : kx_Snd (kx_W p l e R s m args below meth c Q D C4 A cnt0 ad0 nL gx gs P) P pc (ki_icmp_gt t (pc + 3)) := by
  intro K hK L st S h ad H locs ls ha hc ho hst hL hP hD hS hl
  match st, h, hst with
  | .inl y :: .inl x :: r, h, hst => exact lv_icmp_gt hx hb d ht (fun q => hK _ _ _ _ (h.1 q) ad H locs ls ha hc ho hst.2.2 hL hP hD hS hl) (fun q => hK _ _ _ _ (h.2 q) ad H locs ls ha hc ho hst.2.2 hL hP hD hS hl)
def ki_icmp_le (t n : Nat) : kx_T := fun _ K L st S => match st with
  | .inl y :: .inl x :: r => (x ≤ y → K t L r S) ∧ (¬ x ≤ y → K n L r S)
  | _ => False
theorem ks_icmp_le (hx : p.tables.exec = Jvm.exec) (hb : c.code = cc) {off : Int} {t : Nat} (ht : (pc : Int) + off = (t : Int)) (d : decode cc pc = .ok (.if_icmp .le off, 3)) : kx_Snd (kx_W p l e R s m args below meth c Q D C4 A cnt0 ad0 nL gx gs P) P pc (ki_icmp_le t (pc + 3)) := by
  intro K hK L st S h ad H locs ls ha hc ho hst hL hP hD hS hl
  match st, h, hst with
  | .inl y :: .inl x :: r, h, hst => exact lv_icmp_le hx hb d ht (fun q => hK _ _ _ _ (h.1 q) ad H locs ls ha hc ho hst.2.2 hL hP hD hS hl) (fun q => hK _ _ _ _ (h.2 q) ad H locs ls ha hc ho hst.2.2 hL hP hD hS hl)
def ki_goto (t : Nat) : kx_T := fun _ K L st S => K t L st S
theorem ks_goto (hx : p.tables.exec = Jvm.exec) (hb : c.code = cc) {off : Int} {t : Nat} (ht : (pc : Int) + off = (t : Int)) (d : decode cc pc = .ok (.goto off, 3)) : kx_Snd (kx_W p l e R s m args below meth c Q D C4 A cnt0 ad0 nL gx gs P) P pc (ki_goto t) := by
  intro K hK L st S h ad H locs ls ha hc ho hst hL hP hD hS hl
  exact lv_goto hx hb d ht (hK _ _ _ _ h ad H locs ls ha hc ho hst hL hP hD hS hl)
def ki_ifnull (t n : Nat) : kx_T := fun _ K L st S => match st with
  | .inr (.inr none) :: r => K t L r S
  | .inr (.inr (some _)) :: r => K n L r S
  | _ => False
theorem ks_ifnull (hx : p.tables.exec = Jvm.exec) (hb : c.code = cc) {off : Int} {t : Nat} (ht : (pc : Int) + off = (t : Int)) (d : decode cc pc = .ok (.ifnull off, 3)) : kx_Snd (kx_W p l e R s m args below meth c Q D C4 A cnt0 ad0 nL gx gs P) P pc (ki_ifnull t (pc + 3)) := by
  intro K hK L st S h ad H locs ls ha hc ho hst hL hP hD hS hl
  match st, h, hst with
  | .inr (.inr none) :: r, h, hst => exact lv_ifnullN hx hb d ht (hK _ _ _ _ h ad H locs ls ha hc ho hst.2 hL hP hD hS hl)
  | .inr (.inr (some q)) :: r, h, hst => exact lv_ifnull hx hb d (hK _ _ _ _ h ad H locs ls ha hc ho hst.2 hL hP hD hS hl)
theorem ks_ifnonnull (hx : p.tables.exec = Jvm.exec) (hb : c.code = cc) {off : Int} {t : Nat} (ht : (pc : Int) + off = (t : Int)) (d : decode cc pc = .ok (.ifnonnull off, 3)) : kx_Snd (kx_W p l e R s m args below meth c Q D C4 A cnt0 ad0 nL gx gs P) P pc (ki_ifnull (pc + 3) t) := by
  intro K hK L st S h ad H locs ls ha hc ho hst hL hP hD hS hl
  match st, h, hst with
  | .inr (.inr none) :: r, h, hst => exact lv_ifnonnullN hx hb d (hK _ _ _ _ h ad H locs ls ha hc ho hst.2 hL hP hD hS hl)
  | .inr (.inr (some q)) :: r, h, hst => exact lv_ifnonnull hx hb d ht (hK _ _ _ _ h ad H locs ls ha hc ho hst.2 hL hP hD hS hl)
def kx_sw (K : Nat → Prop) (x : Int32) : List (Int32 × Nat) → Nat → Prop
  | [], d => K d
  | (k, t) :: r, d => (x = k → K t) ∧ (¬ x = k → kx_sw K x r d)
def ki_sw (ts : List (Int32 × Nat)) (df : Nat) : kx_T := fun _ K L st S => match st with
  | .inl x :: r => kx_sw (fun t => K t L r S) x ts df
  | _ => False
theorem kx_sw_use {K : Nat → Prop} {x : Int32} : ∀ {ts : List (Int32 × Nat)} {df : Nat}, kx_sw K x ts df → (∃ k t, (k, t) ∈ ts ∧ x = k ∧ K t ∧ ts.find? (fun q => q.1 == x) = some (k, t)) ∨ ((∀ q ∈ ts, ¬ x = q.1) ∧ K df) := by
  intro ts
  induction ts with
  | nil => intro df h; exact Or.inr ⟨(fun q hq => by cases hq), h⟩
  | cons a r ih =>
    intro df h
    obtain ⟨k, t⟩ := a
    by_cases hx : x = k
    · exact Or.inl ⟨k, t, List.mem_cons_self, hx, h.1 hx, by rw [List.find?_cons]; simp [hx]⟩
    · rcases ih (h.2 hx) with ⟨k2, t2, h1, h2, h3, h4⟩ | ⟨h1, h2⟩
      · refine Or.inl ⟨k2, t2, List.mem_cons_of_mem _ h1, h2, h3, ?_⟩
        rw [List.find?_cons]
        have hne : (k == x) = false := by simpa using fun q => hx q.symm
        rw [hne]; exact h4
      · refine Or.inr ⟨fun q hq => ?_, h2⟩
        rcases List.mem_cons.mp hq with rfl | hq
        · exact hx
        · exact h1 q hq
theorem ks_table (hx : p.tables.exec = Jvm.exec) (hb : c.code = cc) {dflt lo hi : Int} {offs : Array Int} {len : Nat} {ts : List (Int32 × Nat)} {df : Nat} (hd : (pc : Int) + dflt = (df : Int))
    (hts : ∀ q ∈ ts, ¬ q.1.toInt < lo ∧ ¬ hi < q.1.toInt ∧ ∃ off, offs[(q.1.toInt - lo).toNat]? = some off ∧ (pc : Int) + off = (q.2 : Int)) (hall : (List.range (hi - lo + 1).toNat).all (fun (k : Nat) => ts.any (fun q => q.1.toInt == lo + (k : Int))) = true) (d : decode cc pc = .ok (.tableswitch dflt lo hi offs, len)) : kx_Snd (kx_W p l e R s m args below meth c Q D C4 A cnt0 ad0 nL gx gs P) P pc (ki_sw ts df) := by
  intro K hK L st S h ad H locs ls ha hc ho hst hL hP hD hS hl
  match st, h, hst with
  | .inl x :: r, h, hst =>
    rcases kx_sw_use h with ⟨k, t, h1, rfl, h3, -⟩ | ⟨h1, h2⟩
    · obtain ⟨g1, g2, off, g3, g4⟩ := hts _ h1
      exact lv_tableIn hx hb d g1 g2 g3 g4 (hK _ _ _ _ h3 ad H locs ls ha hc ho hst.2 hL hP hD hS hl)
    · refine lv_tableOut hx hb d ?_ hd (hK _ _ _ _ h2 ad H locs ls ha hc ho hst.2 hL hP hD hS hl)
      by_cases g1 : x.toInt < lo
      · exact Or.inl g1
      · by_cases g2 : hi < x.toInt
        · exact Or.inr g2
        · exfalso
          have h5 := List.all_eq_true.mp hall (x.toInt - lo).toNat (List.mem_range.mpr (by omega))
          obtain ⟨q, hq, h6⟩ := List.any_eq_true.mp h5
          refine h1 q hq (Int32.toInt_inj.mp ?_)
          have h7 : q.1.toInt = lo + ((x.toInt - lo).toNat : Int) := by simpa using h6
          omega
theorem kx_lk {x : Int32} : ∀ {ps : List (Int × Int)} {dflt : Int}, (∃ a o, (a, o) ∈ ps ∧ ps.find? (fun q => q.1 == x.toInt) = some (a, o) ∧ Op.lookupswitch.offset ps dflt x.toInt = o) ∨ ((∀ q ∈ ps, ¬ q.1 = x.toInt) ∧ Op.lookupswitch.offset ps dflt x.toInt = dflt) := by
  intro ps
  induction ps with
  | nil => intro dflt; exact Or.inr ⟨(fun q hq => by cases hq), rfl⟩
  | cons a r ih =>
    intro dflt
    obtain ⟨k, o⟩ := a
    rw [Op.lookupswitch.offset_cons]
    by_cases hx : x.toInt = k
    · exact Or.inl ⟨k, o, List.mem_cons_self, by rw [List.find?_cons]; simp [hx], by rw [if_pos (by first | exact hx | exact hx.symm)]⟩
    · rw [if_neg (by first | exact hx | exact fun q => hx q.symm)]
      rcases ih (dflt := dflt) with ⟨k2, t2, h1, h2, h3⟩ | ⟨h1, h2⟩
      · refine Or.inl ⟨k2, t2, List.mem_cons_of_mem _ h1, ?_, h3⟩
        rw [List.find?_cons]
        have hne : (k == x.toInt) = false := by simpa using fun q => hx q.symm
        rw [hne]; exact h2
      · refine Or.inr ⟨fun q hq => ?_, h2⟩
        rcases List.mem_cons.mp hq with rfl | hq
        · exact fun e => hx e.symm
        · exact h1 q hq
theorem ks_lookup (hx : p.tables.exec = Jvm.exec) (hb : c.code = cc) {dflt : Int} {ps : Array (Int × Int)} {len : Nat} {ts : List (Int32 × Nat)} {df : Nat} (hd : (pc : Int) + dflt = (df : Int)) (hsort : (ps.toList.zip (ps.toList.drop 1)).all (fun (a, next) => a.1 < next.1) = true)
    (hps : ps.toList = ts.map (fun q => (q.1.toInt, (q.2 : Int) - (pc : Int)))) (d : decode cc pc = .ok (.lookupswitch dflt ps, len)) : kx_Snd (kx_W p l e R s m args below meth c Q D C4 A cnt0 ad0 nL gx gs P) P pc (ki_sw ts df) := by
  intro K hK L st S h ad H locs ls ha hc ho hst hL hP hD hS hl
  match st, h, hst with
  | .inl x :: r, h, hst =>
    rcases kx_sw_use h with ⟨k, t, h1, rfl, h3, h4⟩ | ⟨h1, h2⟩
    · rcases kx_lk (x := x) (ps := ps.toList) (dflt := dflt) with ⟨a, o, g1, g2, g3⟩ | ⟨g1, g2⟩
      · have e : ps.toList.find? (fun q => q.1 == x.toInt) = some (x.toInt, (t : Int) - (pc : Int)) := by
          rw [hps, List.find?_map]
          have e2 : ((fun q : Int × Int => q.1 == x.toInt) ∘ fun q : Int32 × Nat => (q.1.toInt, (q.2 : Int) - (pc : Int))) = fun q => q.1 == x := by
            funext q
            show (q.1.toInt == x.toInt) = (q.1 == x)
            by_cases hq : q.1 = x
            · simp [hq]
            · have hq2 : ¬ q.1.toInt = x.toInt := fun z => hq (Int32.toInt_inj.mp z)
              rw [beq_eq_false_iff_ne.mpr hq, beq_eq_false_iff_ne.mpr hq2]
          rw [e2, h4]; rfl
        rw [e] at g2
        have g4 := Prod.mk.inj (Option.some.inj g2)
        exact lv_lookup hx hb d hsort g3 (by rw [← g4.2]; omega) (hK _ _ _ _ h3 ad H locs ls ha hc ho hst.2 hL hP hD hS hl)
      · exfalso
        refine g1 (x.toInt, (t : Int) - (pc : Int)) ?_ rfl
        rw [hps]
        exact List.mem_map.mpr ⟨(x, t), h1, rfl⟩
    · rcases kx_lk (x := x) (ps := ps.toList) (dflt := dflt) with ⟨a, o, g1, g2, g3⟩ | ⟨g1, g2⟩
      · exfalso
        rw [hps] at g1
        obtain ⟨q, hq, he⟩ := List.mem_map.mp g1
        have g5 : (a == x.toInt) = true := by simpa using List.find?_some g2
        refine h1 q hq (Int32.toInt_inj.mp ?_)
        have e1 := (Prod.mk.inj he).1
        have e2 : a = x.toInt := by simpa using g5
        rw [e1, e2]
      · exact lv_lookup hx hb d hsort g2 hd (hK _ _ _ _ h2 ad H locs ls ha hc ho hst.2 hL hP hD hS hl)
end KXS

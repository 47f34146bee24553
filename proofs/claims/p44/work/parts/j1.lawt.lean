/-! tables of the law's own frames -/
/-- a contract that asks less beside its world serves where more is known -/
theorem sq_sub {l : Launch} {y : MethodName} {b : ByteArray} {nl mc ms : Nat} {ret : Option FieldType} {rm : Room} {D : va_G} {tys : List (ClassId × FieldType)} {X Y : (Nat → Prop) → State → Heap → Prop} {av av' : List Value} {ws : va_W} {Post : Option Value → va_W → Prop} (h : ∀ A U H, Y A U H → X A U H) (hM : sq_ok l y b nl ret rm D tys X av' ws Post mc ms) (e : av = av') : sq_ok l y b nl ret rm D tys Y av ws Post mc ms := fun sz => by
  subst e
  exact fun p e h1 h2 h3 s m args below h4 h5 q h7 => hM sz p e h1 h2 h3 s m args below h4 h5 ⟨q.1, q.2.1, q.2.2.1, q.2.2.2.1, q.2.2.2.2.1, h _ _ _ q.2.2.2.2.2⟩ h7
def ki_lwret : kx_T := fun _ _ _ st _ => match st with
  | [.inl x] => x = 1
  | _ => False
theorem ks_lwret {p : Program} {l : Launch} {e : Env} {s : State} {m : MethodId} {below : List Frame} {meth : Method} {c : Code} {D : va_G} {C4 : kx_C} {ad0 : Nat → Nat} {nL : Nat} {F : Option kx_V → kx_S → Prop} {pc b : Nat} (hx : p.tables.exec = Jvm.exec) (hb : c.code = code) (hr : meth.sig.returnType = ret) (hlocks : meth.locks = false) (d : decode code pc = .ok (.ireturn, 1)) : kx_Snd (kx_W p l e room_1 s m #[Value.ref b] below meth c (lw_Z below #[Value.ref b] s) D C4 (fun q => s.heap.size ≤ q) 0 ad0 nL 16 160 (kx_NC, F)) (kx_NC, F) pc ki_lwret := by
  intro K hK L st S h ad H locs ls ha hc ho hst hL hP hD hS hl
  match st, h, hst with
  | [.inl x], g9, hst =>
    have h1 : x = 1 := g9
    subst h1
    refine va_forget (fun q hq => hS.2.2 q hq) ?_
    have hm := kx_sz_mono hc.2 (Nat.le_refl _)
    have h3 : kx_sz kx_NC + 160 ≤ 7302250 := by decide +kernel
    have h2 : kx_cnt S ≤ kx_NC := hc.2
    have hm2 : kx_sz (kx_cnt S) ≤ kx_sz kx_NC := hm
    have h4 : kx_NC + 16 ≤ 600000 := by decide
    refine W.widen (k := 600000) (n := 7302250) (by omega) (by omega) ?_
    exact lw_ret hx hb hr hlocks d

def lr_at (xs : Nat → Int32) (L9 : Nat) : List kx_V → (Int32 → Prop) → Prop := fun st T => ∃ (j : Nat) (o : Nat), st = [.inl (nI j), kx_r 999 o] ∧ j < 2 ^ 31 ∧ T = fun v => v = la xs L9 j
theorem lr_at_M {l : Launch} {D : va_G} {cB : ClassId} {Xp : (Nat → Prop) → State → Heap → Prop} {ad0 : Nat → Nat} {b9 L9 : Nat} {xs : Nat → Int32} (had : ad0 kx_NC = b9) (hL9 : L9 < 2 ^ 31) (hEX : ∀ A U H, Xp A U H → sj_X b9 L9 xs A U H) : ∀ st T, lr_at xs L9 st T → st.length = 2 ∧ ∀ ad : Nat → Nat, ad kx_NC = ad0 kx_NC → ∃ Post : Option Value → va_W → Prop, sq_ok l yL_at cL_at 2 (some .int) ({ frames := 0, cells := 0, slots := 0, locals := 0 }) D [(cB, .byte)] Xp (st.reverse.map (kx_cv ad)) [] Post 0 0 ∧ ∀ r w, Post r w → (∃ v, r = some (.int v) ∧ T v) ∧ w = [] := by
  rintro st T ⟨j, o, rfl, hj, rfl⟩
  refine ⟨rfl, fun ad h9 => ?_⟩
  have e9 : ad (kx_ix 999 o) = b9 := by rw [kx_ix_scr, h9, had]
  refine ⟨_, sq_sub hEX (cl_at l (D := D) (cB := cB) (b := b9) (L := L9) (xs := xs) hL9 (j := j) hj) ?_, fun r w h => ⟨⟨_, h.1, rfl⟩, h.2⟩⟩
  exact congrArg (fun z => [Value.ref z, .int (nI j)]) e9
def lr_keepers (xs : Nat → Int32) (L9 : Nat) : List kx_V → (Int32 → Prop) → Prop := fun st T => ∃ (o : Nat), st = [kx_r 999 o] ∧  T = fun v => v = lKeep xs L9
theorem lr_keepers_M {l : Launch} {D : va_G} {cB : ClassId} {Xp : (Nat → Prop) → State → Heap → Prop} {ad0 : Nat → Nat} {b9 L9 : Nat} {xs : Nat → Int32} (had : ad0 kx_NC = b9) (hL9 : L9 < 2 ^ 31) (hEX : ∀ A U H, Xp A U H → sj_X b9 L9 xs A U H) : ∀ st T, lr_keepers xs L9 st T → st.length = 1 ∧ ∀ ad : Nat → Nat, ad kx_NC = ad0 kx_NC → ∃ Post : Option Value → va_W → Prop, sq_ok l yL_keepers cL_keepers 1 (some .int) ({ frames := 1, cells := 0, slots := 0, locals := 21 }) D [(cB, .byte)] Xp (st.reverse.map (kx_cv ad)) [] Post 0 0 ∧ ∀ r w, Post r w → (∃ v, r = some (.int v) ∧ T v) ∧ w = [] := by
  rintro st T ⟨o, rfl, rfl⟩
  refine ⟨rfl, fun ad h9 => ?_⟩
  have e9 : ad (kx_ix 999 o) = b9 := by rw [kx_ix_scr, h9, had]
  refine ⟨_, sq_sub hEX (cl_keepers l (D := D) (cB := cB) (b := b9) (L := L9) (xs := xs) hL9) ?_, fun r w h => ⟨⟨_, h.1, rfl⟩, h.2⟩⟩
  exact congrArg (fun z => [Value.ref z]) e9
def lr_rank (xs : Nat → Int32) (L9 : Nat) : List kx_V → (Int32 → Prop) → Prop := fun st T => ∃ (k : Int32) (o : Nat), st = [.inl k, kx_r 999 o] ∧  T = fun v => v = lRank xs L9 k
theorem lr_rank_M {l : Launch} {D : va_G} {cB : ClassId} {Xp : (Nat → Prop) → State → Heap → Prop} {ad0 : Nat → Nat} {b9 L9 : Nat} {xs : Nat → Int32} (had : ad0 kx_NC = b9) (hL9 : L9 < 2 ^ 31) (hEX : ∀ A U H, Xp A U H → sj_X b9 L9 xs A U H) : ∀ st T, lr_rank xs L9 st T → st.length = 2 ∧ ∀ ad : Nat → Nat, ad kx_NC = ad0 kx_NC → ∃ Post : Option Value → va_W → Prop, sq_ok l yL_rank cL_rank 2 (some .int) ({ frames := 1, cells := 0, slots := 0, locals := 21 }) D [(cB, .byte)] Xp (st.reverse.map (kx_cv ad)) [] Post 0 0 ∧ ∀ r w, Post r w → (∃ v, r = some (.int v) ∧ T v) ∧ w = [] := by
  rintro st T ⟨k, o, rfl, rfl⟩
  refine ⟨rfl, fun ad h9 => ?_⟩
  have e9 : ad (kx_ix 999 o) = b9 := by rw [kx_ix_scr, h9, had]
  refine ⟨_, sq_sub hEX (cl_rank l (D := D) (cB := cB) (b := b9) (L := L9) (xs := xs) hL9 k) ?_, fun r w h => ⟨⟨_, h.1, rfl⟩, h.2⟩⟩
  exact congrArg (fun z => [Value.ref z, .int k]) e9
def lr_watch (xs : Nat → Int32) (L9 : Nat) : List kx_V → (Int32 → Prop) → Prop := fun st T => ∃ (h : Nat) (o : Nat), st = [.inl (nI h), kx_r 999 o] ∧ h < 2 ^ 30 ∧ T = fun v => v = lWatch xs L9 h
theorem lr_watch_M {l : Launch} {D : va_G} {cB : ClassId} {Xp : (Nat → Prop) → State → Heap → Prop} {ad0 : Nat → Nat} {b9 L9 : Nat} {xs : Nat → Int32} (had : ad0 kx_NC = b9) (hL9 : L9 < 2 ^ 31) (hEX : ∀ A U H, Xp A U H → sj_X b9 L9 xs A U H) : ∀ st T, lr_watch xs L9 st T → st.length = 2 ∧ ∀ ad : Nat → Nat, ad kx_NC = ad0 kx_NC → ∃ Post : Option Value → va_W → Prop, sq_ok l yL_watch cL_watch 3 (some .int) ({ frames := 2, cells := 0, slots := 0, locals := 41 }) D [(cB, .byte)] Xp (st.reverse.map (kx_cv ad)) [] Post 0 0 ∧ ∀ r w, Post r w → (∃ v, r = some (.int v) ∧ T v) ∧ w = [] := by
  rintro st T ⟨h, o, rfl, hj, rfl⟩
  refine ⟨rfl, fun ad h9 => ?_⟩
  have e9 : ad (kx_ix 999 o) = b9 := by rw [kx_ix_scr, h9, had]
  refine ⟨_, sq_sub hEX (cl_watch l (D := D) (cB := cB) (b := b9) (L := L9) (xs := xs) hL9 (h := h) hj) ?_, fun r w h => ⟨⟨_, h.1, rfl⟩, h.2⟩⟩
  exact congrArg (fun z => [Value.ref z, .int (nI h)]) e9
def lr_dawn (xs : Nat → Int32) (L9 : Nat) : List kx_V → (Int32 → Prop) → Prop := fun st T => ∃ (o : Nat), st = [kx_r 999 o] ∧  T = fun v => v = lDawn xs L9
theorem lr_dawn_M {l : Launch} {D : va_G} {cB : ClassId} {Xp : (Nat → Prop) → State → Heap → Prop} {ad0 : Nat → Nat} {b9 L9 : Nat} {xs : Nat → Int32} (had : ad0 kx_NC = b9) (hL9 : L9 < 2 ^ 31) (hEX : ∀ A U H, Xp A U H → sj_X b9 L9 xs A U H) : ∀ st T, lr_dawn xs L9 st T → st.length = 1 ∧ ∀ ad : Nat → Nat, ad kx_NC = ad0 kx_NC → ∃ Post : Option Value → va_W → Prop, sq_ok l yL_dawn cL_dawn 1 (some .int) ({ frames := 1, cells := 0, slots := 0, locals := 21 }) D [(cB, .byte)] Xp (st.reverse.map (kx_cv ad)) [] Post 0 0 ∧ ∀ r w, Post r w → (∃ v, r = some (.int v) ∧ T v) ∧ w = [] := by
  rintro st T ⟨o, rfl, rfl⟩
  refine ⟨rfl, fun ad h9 => ?_⟩
  have e9 : ad (kx_ix 999 o) = b9 := by rw [kx_ix_scr, h9, had]
  refine ⟨_, sq_sub hEX (cl_dawn l (D := D) (cB := cB) (b := b9) (L := L9) (xs := xs) hL9) ?_, fun r w h => ⟨⟨_, h.1, rfl⟩, h.2⟩⟩
  exact congrArg (fun z => [Value.ref z]) e9
def lr_dusk (xs : Nat → Int32) (L9 : Nat) : List kx_V → (Int32 → Prop) → Prop := fun st T => ∃ (o : Nat), st = [kx_r 999 o] ∧  T = fun v => v = lDusk xs L9
theorem lr_dusk_M {l : Launch} {D : va_G} {cB : ClassId} {Xp : (Nat → Prop) → State → Heap → Prop} {ad0 : Nat → Nat} {b9 L9 : Nat} {xs : Nat → Int32} (had : ad0 kx_NC = b9) (hL9 : L9 < 2 ^ 31) (hEX : ∀ A U H, Xp A U H → sj_X b9 L9 xs A U H) : ∀ st T, lr_dusk xs L9 st T → st.length = 1 ∧ ∀ ad : Nat → Nat, ad kx_NC = ad0 kx_NC → ∃ Post : Option Value → va_W → Prop, sq_ok l yL_dusk cL_dusk 1 (some .int) ({ frames := 1, cells := 0, slots := 0, locals := 21 }) D [(cB, .byte)] Xp (st.reverse.map (kx_cv ad)) [] Post 0 0 ∧ ∀ r w, Post r w → (∃ v, r = some (.int v) ∧ T v) ∧ w = [] := by
  rintro st T ⟨o, rfl, rfl⟩
  refine ⟨rfl, fun ad h9 => ?_⟩
  have e9 : ad (kx_ix 999 o) = b9 := by rw [kx_ix_scr, h9, had]
  refine ⟨_, sq_sub hEX (cl_dusk l (D := D) (cB := cB) (b := b9) (L := L9) (xs := xs) hL9) ?_, fun r w h => ⟨⟨_, h.1, rfl⟩, h.2⟩⟩
  exact congrArg (fun z => [Value.ref z]) e9
def lr_wick (xs : Nat → Int32) (L9 : Nat) : List kx_V → (Int32 → Prop) → Prop := fun st T => ∃ (o : Nat), st = [kx_r 999 o] ∧  T = fun v => v = lWick xs L9
theorem lr_wick_M {l : Launch} {D : va_G} {cB : ClassId} {Xp : (Nat → Prop) → State → Heap → Prop} {ad0 : Nat → Nat} {b9 L9 : Nat} {xs : Nat → Int32} (had : ad0 kx_NC = b9) (hL9 : L9 < 2 ^ 31) (hEX : ∀ A U H, Xp A U H → sj_X b9 L9 xs A U H) : ∀ st T, lr_wick xs L9 st T → st.length = 1 ∧ ∀ ad : Nat → Nat, ad kx_NC = ad0 kx_NC → ∃ Post : Option Value → va_W → Prop, sq_ok l yL_wick cL_wick 1 (some .int) ({ frames := 1, cells := 0, slots := 0, locals := 21 }) D [(cB, .byte)] Xp (st.reverse.map (kx_cv ad)) [] Post 0 0 ∧ ∀ r w, Post r w → (∃ v, r = some (.int v) ∧ T v) ∧ w = [] := by
  rintro st T ⟨o, rfl, rfl⟩
  refine ⟨rfl, fun ad h9 => ?_⟩
  have e9 : ad (kx_ix 999 o) = b9 := by rw [kx_ix_scr, h9, had]
  refine ⟨_, sq_sub hEX (cl_wick l (D := D) (cB := cB) (b := b9) (L := L9) (xs := xs) hL9) ?_, fun r w h => ⟨⟨_, h.1, rfl⟩, h.2⟩⟩
  exact congrArg (fun z => [Value.ref z]) e9
def lr_oil (xs : Nat → Int32) (L9 : Nat) : List kx_V → (Int32 → Prop) → Prop := fun st T => ∃ (o : Nat), st = [kx_r 999 o] ∧  T = fun v => v = lOil xs L9
theorem lr_oil_M {l : Launch} {D : va_G} {cB : ClassId} {Xp : (Nat → Prop) → State → Heap → Prop} {ad0 : Nat → Nat} {b9 L9 : Nat} {xs : Nat → Int32} (had : ad0 kx_NC = b9) (hL9 : L9 < 2 ^ 31) (hEX : ∀ A U H, Xp A U H → sj_X b9 L9 xs A U H) : ∀ st T, lr_oil xs L9 st T → st.length = 1 ∧ ∀ ad : Nat → Nat, ad kx_NC = ad0 kx_NC → ∃ Post : Option Value → va_W → Prop, sq_ok l yL_oil cL_oil 1 (some .int) ({ frames := 1, cells := 0, slots := 0, locals := 21 }) D [(cB, .byte)] Xp (st.reverse.map (kx_cv ad)) [] Post 0 0 ∧ ∀ r w, Post r w → (∃ v, r = some (.int v) ∧ T v) ∧ w = [] := by
  rintro st T ⟨o, rfl, rfl⟩
  refine ⟨rfl, fun ad h9 => ?_⟩
  have e9 : ad (kx_ix 999 o) = b9 := by rw [kx_ix_scr, h9, had]
  refine ⟨_, sq_sub hEX (cl_oil l (D := D) (cB := cB) (b := b9) (L := L9) (xs := xs) hL9) ?_, fun r w h => ⟨⟨_, h.1, rfl⟩, h.2⟩⟩
  exact congrArg (fun z => [Value.ref z]) e9
def lr_coal (xs : Nat → Int32) (L9 : Nat) : List kx_V → (Int32 → Prop) → Prop := fun st T => ∃ (o : Nat), st = [kx_r 999 o] ∧  T = fun v => v = lCoal xs L9
theorem lr_coal_M {l : Launch} {D : va_G} {cB : ClassId} {Xp : (Nat → Prop) → State → Heap → Prop} {ad0 : Nat → Nat} {b9 L9 : Nat} {xs : Nat → Int32} (had : ad0 kx_NC = b9) (hL9 : L9 < 2 ^ 31) (hEX : ∀ A U H, Xp A U H → sj_X b9 L9 xs A U H) : ∀ st T, lr_coal xs L9 st T → st.length = 1 ∧ ∀ ad : Nat → Nat, ad kx_NC = ad0 kx_NC → ∃ Post : Option Value → va_W → Prop, sq_ok l yL_coal cL_coal 1 (some .int) ({ frames := 1, cells := 0, slots := 0, locals := 21 }) D [(cB, .byte)] Xp (st.reverse.map (kx_cv ad)) [] Post 0 0 ∧ ∀ r w, Post r w → (∃ v, r = some (.int v) ∧ T v) ∧ w = [] := by
  rintro st T ⟨o, rfl, rfl⟩
  refine ⟨rfl, fun ad h9 => ?_⟩
  have e9 : ad (kx_ix 999 o) = b9 := by rw [kx_ix_scr, h9, had]
  refine ⟨_, sq_sub hEX (cl_coal l (D := D) (cB := cB) (b := b9) (L := L9) (xs := xs) hL9) ?_, fun r w h => ⟨⟨_, h.1, rfl⟩, h.2⟩⟩
  exact congrArg (fun z => [Value.ref z]) e9
def lr_len (n9 : Nat) : List kx_V → (Int32 → Prop) → Prop := fun st T => ∃ o, st = [kx_r 999 o] ∧ T = fun v => v = nI n9
def lr_ch (n9 : Nat) : List kx_V → (Int32 → Prop) → Prop := fun st T => ∃ j o, st = [.inl (nI j), kx_r 999 o] ∧ j < n9 ∧ T = fun _ => True
theorem lr_len_M {l : Launch} {D : va_G} {cB : ClassId} {ad0 : Nat → Nat} {q9 n9 : Nat} (had : ad0 kx_NC = q9) (hn9 : n9 < 2 ^ 31) : ∀ st T, lr_len n9 st T → (∃ o, st = st.take 0 ++ [.inr (.inr (some (999, o)))]) ∧ st.length = 0 + 1 ∧ ∀ ad : Nat → Nat, ad kx_NC = ad0 kx_NC → ∃ Post : Option Value → va_W → Prop, sq_ok l yJ0_length_8abf5 cJ0_length_8abf5 1 (some .int) ({ frames := 1, cells := 0, slots := 0, locals := 20 }) D [(cB, .byte)] (sj_S q9 n9) (.ref (ad kx_NC) :: (st.take 0).reverse.map (kx_cv ad)) [] Post 0 0 ∧ ∀ r w, Post r w → (∃ v, r = some (.int v) ∧ T v) ∧ w = [] := by
  rintro st T ⟨o, rfl, rfl⟩
  refine ⟨⟨o, rfl⟩, rfl, fun ad h9 => ?_⟩
  rw [h9, had]
  exact ⟨_, cj_length l (t := q9) (k := n9) hn9, fun r w h => ⟨⟨_, h.1, rfl⟩, h.2⟩⟩
theorem lr_ch_M {l : Launch} {D : va_G} {cB : ClassId} {ad0 : Nat → Nat} {q9 n9 : Nat} (had : ad0 kx_NC = q9) (hn9 : n9 < 2 ^ 31) : ∀ st T, lr_ch n9 st T → (∃ o, st = st.take 1 ++ [.inr (.inr (some (999, o)))]) ∧ st.length = 1 + 1 ∧ ∀ ad : Nat → Nat, ad kx_NC = ad0 kx_NC → ∃ Post : Option Value → va_W → Prop, sq_ok l yJ0_charAt_5068e cJ0_charAt_5068e 2 (some .char) ({ frames := 3, cells := 0, slots := 0, locals := 64 }) D [(cB, .byte)] (sj_S q9 n9) (.ref (ad kx_NC) :: (st.take 1).reverse.map (kx_cv ad)) [] Post 0 0 ∧ ∀ r w, Post r w → (∃ v, r = some (.int v) ∧ T v) ∧ w = [] := by
  rintro st T ⟨j, o, rfl, hj, rfl⟩
  refine ⟨⟨o, rfl⟩, rfl, fun ad h9 => ?_⟩
  rw [h9, had]
  refine ⟨_, cj_charAt l (t := q9) (k := n9) (i := j) hj hn9, fun r w h => ?_⟩
  obtain ⟨⟨ch, h1, _⟩, h2⟩ := h
  exact ⟨⟨ch, h1, trivial⟩, h2⟩
def tb_feeds (n9 : Nat) : Nat → kx_T := (kx_br 12 (kx_br 4 (kx_br 2 (kx_br 1 (kx_lf 0 (ki_ic (0) 1)) (kx_lf 1 (ki_istore 2 2))) (kx_br 3 (kx_lf 2 (ki_iload 2 3)) (kx_lf 3 (ki_aload 1 4)))) (kx_br 10 (kx_br 7 (kx_lf 4 (ki_cl 1 (lr_len n9) 7)) (kx_lf 7 (ki_icmp_ge 26 10))) (kx_br 11 (kx_lf 10 (ki_aload 0 11)) (kx_lf 11 (ki_aload 1 12))))) (kx_br 20 (kx_br 16 (kx_br 13 (kx_lf 12 (ki_iload 2 13)) (kx_lf 13 (ki_cl 2 (lr_ch n9) 16))) (kx_br 19 (kx_lf 16 (ki_cv 10 1 2 sp_X10_feed 19)) (kx_lf 19 (kx_gh (ki_pop 20))))) (kx_br 26 (kx_br 23 (kx_lf 20 (ki_iinc 2 (1) 23)) (kx_lf 23 (ki_goto 2))) (kx_br 27 (kx_lf 26 (ki_aload 1 27)) (kx_br 30 (kx_lf 27 (ki_cl 1 (lr_len n9) 30)) (kx_lf 30 (ki_iret)))))))
set_option maxRecDepth 100000 in
set_option maxHeartbeats 4000000 in
theorem kd_feeds {p : Program} {l : Launch} {e : Env} {s : State} {m : MethodId} {args : Array Value} {below : List Frame} {meth : Method} {c : Code} {cB : ClassId} {Q : State → Prop} {D : va_G} {C4 : kx_C} {A : Nat → Prop} {cnt0 : Nat} {ad0 : Nat → Nat} {P : kx_P} {gx gs : Nat} {q9 n9 : Nat} (X : kx_Ctx p ({ frames := 4, cells := 0, slots := 0, locals := 85 }) s m args c cL_feeds RL 3 D C4 A cnt0 P gx gs) (Z : kx_Rt2 below args s meth Q D C4 A cnt0 ad0 P gx gs) (hr : meth.sig.returnType = some .int) (hKb : va_K D vwCl [(cB, .byte)] s) (hXp : sj_S q9 n9 A s s.heap) (had : ad0 kx_NC = q9) (hn9 : n9 < 2 ^ 31) : ∀ pc, kx_Snd (kx_W p l e ({ frames := 4, cells := 0, slots := 0, locals := 85 }) s m args below meth c Q D C4 A cnt0 ad0 3 gx gs P) P pc (tb_feeds n9 pc) := by
  have hx := X.1.1
  have hb := X.1.2.1
  have hts := X.1.2.2.2.2
  exact (kx_sB (kx_sB (kx_sB (kx_sB (kx_sL (ks_iconst hx hb (by decide +kernel) (by decide +kernel : decode cL_feeds 0 = .ok (.iconst 0, 1))))
    (kx_sL (ks_istore_n hx hb rfl (by decide) (by decide +kernel : decode cL_feeds 1 = .ok (.istore_n 2, 1)))))
    (kx_sB (kx_sL (ks_iload_n hx hb rfl (by decide +kernel : decode cL_feeds 2 = .ok (.iload_n 2, 1))))
    (kx_sL (ks_aload_n hx hb rfl (by decide +kernel : decode cL_feeds 3 = .ok (.aload_n 1, 1))))))
    (kx_sB (kx_sB (kx_sL (ks_clv X (sj_ES q9 n9) hKb hXp (rm := ({ frames := 1, cells := 0, slots := 0, locals := 20 })) (by rw [had]; exact hXp.2.1) (lr_len_M had hn9) ⟨rfl, rfl⟩ kw_994 kw_819 kw_820 kw_821 kw_15 (by decide +kernel) (by decide) (by decide +kernel : decode cL_feeds 4 = .ok (.invokevirtual 7, 3))))
    (kx_sL (ks_icmp_ge hx hb (by decide) (by decide +kernel : decode cL_feeds 7 = .ok (.if_icmp .ge 19, 3)))))
    (kx_sB (kx_sL (ks_aload_n hx hb rfl (by decide +kernel : decode cL_feeds 10 = .ok (.aload_n 0, 1))))
    (kx_sL (ks_aload_n hx hb rfl (by decide +kernel : decode cL_feeds 11 = .ok (.aload_n 1, 1)))))))
    (kx_sB (kx_sB (kx_sB (kx_sL (ks_iload_n hx hb rfl (by decide +kernel : decode cL_feeds 12 = .ok (.iload_n 2, 1))))
    (kx_sL (ks_clv X (sj_ES q9 n9) hKb hXp (rm := ({ frames := 3, cells := 0, slots := 0, locals := 64 })) (by rw [had]; exact hXp.2.1) (lr_ch_M had hn9) ⟨rfl, rfl⟩ kw_866 kw_867 kw_868 kw_869 kw_15 (by decide +kernel) (by decide) (by decide +kernel : decode cL_feeds 13 = .ok (.invokevirtual 13, 3)))))
    (kx_sB (kx_sL (ks_cv X (kc_X10_feed l) ⟨rfl, rfl⟩ kf_10 kw_995 kw_996 kw_997 kw_998 kw_1 (by decide +kernel) (by decide) (by decide +kernel : decode cL_feeds 16 = .ok (.invokevirtual 17, 3))))
    (kx_sL (ks_gh (ks_pop hx hb (by decide +kernel : decode cL_feeds 19 = .ok (.pop, 1)))))))
    (kx_sB (kx_sB (kx_sL (ks_iinc hx hb (by decide +kernel) (by decide) (by decide +kernel : decode cL_feeds 20 = .ok (.iinc 2 1, 3))))
    (kx_sL (ks_goto hx hb (by decide) (by decide +kernel : decode cL_feeds 23 = .ok (.goto (-21), 3)))))
    (kx_sB (kx_sL (ks_aload_n hx hb rfl (by decide +kernel : decode cL_feeds 26 = .ok (.aload_n 1, 1))))
    (kx_sB (kx_sL (ks_clv X (sj_ES q9 n9) hKb hXp (rm := ({ frames := 1, cells := 0, slots := 0, locals := 20 })) (by rw [had]; exact hXp.2.1) (lr_len_M had hn9) ⟨rfl, rfl⟩ kw_994 kw_819 kw_820 kw_821 kw_15 (by decide +kernel) (by decide) (by decide +kernel : decode cL_feeds 27 = .ok (.invokevirtual 7, 3))))
    (kx_sL (ks_iret2 Z hx hb hr (by decide +kernel : decode cL_feeds 30 = .ok (.ireturn, 1)))))))))
theorem kc_feeds (l : Launch) {q9 n9 : Nat} (hn9 : n9 < 2 ^ 31) : kx_ok2 l yL_feeds (kx_wd yL_feeds cL_feeds 3 (some .int)) ({ frames := 4, cells := 0, slots := 0, locals := 85 }) (fun av S F => kx_Run (tb_feeds n9) (kx_NC, fun r' S'' => F r' S'' ∧ S''.2.2 = none) 0 (kx_l0 av 3) [] S) 3 0 0 (sj_S q9 n9) q9 :=
  kx_met2 (by decide +kernel) (fun p e s m args below meth c cB Q D C4 A ad0 av S F P hsp hP X X0 hKb hXp had Z hr hin => by
    subst hP
    exact kx_sound (kd_feeds X Z hr hKb hXp had hn9) hsp)
def ki_jmp (J9 : kx_K) : kx_T := fun _ _ L st S => J9 10 L st S
theorem kx_jmp {W J9 : kx_K} {P : kx_P} (h : ∀ L st S, J9 10 L st S → W 10 L st S) : kx_Snd W P 10 (ki_jmp J9) := fun K hK L st S g => h L st S g
def tb_bu1 (J9 : kx_K) : Nat → kx_T := (kx_br 7 (kx_br 3 (kx_lf 0 (ki_new 10 3)) (kx_br 4 (kx_lf 3 (ki_dup 4)) (kx_lf 4 (ki_ci 10 2 84 6271 sp_X10_init 7)))) (kx_br 9 (kx_br 8 (kx_lf 7 (ki_astore 1 8)) (kx_lf 8 (ki_aload 1 9))) (kx_br 10 (kx_lf 9 (ki_aload 0 10)) (kx_lf 10 (ki_jmp J9)))))
def tb_bu2 (xs : Nat → Int32) (L9 : Nat) : Nat → kx_T := (kx_br 73 (kx_br 42 (kx_br 26 (kx_br 22 (kx_br 18 (kx_br 17 (kx_lf 16 (kx_gh (ki_pop 17))) (kx_lf 17 (ki_aload 1 18))) (kx_br 21 (kx_lf 18 (ki_cv 10 0 2 sp_X10_sky 21)) (kx_lf 21 (kx_gh (ki_pop 22))))) (kx_br 24 (kx_br 23 (kx_lf 22 (ki_ic (0) 23)) (kx_lf 23 (ki_istore 2 24))) (kx_br 25 (kx_lf 24 (ki_iload 2 25)) (kx_lf 25 (ki_aload 0 26))))) (kx_br 34 (kx_br 32 (kx_br 29 (kx_lf 26 (ki_cl 1 (lr_keepers xs L9) 29)) (kx_lf 29 (ki_icmp_ge 48 32))) (kx_br 33 (kx_lf 32 (ki_aload 1 33)) (kx_lf 33 (ki_aload 0 34)))) (kx_br 38 (kx_br 35 (kx_lf 34 (ki_iload 2 35)) (kx_lf 35 (ki_cl 2 (lr_rank xs L9) 38))) (kx_br 41 (kx_lf 38 (ki_cv 10 1 2 sp_X10_keeper 41)) (kx_lf 41 (kx_gh (ki_pop 42))))))) (kx_br 57 (kx_br 50 (kx_br 48 (kx_br 45 (kx_lf 42 (ki_iinc 2 (1) 45)) (kx_lf 45 (ki_goto 24))) (kx_br 49 (kx_lf 48 (ki_ic (0) 49)) (kx_lf 49 (ki_istore 2 50)))) (kx_br 53 (kx_br 51 (kx_lf 50 (ki_iload 2 51)) (kx_lf 51 (ki_ic (24) 53))) (kx_br 56 (kx_lf 53 (ki_icmp_ge 73 56)) (kx_lf 56 (ki_aload 1 57))))) (kx_br 63 (kx_br 59 (kx_br 58 (kx_lf 57 (ki_iload 2 58)) (kx_lf 58 (ki_aload 0 59))) (kx_br 60 (kx_lf 59 (ki_iload 2 60)) (kx_lf 60 (ki_cl 2 (lr_watch xs L9) 63)))) (kx_br 67 (kx_br 66 (kx_lf 63 (ki_cv 10 2 4 sp_X10_plan 66)) (kx_lf 66 (kx_gh (ki_pop 67)))) (kx_br 70 (kx_lf 67 (ki_iinc 2 (1) 70)) (kx_lf 70 (ki_goto 50))))))) (kx_br 99 (kx_br 85 (kx_br 79 (kx_br 75 (kx_br 74 (kx_lf 73 (ki_aload 1 74)) (kx_lf 74 (ki_ic (0) 75))) (kx_br 76 (kx_lf 75 (ki_aload 0 76)) (kx_lf 76 (ki_cl 1 (lr_dawn xs L9) 79)))) (kx_br 83 (kx_br 82 (kx_lf 79 (ki_cv 10 2 5 sp_X10_tell 82)) (kx_lf 82 (kx_gh (ki_pop 83)))) (kx_br 84 (kx_lf 83 (ki_aload 1 84)) (kx_lf 84 (ki_ic (1) 85))))) (kx_br 93 (kx_br 89 (kx_br 86 (kx_lf 85 (ki_aload 0 86)) (kx_lf 86 (ki_cl 1 (lr_dusk xs L9) 89))) (kx_br 92 (kx_lf 89 (ki_cv 10 2 5 sp_X10_tell 92)) (kx_lf 92 (kx_gh (ki_pop 93))))) (kx_br 95 (kx_br 94 (kx_lf 93 (ki_aload 1 94)) (kx_lf 94 (ki_ic (2) 95))) (kx_br 96 (kx_lf 95 (ki_aload 0 96)) (kx_lf 96 (ki_cl 1 (lr_wick xs L9) 99)))))) (kx_br 113 (kx_br 105 (kx_br 103 (kx_br 102 (kx_lf 99 (ki_cv 10 2 5 sp_X10_tell 102)) (kx_lf 102 (kx_gh (ki_pop 103)))) (kx_br 104 (kx_lf 103 (ki_aload 1 104)) (kx_lf 104 (ki_ic (3) 105)))) (kx_br 109 (kx_br 106 (kx_lf 105 (ki_aload 0 106)) (kx_lf 106 (ki_cl 1 (lr_oil xs L9) 109))) (kx_br 112 (kx_lf 109 (ki_cv 10 2 5 sp_X10_tell 112)) (kx_lf 112 (kx_gh (ki_pop 113)))))) (kx_br 119 (kx_br 115 (kx_br 114 (kx_lf 113 (ki_aload 1 114)) (kx_lf 114 (ki_ic (4) 115))) (kx_br 116 (kx_lf 115 (ki_aload 0 116)) (kx_lf 116 (ki_cl 1 (lr_coal xs L9) 119)))) (kx_br 123 (kx_br 122 (kx_lf 119 (ki_cv 10 2 5 sp_X10_tell 122)) (kx_lf 122 (kx_gh (ki_pop 123)))) (kx_br 124 (kx_lf 123 (ki_aload 1 124)) (kx_lf 124 (ki_aret))))))))
abbrev rm_bu : Room := ({ frames := 7, cells := kx_NC + 16, slots := kx_sz kx_NC + 160, locals := 173 })
set_option maxRecDepth 100000 in
set_option maxHeartbeats 4000000 in
theorem kd_bu1 {p : Program} {l : Launch} {e : Env} {s : State} {m : MethodId} {args : Array Value} {below : List Frame} {meth : Method} {c : Code} {cB : ClassId} {Q : State → Prop} {D : va_G} {C4 : kx_C} {A : Nat → Prop} {cnt0 : Nat} {ad0 : Nat → Nat} {P : kx_P} {gx gs : Nat} {J9 : kx_K} (X : kx_Ctx p rm_bu s m args c cL_build RL 3 D C4 A cnt0 P gx gs) (hJ9 : ∀ L st S, J9 10 L st S → kx_W p l e rm_bu s m args below meth c Q D C4 A cnt0 ad0 3 gx gs P 10 L st S) : ∀ pc, kx_Snd (kx_W p l e rm_bu s m args below meth c Q D C4 A cnt0 ad0 3 gx gs P) P pc (tb_bu1 J9 pc) := by
  have hx := X.1.1
  have hb := X.1.2.1
  have hts := X.1.2.2.2.2
  exact (kx_sB (kx_sB (kx_sL (ks_new X kf_10 (by decide +kernel) kw_371 kw_31 kw_1 (kx_sz_cl kf_10) (by decide +kernel : decode cL_build 0 = .ok (.new 18, 3))))
    (kx_sB (kx_sL (ks_dup hx hb (by decide +kernel : decode cL_build 3 = .ok (.dup, 1))))
    (kx_sL (ks_ci X (kc_X10_init l) ⟨rfl, rfl⟩ rfl kw_372 kw_373 kw_374 kw_1 (by decide +kernel) (by decide) (by decide +kernel : decode cL_build 4 = .ok (.invokespecial 64, 3))))))
    (kx_sB (kx_sB (kx_sL (ks_astore_n hx hb rfl (by decide) (by decide +kernel : decode cL_build 7 = .ok (.astore_n 1, 1))))
    (kx_sL (ks_aload_n hx hb rfl (by decide +kernel : decode cL_build 8 = .ok (.aload_n 1, 1)))))
    (kx_sB (kx_sL (ks_aload_n hx hb rfl (by decide +kernel : decode cL_build 9 = .ok (.aload_n 0, 1))))
    (kx_sL (kx_jmp hJ9)))))
set_option maxRecDepth 100000 in
set_option maxHeartbeats 4000000 in
theorem kd_bu2 {p : Program} {l : Launch} {e : Env} {s : State} {m : MethodId} {args : Array Value} {below : List Frame} {meth : Method} {c : Code} {cB : ClassId} {Q : State → Prop} {D : va_G} {C4 : kx_C} {A : Nat → Prop} {cnt0 : Nat} {ad0 : Nat → Nat} {P : kx_P} {gx gs : Nat} {b9 L9 : Nat} {xs : Nat → Int32} (X : kx_Ctx p rm_bu s m args c cL_build RL 3 D C4 A cnt0 P gx gs) (Z : kx_Rt2 below args s meth Q D C4 A cnt0 ad0 P gx gs) (hr : meth.sig.returnType = some (.object "KeptLight")) (hL9 : L9 < 2 ^ 31) {Xp : (Nat → Prop) → State → Heap → Prop} (hE : sq_Ext Xp) (hEX : ∀ A U H, Xp A U H → sj_X b9 L9 xs A U H) (hKb : va_K D vwCl [(cB, .byte)] s) (hXp : Xp A s s.heap) (had : ad0 kx_NC = b9) : ∀ pc, kx_Snd (kx_W p l e rm_bu s m args below meth c Q D C4 A cnt0 ad0 3 gx gs P) P pc (tb_bu2 xs L9 pc) := by
  have hx := X.1.1
  have hb := X.1.2.1
  have hts := X.1.2.2.2.2
  exact (kx_sB (kx_sB (kx_sB (kx_sB (kx_sB (kx_sB (kx_sL (ks_gh (ks_pop hx hb (by decide +kernel : decode cL_build 16 = .ok (.pop, 1)))))
    (kx_sL (ks_aload_n hx hb rfl (by decide +kernel : decode cL_build 17 = .ok (.aload_n 1, 1)))))
    (kx_sB (kx_sL (ks_cv X (kc_X10_sky l) ⟨rfl, rfl⟩ kf_10 kw_1008 kw_1009 kw_1010 kw_1011 kw_1 (by decide +kernel) (by decide) (by decide +kernel : decode cL_build 18 = .ok (.invokevirtual 73, 3))))
    (kx_sL (ks_gh (ks_pop hx hb (by decide +kernel : decode cL_build 21 = .ok (.pop, 1)))))))
    (kx_sB (kx_sB (kx_sL (ks_iconst hx hb (by decide +kernel) (by decide +kernel : decode cL_build 22 = .ok (.iconst 0, 1))))
    (kx_sL (ks_istore_n hx hb rfl (by decide) (by decide +kernel : decode cL_build 23 = .ok (.istore_n 2, 1)))))
    (kx_sB (kx_sL (ks_iload_n hx hb rfl (by decide +kernel : decode cL_build 24 = .ok (.iload_n 2, 1))))
    (kx_sL (ks_aload_n hx hb rfl (by decide +kernel : decode cL_build 25 = .ok (.aload_n 0, 1)))))))
    (kx_sB (kx_sB (kx_sB (kx_sL (ks_cl X hE hKb hXp (rm := ({ frames := 1, cells := 0, slots := 0, locals := 21 })) (lr_keepers_M had hL9 hEX) ⟨rfl, rfl⟩ kw_359 kw_360 kw_361 kw_0 (by decide +kernel) (by decide) (by decide +kernel : decode cL_build 26 = .ok (.invokestatic 61, 3))))
    (kx_sL (ks_icmp_ge hx hb (by decide) (by decide +kernel : decode cL_build 29 = .ok (.if_icmp .ge 19, 3)))))
    (kx_sB (kx_sL (ks_aload_n hx hb rfl (by decide +kernel : decode cL_build 32 = .ok (.aload_n 1, 1))))
    (kx_sL (ks_aload_n hx hb rfl (by decide +kernel : decode cL_build 33 = .ok (.aload_n 0, 1))))))
    (kx_sB (kx_sB (kx_sL (ks_iload_n hx hb rfl (by decide +kernel : decode cL_build 34 = .ok (.iload_n 2, 1))))
    (kx_sL (ks_cl X hE hKb hXp (rm := ({ frames := 1, cells := 0, slots := 0, locals := 21 })) (lr_rank_M had hL9 hEX) ⟨rfl, rfl⟩ kw_353 kw_354 kw_355 kw_0 (by decide +kernel) (by decide) (by decide +kernel : decode cL_build 35 = .ok (.invokestatic 75, 3)))))
    (kx_sB (kx_sL (ks_cv X (kc_X10_keeper l) ⟨rfl, rfl⟩ kf_10 kw_1049 kw_1050 kw_1051 kw_1052 kw_1 (by decide +kernel) (by decide) (by decide +kernel : decode cL_build 38 = .ok (.invokevirtual 78, 3))))
    (kx_sL (ks_gh (ks_pop hx hb (by decide +kernel : decode cL_build 41 = .ok (.pop, 1)))))))))
    (kx_sB (kx_sB (kx_sB (kx_sB (kx_sL (ks_iinc hx hb (by decide +kernel) (by decide) (by decide +kernel : decode cL_build 42 = .ok (.iinc 2 1, 3))))
    (kx_sL (ks_goto hx hb (by decide) (by decide +kernel : decode cL_build 45 = .ok (.goto (-21), 3)))))
    (kx_sB (kx_sL (ks_iconst hx hb (by decide +kernel) (by decide +kernel : decode cL_build 48 = .ok (.iconst 0, 1))))
    (kx_sL (ks_istore_n hx hb rfl (by decide) (by decide +kernel : decode cL_build 49 = .ok (.istore_n 2, 1))))))
    (kx_sB (kx_sB (kx_sL (ks_iload_n hx hb rfl (by decide +kernel : decode cL_build 50 = .ok (.iload_n 2, 1))))
    (kx_sL (ks_bipush hx hb (by decide +kernel) (by decide +kernel : decode cL_build 51 = .ok (.bipush 24, 2)))))
    (kx_sB (kx_sL (ks_icmp_ge hx hb (by decide) (by decide +kernel : decode cL_build 53 = .ok (.if_icmp .ge 20, 3))))
    (kx_sL (ks_aload_n hx hb rfl (by decide +kernel : decode cL_build 56 = .ok (.aload_n 1, 1)))))))
    (kx_sB (kx_sB (kx_sB (kx_sL (ks_iload_n hx hb rfl (by decide +kernel : decode cL_build 57 = .ok (.iload_n 2, 1))))
    (kx_sL (ks_aload_n hx hb rfl (by decide +kernel : decode cL_build 58 = .ok (.aload_n 0, 1)))))
    (kx_sB (kx_sL (ks_iload_n hx hb rfl (by decide +kernel : decode cL_build 59 = .ok (.iload_n 2, 1))))
    (kx_sL (ks_cl X hE hKb hXp (rm := ({ frames := 2, cells := 0, slots := 0, locals := 41 })) (lr_watch_M had hL9 hEX) ⟨rfl, rfl⟩ kw_356 kw_357 kw_358 kw_0 (by decide +kernel) (by decide) (by decide +kernel : decode cL_build 60 = .ok (.invokestatic 81, 3))))))
    (kx_sB (kx_sB (kx_sL (ks_cv X (kc_X10_plan l) ⟨rfl, rfl⟩ kf_10 kw_1065 kw_1066 kw_1067 kw_1068 kw_1 (by decide +kernel) (by decide) (by decide +kernel : decode cL_build 63 = .ok (.invokevirtual 84, 3))))
    (kx_sL (ks_gh (ks_pop hx hb (by decide +kernel : decode cL_build 66 = .ok (.pop, 1))))))
    (kx_sB (kx_sL (ks_iinc hx hb (by decide +kernel) (by decide) (by decide +kernel : decode cL_build 67 = .ok (.iinc 2 1, 3))))
    (kx_sL (ks_goto hx hb (by decide) (by decide +kernel : decode cL_build 70 = .ok (.goto (-20), 3)))))))))
    (kx_sB (kx_sB (kx_sB (kx_sB (kx_sB (kx_sL (ks_aload_n hx hb rfl (by decide +kernel : decode cL_build 73 = .ok (.aload_n 1, 1))))
    (kx_sL (ks_iconst hx hb (by decide +kernel) (by decide +kernel : decode cL_build 74 = .ok (.iconst 0, 1)))))
    (kx_sB (kx_sL (ks_aload_n hx hb rfl (by decide +kernel : decode cL_build 75 = .ok (.aload_n 0, 1))))
    (kx_sL (ks_cl X hE hKb hXp (rm := ({ frames := 1, cells := 0, slots := 0, locals := 21 })) (lr_dawn_M had hL9 hEX) ⟨rfl, rfl⟩ kw_1075 kw_1076 kw_1077 kw_0 (by decide +kernel) (by decide) (by decide +kernel : decode cL_build 76 = .ok (.invokestatic 88, 3))))))
    (kx_sB (kx_sB (kx_sL (ks_cv X (kc_X10_tell l) ⟨rfl, rfl⟩ kf_10 kw_1078 kw_1079 kw_1080 kw_1081 kw_1 (by decide +kernel) (by decide) (by decide +kernel : decode cL_build 79 = .ok (.invokevirtual 91, 3))))
    (kx_sL (ks_gh (ks_pop hx hb (by decide +kernel : decode cL_build 82 = .ok (.pop, 1))))))
    (kx_sB (kx_sL (ks_aload_n hx hb rfl (by decide +kernel : decode cL_build 83 = .ok (.aload_n 1, 1))))
    (kx_sL (ks_iconst hx hb (by decide +kernel) (by decide +kernel : decode cL_build 84 = .ok (.iconst 1, 1)))))))
    (kx_sB (kx_sB (kx_sB (kx_sL (ks_aload_n hx hb rfl (by decide +kernel : decode cL_build 85 = .ok (.aload_n 0, 1))))
    (kx_sL (ks_cl X hE hKb hXp (rm := ({ frames := 1, cells := 0, slots := 0, locals := 21 })) (lr_dusk_M had hL9 hEX) ⟨rfl, rfl⟩ kw_1085 kw_1086 kw_1087 kw_0 (by decide +kernel) (by decide) (by decide +kernel : decode cL_build 86 = .ok (.invokestatic 94, 3)))))
    (kx_sB (kx_sL (ks_cv X (kc_X10_tell l) ⟨rfl, rfl⟩ kf_10 kw_1078 kw_1079 kw_1080 kw_1081 kw_1 (by decide +kernel) (by decide) (by decide +kernel : decode cL_build 89 = .ok (.invokevirtual 91, 3))))
    (kx_sL (ks_gh (ks_pop hx hb (by decide +kernel : decode cL_build 92 = .ok (.pop, 1)))))))
    (kx_sB (kx_sB (kx_sL (ks_aload_n hx hb rfl (by decide +kernel : decode cL_build 93 = .ok (.aload_n 1, 1))))
    (kx_sL (ks_iconst hx hb (by decide +kernel) (by decide +kernel : decode cL_build 94 = .ok (.iconst 2, 1)))))
    (kx_sB (kx_sL (ks_aload_n hx hb rfl (by decide +kernel : decode cL_build 95 = .ok (.aload_n 0, 1))))
    (kx_sL (ks_cl X hE hKb hXp (rm := ({ frames := 1, cells := 0, slots := 0, locals := 21 })) (lr_wick_M had hL9 hEX) ⟨rfl, rfl⟩ kw_362 kw_363 kw_364 kw_0 (by decide +kernel) (by decide) (by decide +kernel : decode cL_build 96 = .ok (.invokestatic 97, 3))))))))
    (kx_sB (kx_sB (kx_sB (kx_sB (kx_sL (ks_cv X (kc_X10_tell l) ⟨rfl, rfl⟩ kf_10 kw_1078 kw_1079 kw_1080 kw_1081 kw_1 (by decide +kernel) (by decide) (by decide +kernel : decode cL_build 99 = .ok (.invokevirtual 91, 3))))
    (kx_sL (ks_gh (ks_pop hx hb (by decide +kernel : decode cL_build 102 = .ok (.pop, 1))))))
    (kx_sB (kx_sL (ks_aload_n hx hb rfl (by decide +kernel : decode cL_build 103 = .ok (.aload_n 1, 1))))
    (kx_sL (ks_iconst hx hb (by decide +kernel) (by decide +kernel : decode cL_build 104 = .ok (.iconst 3, 1))))))
    (kx_sB (kx_sB (kx_sL (ks_aload_n hx hb rfl (by decide +kernel : decode cL_build 105 = .ok (.aload_n 0, 1))))
    (kx_sL (ks_cl X hE hKb hXp (rm := ({ frames := 1, cells := 0, slots := 0, locals := 21 })) (lr_oil_M had hL9 hEX) ⟨rfl, rfl⟩ kw_365 kw_366 kw_367 kw_0 (by decide +kernel) (by decide) (by decide +kernel : decode cL_build 106 = .ok (.invokestatic 100, 3)))))
    (kx_sB (kx_sL (ks_cv X (kc_X10_tell l) ⟨rfl, rfl⟩ kf_10 kw_1078 kw_1079 kw_1080 kw_1081 kw_1 (by decide +kernel) (by decide) (by decide +kernel : decode cL_build 109 = .ok (.invokevirtual 91, 3))))
    (kx_sL (ks_gh (ks_pop hx hb (by decide +kernel : decode cL_build 112 = .ok (.pop, 1))))))))
    (kx_sB (kx_sB (kx_sB (kx_sL (ks_aload_n hx hb rfl (by decide +kernel : decode cL_build 113 = .ok (.aload_n 1, 1))))
    (kx_sL (ks_iconst hx hb (by decide +kernel) (by decide +kernel : decode cL_build 114 = .ok (.iconst 4, 1)))))
    (kx_sB (kx_sL (ks_aload_n hx hb rfl (by decide +kernel : decode cL_build 115 = .ok (.aload_n 0, 1))))
    (kx_sL (ks_cl X hE hKb hXp (rm := ({ frames := 1, cells := 0, slots := 0, locals := 21 })) (lr_coal_M had hL9 hEX) ⟨rfl, rfl⟩ kw_1088 kw_1089 kw_1090 kw_0 (by decide +kernel) (by decide) (by decide +kernel : decode cL_build 116 = .ok (.invokestatic 103, 3))))))
    (kx_sB (kx_sB (kx_sL (ks_cv X (kc_X10_tell l) ⟨rfl, rfl⟩ kf_10 kw_1078 kw_1079 kw_1080 kw_1081 kw_1 (by decide +kernel) (by decide) (by decide +kernel : decode cL_build 119 = .ok (.invokevirtual 91, 3))))
    (kx_sL (ks_gh (ks_pop hx hb (by decide +kernel : decode cL_build 122 = .ok (.pop, 1))))))
    (kx_sB (kx_sL (ks_aload_n hx hb rfl (by decide +kernel : decode cL_build 123 = .ok (.aload_n 1, 1))))
    (kx_sL (ks_aret2 Z hx hb hr (by decide +kernel : decode cL_build 124 = .ok (.areturn, 1))))))))))
def tb_lw0 (xs : Nat → Int32) (L9 : Nat) : Nat → kx_T := (kx_br 91 (kx_br 45 (kx_br 25 (kx_br 15 (kx_br 8 (kx_br 5 (kx_lf 4 (ki_astore 1 5)) (kx_br 6 (kx_lf 5 (ki_aload 0 6)) (kx_lf 6 (ki_ic (6) 8)))) (kx_br 13 (kx_br 11 (kx_lf 8 (ki_cl 2 (lr_at xs L9) 11)) (kx_lf 11 (ki_ic (15) 13))) (kx_br 14 (kx_lf 13 (ki_iand 14)) (kx_lf 14 (ki_istore 2 15))))) (kx_br 19 (kx_br 17 (kx_br 16 (kx_lf 15 (ki_ic (0) 16)) (kx_lf 16 (ki_istore 3 17))) (kx_br 18 (kx_lf 17 (ki_iload 3 18)) (kx_lf 18 (ki_iload 2 19)))) (kx_br 23 (kx_br 22 (kx_lf 19 (ki_icmp_ge 79 22)) (kx_lf 22 (ki_aload 1 23))) (kx_br 24 (kx_lf 23 (ki_ic (3) 24)) (kx_lf 24 (ki_aload 0 25)))))) (kx_br 36 (kx_br 29 (kx_br 27 (kx_lf 25 (ki_ic (7) 27)) (kx_br 28 (kx_lf 27 (ki_iload 3 28)) (kx_lf 28 (ki_ic (4) 29)))) (kx_br 31 (kx_br 30 (kx_lf 29 (ki_idiv 30)) (kx_lf 30 (ki_iadd 31))) (kx_br 34 (kx_lf 31 (ki_cl 2 (lr_at xs L9) 34)) (kx_lf 34 (ki_ic (8) 36))))) (kx_br 40 (kx_br 38 (kx_br 37 (kx_lf 36 (ki_iload 3 37)) (kx_lf 37 (ki_ic (4) 38))) (kx_br 39 (kx_lf 38 (ki_irem 39)) (kx_lf 39 (ki_imul 40)))) (kx_br 43 (kx_br 41 (kx_lf 40 (ki_ishr 41)) (kx_lf 41 (ki_ic (7) 43))) (kx_br 44 (kx_lf 43 (ki_iand 44)) (kx_lf 44 (ki_ic (5) 45))))))) (kx_br 64 (kx_br 53 (kx_br 48 (kx_br 46 (kx_lf 45 (ki_irem 46)) (kx_br 47 (kx_lf 46 (ki_iadd 47)) (kx_lf 47 (ki_aload 0 48)))) (kx_br 51 (kx_br 50 (kx_lf 48 (ki_ic (7) 50)) (kx_lf 50 (ki_iload 3 51))) (kx_br 52 (kx_lf 51 (ki_ic (4) 52)) (kx_lf 52 (ki_idiv 53))))) (kx_br 60 (kx_br 57 (kx_br 54 (kx_lf 53 (ki_iadd 54)) (kx_lf 54 (ki_cl 2 (lr_at xs L9) 57))) (kx_br 59 (kx_lf 57 (ki_ic (8) 59)) (kx_lf 59 (ki_iload 3 60)))) (kx_br 62 (kx_br 61 (kx_lf 60 (ki_ic (4) 61)) (kx_lf 61 (ki_irem 62))) (kx_br 63 (kx_lf 62 (ki_imul 63)) (kx_lf 63 (ki_ic (3) 64)))))) (kx_br 76 (kx_br 68 (kx_br 65 (kx_lf 64 (ki_iadd 65)) (kx_br 66 (kx_lf 65 (ki_ishr 66)) (kx_lf 66 (ki_ic (31) 68)))) (kx_br 72 (kx_br 69 (kx_lf 68 (ki_iand 69)) (kx_lf 69 (ki_cv 10 2 4 sp_X10_ship 72))) (kx_br 73 (kx_lf 72 (kx_gh (ki_pop 73))) (kx_lf 73 (ki_iinc 3 (1) 76))))) (kx_br 82 (kx_br 80 (kx_br 79 (kx_lf 76 (ki_goto 17)) (kx_lf 79 (ki_ic (0) 80))) (kx_br 81 (kx_lf 80 (ki_istore 3 81)) (kx_lf 81 (ki_ic (0) 82)))) (kx_br 86 (kx_br 84 (kx_lf 82 (ki_istore 4 84)) (kx_lf 84 (ki_iload 4 86))) (kx_br 88 (kx_lf 86 (ki_ic (48) 88)) (kx_lf 88 (ki_icmp_ge 106 91)))))))) (kx_br 143 (kx_br 118 (kx_br 103 (kx_br 95 (kx_br 92 (kx_lf 91 (ki_iload 3 92)) (kx_br 93 (kx_lf 92 (ki_aload 1 93)) (kx_lf 93 (ki_iload 4 95)))) (kx_br 99 (kx_br 98 (kx_lf 95 (ki_cv 10 1 2 sp_X10_dark 98)) (kx_lf 98 (ki_iadd 99))) (kx_br 100 (kx_lf 99 (ki_istore 3 100)) (kx_lf 100 (ki_iinc 4 (1) 103))))) (kx_br 110 (kx_br 107 (kx_br 106 (kx_lf 103 (ki_goto 84)) (kx_lf 106 (ki_aload 1 107))) (kx_br 109 (kx_lf 107 (ki_ic (48) 109)) (kx_lf 109 (ki_ic (0) 110)))) (kx_br 115 (kx_br 113 (kx_lf 110 (ki_cv 10 2 3 sp_X10_would 113)) (kx_lf 113 (ki_istore 4 115))) (kx_br 116 (kx_lf 115 (ki_aload 1 116)) (kx_lf 116 (ki_ic (48) 118)))))) (kx_br 131 (kx_br 124 (kx_br 119 (kx_lf 118 (ki_ic (1) 119)) (kx_br 122 (kx_lf 119 (ki_cv 10 2 3 sp_X10_would 122)) (kx_lf 122 (ki_istore 5 124)))) (kx_br 127 (kx_br 125 (kx_lf 124 (ki_aload 1 125)) (kx_lf 125 (ki_ic (48) 127))) (kx_br 128 (kx_lf 127 (ki_ic (4) 128)) (kx_lf 128 (ki_cv 10 2 3 sp_X10_would 131))))) (kx_br 137 (kx_br 134 (kx_br 133 (kx_lf 131 (ki_istore 6 133)) (kx_lf 133 (ki_ic (0) 134))) (kx_br 136 (kx_lf 134 (ki_istore 7 136)) (kx_lf 136 (ki_ic (0) 137)))) (kx_br 140 (kx_br 139 (kx_lf 137 (ki_istore 8 139)) (kx_lf 139 (ki_ic (0) 140))) (kx_br 142 (kx_lf 140 (ki_istore 9 142)) (kx_lf 142 (ki_ic (0) 143))))))) (kx_br 171 (kx_br 157 (kx_br 149 (kx_br 145 (kx_lf 143 (ki_istore 10 145)) (kx_br 147 (kx_lf 145 (ki_iload 10 147)) (kx_lf 147 (ki_ic (48) 149)))) (kx_br 153 (kx_br 152 (kx_lf 149 (ki_icmp_ge 311 152)) (kx_lf 152 (ki_aload 1 153))) (kx_br 154 (kx_lf 153 (ki_ic (1) 154)) (kx_lf 154 (ki_cv 10 1 3 sp_X10_status 157))))) (kx_br 164 (kx_br 160 (kx_br 159 (kx_lf 157 (ki_istore 11 159)) (kx_lf 159 (ki_aload 1 160))) (kx_br 161 (kx_lf 160 (ki_ic (1) 161)) (kx_lf 161 (ki_cv 10 1 4 sp_X10_pass 164)))) (kx_br 167 (kx_br 166 (kx_lf 164 (ki_istore 12 166)) (kx_lf 166 (ki_aload 1 167))) (kx_br 168 (kx_lf 167 (ki_ic (3) 168)) (kx_lf 168 (ki_cv 10 1 3 sp_X10_status 171)))))) (kx_br 185 (kx_br 176 (kx_br 173 (kx_lf 171 (ki_istore 13 173)) (kx_br 175 (kx_lf 173 (ki_iload 13 175)) (kx_lf 175 (ki_ic (1) 176)))) (kx_br 180 (kx_br 179 (kx_lf 176 (ki_icmp_ne 188 179)) (kx_lf 179 (ki_aload 1 180))) (kx_br 182 (kx_lf 180 (ki_iload 10 182)) (kx_lf 182 (ki_cv 10 1 2 sp_X10_dark 185))))) (kx_br 193 (kx_br 190 (kx_br 188 (kx_lf 185 (ki_if_eq 220 188)) (kx_lf 188 (ki_iload 12 190))) (kx_br 191 (kx_lf 190 (ki_aload 1 191)) (kx_lf 191 (ki_iload 10 193)))) (kx_br 198 (kx_br 196 (kx_lf 193 (ki_cv 10 1 2 sp_X10_dark 196)) (kx_lf 196 (ki_iload 13 198))) (kx_br 199 (kx_lf 198 (ki_isub 199)) (kx_lf 199 (ki_icmp_ne 220 202)))))))))
set_option maxRecDepth 100000 in
set_option maxHeartbeats 4000000 in
theorem kd_lw0 {p : Program} {l : Launch} {e : Env} {s : State} {m : MethodId} {below : List Frame} {meth : Method} {c : Code} {cB : ClassId} {D : va_G} {C4 : kx_C} {ad0 : Nat → Nat} {F : Option kx_V → kx_S → Prop} {b9 L9 : Nat} {xs : Nat → Int32} (X : kx_Ctx p room_1 s m #[Value.ref b9] c code "KeptLightLaw" 15 D C4 (fun q => s.heap.size ≤ q) 0 (kx_NC, F) 16 160) (hr : meth.sig.returnType = ret) (hlk : meth.locks = false) (hL9 : L9 < 2 ^ 31) {Xp : (Nat → Prop) → State → Heap → Prop} (hE : sq_Ext Xp) (hEX : ∀ A U H, Xp A U H → sj_X b9 L9 xs A U H) (hKb : va_K D vwCl [(cB, .byte)] s) (hXp : Xp (fun q => s.heap.size ≤ q) s s.heap) (had : ad0 kx_NC = b9) : ∀ pc, kx_Snd (kx_W p l e room_1 s m #[Value.ref b9] below meth c (lw_Z below #[Value.ref b9] s) D C4 (fun q => s.heap.size ≤ q) 0 ad0 15 16 160 (kx_NC, F)) (kx_NC, F) pc (tb_lw0 xs L9 pc) := by
  have hx := X.1.1
  have hb := X.1.2.1
  have hts := X.1.2.2.2.2
  exact (kx_sB (kx_sB (kx_sB (kx_sB (kx_sB (kx_sB (kx_sL (ks_astore_n hx hb rfl (by decide) (by decide +kernel : decode code 4 = .ok (.astore_n 1, 1))))
    (kx_sB (kx_sL (ks_aload_n hx hb rfl (by decide +kernel : decode code 5 = .ok (.aload_n 0, 1))))
    (kx_sL (ks_bipush hx hb (by decide +kernel) (by decide +kernel : decode code 6 = .ok (.bipush 6, 2))))))
    (kx_sB (kx_sB (kx_sL (ks_cl X hE hKb hXp (rm := ({ frames := 0, cells := 0, slots := 0, locals := 0 })) (lr_at_M had hL9 hEX) ⟨rfl, rfl⟩ kw_350 kw_351 kw_352 kw_0 (by decide +kernel) (by decide) (by decide +kernel : decode code 8 = .ok (.invokestatic 23, 3))))
    (kx_sL (ks_bipush hx hb (by decide +kernel) (by decide +kernel : decode code 11 = .ok (.bipush 15, 2)))))
    (kx_sB (kx_sL (ks_iand hx hb (by decide +kernel : decode code 13 = .ok (.iand, 1))))
    (kx_sL (ks_istore_n hx hb rfl (by decide) (by decide +kernel : decode code 14 = .ok (.istore_n 2, 1)))))))
    (kx_sB (kx_sB (kx_sB (kx_sL (ks_iconst hx hb (by decide +kernel) (by decide +kernel : decode code 15 = .ok (.iconst 0, 1))))
    (kx_sL (ks_istore_n hx hb rfl (by decide) (by decide +kernel : decode code 16 = .ok (.istore_n 3, 1)))))
    (kx_sB (kx_sL (ks_iload_n hx hb rfl (by decide +kernel : decode code 17 = .ok (.iload_n 3, 1))))
    (kx_sL (ks_iload_n hx hb rfl (by decide +kernel : decode code 18 = .ok (.iload_n 2, 1))))))
    (kx_sB (kx_sB (kx_sL (ks_icmp_ge hx hb (by decide) (by decide +kernel : decode code 19 = .ok (.if_icmp .ge 60, 3))))
    (kx_sL (ks_aload_n hx hb rfl (by decide +kernel : decode code 22 = .ok (.aload_n 1, 1)))))
    (kx_sB (kx_sL (ks_iconst hx hb (by decide +kernel) (by decide +kernel : decode code 23 = .ok (.iconst 3, 1))))
    (kx_sL (ks_aload_n hx hb rfl (by decide +kernel : decode code 24 = .ok (.aload_n 0, 1))))))))
    (kx_sB (kx_sB (kx_sB (kx_sL (ks_bipush hx hb (by decide +kernel) (by decide +kernel : decode code 25 = .ok (.bipush 7, 2))))
    (kx_sB (kx_sL (ks_iload_n hx hb rfl (by decide +kernel : decode code 27 = .ok (.iload_n 3, 1))))
    (kx_sL (ks_iconst hx hb (by decide +kernel) (by decide +kernel : decode code 28 = .ok (.iconst 4, 1))))))
    (kx_sB (kx_sB (kx_sL (ks_idiv hx hb (by decide +kernel : decode code 29 = .ok (.idiv, 1))))
    (kx_sL (ks_iadd hx hb (by decide +kernel : decode code 30 = .ok (.iadd, 1)))))
    (kx_sB (kx_sL (ks_cl X hE hKb hXp (rm := ({ frames := 0, cells := 0, slots := 0, locals := 0 })) (lr_at_M had hL9 hEX) ⟨rfl, rfl⟩ kw_350 kw_351 kw_352 kw_0 (by decide +kernel) (by decide) (by decide +kernel : decode code 31 = .ok (.invokestatic 23, 3))))
    (kx_sL (ks_bipush hx hb (by decide +kernel) (by decide +kernel : decode code 34 = .ok (.bipush 8, 2)))))))
    (kx_sB (kx_sB (kx_sB (kx_sL (ks_iload_n hx hb rfl (by decide +kernel : decode code 36 = .ok (.iload_n 3, 1))))
    (kx_sL (ks_iconst hx hb (by decide +kernel) (by decide +kernel : decode code 37 = .ok (.iconst 4, 1)))))
    (kx_sB (kx_sL (ks_irem hx hb (by decide +kernel : decode code 38 = .ok (.irem, 1))))
    (kx_sL (ks_imul hx hb (by decide +kernel : decode code 39 = .ok (.imul, 1))))))
    (kx_sB (kx_sB (kx_sL (ks_ishr hx hb (by decide +kernel : decode code 40 = .ok (.ishr, 1))))
    (kx_sL (ks_bipush hx hb (by decide +kernel) (by decide +kernel : decode code 41 = .ok (.bipush 7, 2)))))
    (kx_sB (kx_sL (ks_iand hx hb (by decide +kernel : decode code 43 = .ok (.iand, 1))))
    (kx_sL (ks_iconst hx hb (by decide +kernel) (by decide +kernel : decode code 44 = .ok (.iconst 5, 1)))))))))
    (kx_sB (kx_sB (kx_sB (kx_sB (kx_sL (ks_irem hx hb (by decide +kernel : decode code 45 = .ok (.irem, 1))))
    (kx_sB (kx_sL (ks_iadd hx hb (by decide +kernel : decode code 46 = .ok (.iadd, 1))))
    (kx_sL (ks_aload_n hx hb rfl (by decide +kernel : decode code 47 = .ok (.aload_n 0, 1))))))
    (kx_sB (kx_sB (kx_sL (ks_bipush hx hb (by decide +kernel) (by decide +kernel : decode code 48 = .ok (.bipush 7, 2))))
    (kx_sL (ks_iload_n hx hb rfl (by decide +kernel : decode code 50 = .ok (.iload_n 3, 1)))))
    (kx_sB (kx_sL (ks_iconst hx hb (by decide +kernel) (by decide +kernel : decode code 51 = .ok (.iconst 4, 1))))
    (kx_sL (ks_idiv hx hb (by decide +kernel : decode code 52 = .ok (.idiv, 1)))))))
    (kx_sB (kx_sB (kx_sB (kx_sL (ks_iadd hx hb (by decide +kernel : decode code 53 = .ok (.iadd, 1))))
    (kx_sL (ks_cl X hE hKb hXp (rm := ({ frames := 0, cells := 0, slots := 0, locals := 0 })) (lr_at_M had hL9 hEX) ⟨rfl, rfl⟩ kw_350 kw_351 kw_352 kw_0 (by decide +kernel) (by decide) (by decide +kernel : decode code 54 = .ok (.invokestatic 23, 3)))))
    (kx_sB (kx_sL (ks_bipush hx hb (by decide +kernel) (by decide +kernel : decode code 57 = .ok (.bipush 8, 2))))
    (kx_sL (ks_iload_n hx hb rfl (by decide +kernel : decode code 59 = .ok (.iload_n 3, 1))))))
    (kx_sB (kx_sB (kx_sL (ks_iconst hx hb (by decide +kernel) (by decide +kernel : decode code 60 = .ok (.iconst 4, 1))))
    (kx_sL (ks_irem hx hb (by decide +kernel : decode code 61 = .ok (.irem, 1)))))
    (kx_sB (kx_sL (ks_imul hx hb (by decide +kernel : decode code 62 = .ok (.imul, 1))))
    (kx_sL (ks_iconst hx hb (by decide +kernel) (by decide +kernel : decode code 63 = .ok (.iconst 3, 1))))))))
    (kx_sB (kx_sB (kx_sB (kx_sL (ks_iadd hx hb (by decide +kernel : decode code 64 = .ok (.iadd, 1))))
    (kx_sB (kx_sL (ks_ishr hx hb (by decide +kernel : decode code 65 = .ok (.ishr, 1))))
    (kx_sL (ks_bipush hx hb (by decide +kernel) (by decide +kernel : decode code 66 = .ok (.bipush 31, 2))))))
    (kx_sB (kx_sB (kx_sL (ks_iand hx hb (by decide +kernel : decode code 68 = .ok (.iand, 1))))
    (kx_sL (ks_cv X (kc_X10_ship l) ⟨rfl, rfl⟩ kf_10 kw_43 kw_44 kw_45 kw_46 kw_1 (by decide +kernel) (by decide) (by decide +kernel : decode code 69 = .ok (.invokevirtual 128, 3)))))
    (kx_sB (kx_sL (ks_gh (ks_pop hx hb (by decide +kernel : decode code 72 = .ok (.pop, 1)))))
    (kx_sL (ks_iinc hx hb (by decide +kernel) (by decide) (by decide +kernel : decode code 73 = .ok (.iinc 3 1, 3)))))))
    (kx_sB (kx_sB (kx_sB (kx_sL (ks_goto hx hb (by decide) (by decide +kernel : decode code 76 = .ok (.goto (-59), 3))))
    (kx_sL (ks_iconst hx hb (by decide +kernel) (by decide +kernel : decode code 79 = .ok (.iconst 0, 1)))))
    (kx_sB (kx_sL (ks_istore_n hx hb rfl (by decide) (by decide +kernel : decode code 80 = .ok (.istore_n 3, 1))))
    (kx_sL (ks_iconst hx hb (by decide +kernel) (by decide +kernel : decode code 81 = .ok (.iconst 0, 1))))))
    (kx_sB (kx_sB (kx_sL (ks_istore hx hb (by decide) (by decide +kernel : decode code 82 = .ok (.istore 4, 2))))
    (kx_sL (ks_iload hx hb (by decide +kernel : decode code 84 = .ok (.iload 4, 2)))))
    (kx_sB (kx_sL (ks_bipush hx hb (by decide +kernel) (by decide +kernel : decode code 86 = .ok (.bipush 48, 2))))
    (kx_sL (ks_icmp_ge hx hb (by decide) (by decide +kernel : decode code 88 = .ok (.if_icmp .ge 18, 3))))))))))
    (kx_sB (kx_sB (kx_sB (kx_sB (kx_sB (kx_sL (ks_iload_n hx hb rfl (by decide +kernel : decode code 91 = .ok (.iload_n 3, 1))))
    (kx_sB (kx_sL (ks_aload_n hx hb rfl (by decide +kernel : decode code 92 = .ok (.aload_n 1, 1))))
    (kx_sL (ks_iload hx hb (by decide +kernel : decode code 93 = .ok (.iload 4, 2))))))
    (kx_sB (kx_sB (kx_sL (ks_cv X (kc_X10_dark l) ⟨rfl, rfl⟩ kf_10 kw_24 kw_25 kw_26 kw_27 kw_1 (by decide +kernel) (by decide) (by decide +kernel : decode code 95 = .ok (.invokevirtual 131, 3))))
    (kx_sL (ks_iadd hx hb (by decide +kernel : decode code 98 = .ok (.iadd, 1)))))
    (kx_sB (kx_sL (ks_istore_n hx hb rfl (by decide) (by decide +kernel : decode code 99 = .ok (.istore_n 3, 1))))
    (kx_sL (ks_iinc hx hb (by decide +kernel) (by decide) (by decide +kernel : decode code 100 = .ok (.iinc 4 1, 3)))))))
    (kx_sB (kx_sB (kx_sB (kx_sL (ks_goto hx hb (by decide) (by decide +kernel : decode code 103 = .ok (.goto (-19), 3))))
    (kx_sL (ks_aload_n hx hb rfl (by decide +kernel : decode code 106 = .ok (.aload_n 1, 1)))))
    (kx_sB (kx_sL (ks_bipush hx hb (by decide +kernel) (by decide +kernel : decode code 107 = .ok (.bipush 48, 2))))
    (kx_sL (ks_iconst hx hb (by decide +kernel) (by decide +kernel : decode code 109 = .ok (.iconst 0, 1))))))
    (kx_sB (kx_sB (kx_sL (ks_cv X (kc_X10_would l) ⟨rfl, rfl⟩ kf_10 kw_288 kw_289 kw_290 kw_291 kw_1 (by decide +kernel) (by decide) (by decide +kernel : decode code 110 = .ok (.invokevirtual 134, 3))))
    (kx_sL (ks_istore hx hb (by decide) (by decide +kernel : decode code 113 = .ok (.istore 4, 2)))))
    (kx_sB (kx_sL (ks_aload_n hx hb rfl (by decide +kernel : decode code 115 = .ok (.aload_n 1, 1))))
    (kx_sL (ks_bipush hx hb (by decide +kernel) (by decide +kernel : decode code 116 = .ok (.bipush 48, 2))))))))
    (kx_sB (kx_sB (kx_sB (kx_sL (ks_iconst hx hb (by decide +kernel) (by decide +kernel : decode code 118 = .ok (.iconst 1, 1))))
    (kx_sB (kx_sL (ks_cv X (kc_X10_would l) ⟨rfl, rfl⟩ kf_10 kw_288 kw_289 kw_290 kw_291 kw_1 (by decide +kernel) (by decide) (by decide +kernel : decode code 119 = .ok (.invokevirtual 134, 3))))
    (kx_sL (ks_istore hx hb (by decide) (by decide +kernel : decode code 122 = .ok (.istore 5, 2))))))
    (kx_sB (kx_sB (kx_sL (ks_aload_n hx hb rfl (by decide +kernel : decode code 124 = .ok (.aload_n 1, 1))))
    (kx_sL (ks_bipush hx hb (by decide +kernel) (by decide +kernel : decode code 125 = .ok (.bipush 48, 2)))))
    (kx_sB (kx_sL (ks_iconst hx hb (by decide +kernel) (by decide +kernel : decode code 127 = .ok (.iconst 4, 1))))
    (kx_sL (ks_cv X (kc_X10_would l) ⟨rfl, rfl⟩ kf_10 kw_288 kw_289 kw_290 kw_291 kw_1 (by decide +kernel) (by decide) (by decide +kernel : decode code 128 = .ok (.invokevirtual 134, 3)))))))
    (kx_sB (kx_sB (kx_sB (kx_sL (ks_istore hx hb (by decide) (by decide +kernel : decode code 131 = .ok (.istore 6, 2))))
    (kx_sL (ks_iconst hx hb (by decide +kernel) (by decide +kernel : decode code 133 = .ok (.iconst 0, 1)))))
    (kx_sB (kx_sL (ks_istore hx hb (by decide) (by decide +kernel : decode code 134 = .ok (.istore 7, 2))))
    (kx_sL (ks_iconst hx hb (by decide +kernel) (by decide +kernel : decode code 136 = .ok (.iconst 0, 1))))))
    (kx_sB (kx_sB (kx_sL (ks_istore hx hb (by decide) (by decide +kernel : decode code 137 = .ok (.istore 8, 2))))
    (kx_sL (ks_iconst hx hb (by decide +kernel) (by decide +kernel : decode code 139 = .ok (.iconst 0, 1)))))
    (kx_sB (kx_sL (ks_istore hx hb (by decide) (by decide +kernel : decode code 140 = .ok (.istore 9, 2))))
    (kx_sL (ks_iconst hx hb (by decide +kernel) (by decide +kernel : decode code 142 = .ok (.iconst 0, 1)))))))))
    (kx_sB (kx_sB (kx_sB (kx_sB (kx_sL (ks_istore hx hb (by decide) (by decide +kernel : decode code 143 = .ok (.istore 10, 2))))
    (kx_sB (kx_sL (ks_iload hx hb (by decide +kernel : decode code 145 = .ok (.iload 10, 2))))
    (kx_sL (ks_bipush hx hb (by decide +kernel) (by decide +kernel : decode code 147 = .ok (.bipush 48, 2))))))
    (kx_sB (kx_sB (kx_sL (ks_icmp_ge hx hb (by decide) (by decide +kernel : decode code 149 = .ok (.if_icmp .ge 162, 3))))
    (kx_sL (ks_aload_n hx hb rfl (by decide +kernel : decode code 152 = .ok (.aload_n 1, 1)))))
    (kx_sB (kx_sL (ks_iconst hx hb (by decide +kernel) (by decide +kernel : decode code 153 = .ok (.iconst 1, 1))))
    (kx_sL (ks_cv X (kc_X10_status l) ⟨rfl, rfl⟩ kf_10 kw_334 kw_335 kw_336 kw_337 kw_1 (by decide +kernel) (by decide) (by decide +kernel : decode code 154 = .ok (.invokevirtual 121, 3)))))))
    (kx_sB (kx_sB (kx_sB (kx_sL (ks_istore hx hb (by decide) (by decide +kernel : decode code 157 = .ok (.istore 11, 2))))
    (kx_sL (ks_aload_n hx hb rfl (by decide +kernel : decode code 159 = .ok (.aload_n 1, 1)))))
    (kx_sB (kx_sL (ks_iconst hx hb (by decide +kernel) (by decide +kernel : decode code 160 = .ok (.iconst 1, 1))))
    (kx_sL (ks_cv X (kc_X10_pass l) ⟨rfl, rfl⟩ kf_10 kw_110 kw_111 kw_112 kw_113 kw_1 (by decide +kernel) (by decide) (by decide +kernel : decode code 161 = .ok (.invokevirtual 137, 3))))))
    (kx_sB (kx_sB (kx_sL (ks_istore hx hb (by decide) (by decide +kernel : decode code 164 = .ok (.istore 12, 2))))
    (kx_sL (ks_aload_n hx hb rfl (by decide +kernel : decode code 166 = .ok (.aload_n 1, 1)))))
    (kx_sB (kx_sL (ks_iconst hx hb (by decide +kernel) (by decide +kernel : decode code 167 = .ok (.iconst 3, 1))))
    (kx_sL (ks_cv X (kc_X10_status l) ⟨rfl, rfl⟩ kf_10 kw_334 kw_335 kw_336 kw_337 kw_1 (by decide +kernel) (by decide) (by decide +kernel : decode code 168 = .ok (.invokevirtual 121, 3))))))))
    (kx_sB (kx_sB (kx_sB (kx_sL (ks_istore hx hb (by decide) (by decide +kernel : decode code 171 = .ok (.istore 13, 2))))
    (kx_sB (kx_sL (ks_iload hx hb (by decide +kernel : decode code 173 = .ok (.iload 13, 2))))
    (kx_sL (ks_iconst hx hb (by decide +kernel) (by decide +kernel : decode code 175 = .ok (.iconst 1, 1))))))
    (kx_sB (kx_sB (kx_sL (ks_icmp_ne hx hb (by decide) (by decide +kernel : decode code 176 = .ok (.if_icmp .ne 12, 3))))
    (kx_sL (ks_aload_n hx hb rfl (by decide +kernel : decode code 179 = .ok (.aload_n 1, 1)))))
    (kx_sB (kx_sL (ks_iload hx hb (by decide +kernel : decode code 180 = .ok (.iload 10, 2))))
    (kx_sL (ks_cv X (kc_X10_dark l) ⟨rfl, rfl⟩ kf_10 kw_24 kw_25 kw_26 kw_27 kw_1 (by decide +kernel) (by decide) (by decide +kernel : decode code 182 = .ok (.invokevirtual 131, 3)))))))
    (kx_sB (kx_sB (kx_sB (kx_sL (ks_if_eq hx hb (by decide) (by decide +kernel : decode code 185 = .ok (.ifCond .eq 35, 3))))
    (kx_sL (ks_iload hx hb (by decide +kernel : decode code 188 = .ok (.iload 12, 2)))))
    (kx_sB (kx_sL (ks_aload_n hx hb rfl (by decide +kernel : decode code 190 = .ok (.aload_n 1, 1))))
    (kx_sL (ks_iload hx hb (by decide +kernel : decode code 191 = .ok (.iload 10, 2))))))
    (kx_sB (kx_sB (kx_sL (ks_cv X (kc_X10_dark l) ⟨rfl, rfl⟩ kf_10 kw_24 kw_25 kw_26 kw_27 kw_1 (by decide +kernel) (by decide) (by decide +kernel : decode code 193 = .ok (.invokevirtual 131, 3))))
    (kx_sL (ks_iload hx hb (by decide +kernel : decode code 196 = .ok (.iload 13, 2)))))
    (kx_sB (kx_sL (ks_isub hx hb (by decide +kernel : decode code 198 = .ok (.isub, 1))))
    (kx_sL (ks_icmp_ne hx hb (by decide) (by decide +kernel : decode code 199 = .ok (.if_icmp .ne 21, 3)))))))))))
def tb_lw1 (xs : Nat → Int32) (L9 : Nat) : Nat → kx_T := (kx_br 311 (kx_br 254 (kx_br 227 (kx_br 215 (kx_br 207 (kx_br 203 (kx_lf 202 (ki_aload 1 203)) (kx_br 204 (kx_lf 203 (ki_ic (1) 204)) (kx_lf 204 (ki_cv 10 1 3 sp_X10_status 207)))) (kx_br 211 (kx_br 209 (kx_lf 207 (ki_iload 11 209)) (kx_lf 209 (ki_iload 13 211))) (kx_br 212 (kx_lf 211 (ki_aload 0 212)) (kx_lf 212 (ki_cl 1 (lr_wick xs L9) 215))))) (kx_br 221 (kx_br 217 (kx_br 216 (kx_lf 215 (ki_imul 216)) (kx_lf 216 (ki_isub 217))) (kx_br 220 (kx_lf 217 (ki_icmp_eq 222 220)) (kx_lf 220 (ki_ic (0) 221)))) (kx_br 224 (kx_br 222 (kx_lf 221 (ki_lwret)) (kx_lf 222 (ki_iload 7 224))) (kx_br 226 (kx_lf 224 (ki_iload 13 226)) (kx_lf 226 (ki_aload 0 227)))))) (kx_br 239 (kx_br 232 (kx_br 230 (kx_lf 227 (ki_cl 1 (lr_wick xs L9) 230)) (kx_br 231 (kx_lf 230 (ki_imul 231)) (kx_lf 231 (ki_iadd 232)))) (kx_br 236 (kx_br 234 (kx_lf 232 (ki_istore 7 234)) (kx_lf 234 (ki_iload 8 236))) (kx_br 238 (kx_lf 236 (ki_iload 12 238)) (kx_lf 238 (ki_iadd 239))))) (kx_br 246 (kx_br 242 (kx_br 241 (kx_lf 239 (ki_istore 8 241)) (kx_lf 241 (ki_aload 0 242))) (kx_br 244 (kx_lf 242 (ki_iload 10 244)) (kx_lf 244 (ki_ic (24) 246)))) (kx_br 250 (kx_br 247 (kx_lf 246 (ki_irem 247)) (kx_lf 247 (ki_cl 2 (lr_watch xs L9) 250))) (kx_br 252 (kx_lf 250 (ki_istore 14 252)) (kx_lf 252 (ki_iload 13 254))))))) (kx_br 280 (kx_br 267 (kx_br 259 (kx_br 255 (kx_lf 254 (ki_ic (1) 255)) (kx_br 258 (kx_lf 255 (ki_icmp_ne 274 258)) (kx_lf 258 (ki_aload 1 259)))) (kx_br 263 (kx_br 260 (kx_lf 259 (ki_ic (4) 260)) (kx_lf 260 (ki_cv 10 1 3 sp_X10_status 263))) (kx_br 264 (kx_lf 263 (ki_ic (1) 264)) (kx_lf 264 (ki_icmp_ne 274 267))))) (kx_br 274 (kx_br 270 (kx_br 269 (kx_lf 267 (ki_iload 9 269)) (kx_lf 269 (ki_ic (1) 270))) (kx_br 271 (kx_lf 270 (ki_iadd 271)) (kx_lf 271 (ki_goto 275)))) (kx_br 277 (kx_br 275 (kx_lf 274 (ki_ic (0) 275)) (kx_lf 275 (ki_istore 9 277))) (kx_br 279 (kx_lf 277 (ki_iload 9 279)) (kx_lf 279 (ki_ic (1) 280)))))) (kx_br 295 (kx_br 286 (kx_br 283 (kx_lf 280 (ki_icmp_gt 303 283)) (kx_br 285 (kx_lf 283 (ki_iload 13 285)) (kx_lf 285 (ki_ic (1) 286)))) (kx_br 291 (kx_br 289 (kx_lf 286 (ki_icmp_ne 305 289)) (kx_lf 289 (ki_iload 14 291))) (kx_br 294 (kx_lf 291 (ki_if_ge 305 294)) (kx_lf 294 (ki_aload 1 295))))) (kx_br 303 (kx_br 299 (kx_br 296 (kx_lf 295 (ki_ic (4) 296)) (kx_lf 296 (ki_cv 10 1 3 sp_X10_status 299))) (kx_br 300 (kx_lf 299 (ki_ic (1) 300)) (kx_lf 300 (ki_icmp_eq 305 303)))) (kx_br 305 (kx_br 304 (kx_lf 303 (ki_ic (0) 304)) (kx_lf 304 (ki_lwret))) (kx_br 308 (kx_lf 305 (ki_iinc 10 (1) 308)) (kx_lf 308 (ki_goto 145)))))))) (kx_br 369 (kx_br 343 (kx_br 326 (kx_br 318 (kx_br 313 (kx_lf 311 (ki_iload 8 313)) (kx_br 315 (kx_lf 313 (ki_iload 4 315)) (kx_lf 315 (ki_icmp_ne 377 318)))) (kx_br 321 (kx_br 319 (kx_lf 318 (ki_aload 1 319)) (kx_lf 319 (ki_ic (8) 321))) (kx_br 324 (kx_lf 321 (ki_cv 10 1 3 sp_X10_status 324)) (kx_lf 324 (ki_iload 4 326))))) (kx_br 334 (kx_br 330 (kx_br 329 (kx_lf 326 (ki_icmp_ne 377 329)) (kx_lf 329 (ki_aload 1 330))) (kx_br 331 (kx_lf 330 (ki_ic (1) 331)) (kx_lf 331 (ki_cv 10 1 3 sp_X10_status 334)))) (kx_br 339 (kx_br 336 (kx_lf 334 (ki_iload 5 336)) (kx_lf 336 (ki_icmp_ne 377 339))) (kx_br 340 (kx_lf 339 (ki_aload 0 340)) (kx_lf 340 (ki_cl 1 (lr_oil xs L9) 343)))))) (kx_br 354 (kx_br 348 (kx_br 345 (kx_lf 343 (ki_iload 7 345)) (kx_br 346 (kx_lf 345 (ki_isub 346)) (kx_lf 346 (ki_iload 5 348)))) (kx_br 352 (kx_br 351 (kx_lf 348 (ki_icmp_ne 377 351)) (kx_lf 351 (ki_aload 1 352))) (kx_br 353 (kx_lf 352 (ki_ic (0) 353)) (kx_lf 353 (ki_ic (2) 354))))) (kx_br 363 (kx_br 359 (kx_br 357 (kx_lf 354 (ki_cv 10 2 3 sp_X10_many 357)) (kx_lf 357 (ki_iload 6 359))) (kx_br 362 (kx_lf 359 (ki_icmp_ne 377 362)) (kx_lf 362 (ki_aload 1 363)))) (kx_br 367 (kx_br 364 (kx_lf 363 (ki_ic (1) 364)) (kx_lf 364 (ki_cv 10 1 2 sp_X10_logged 367))) (kx_br 368 (kx_lf 367 (ki_aload 1 368)) (kx_lf 368 (ki_ic (2) 369))))))) (kx_br 395 (kx_br 380 (kx_br 374 (kx_br 372 (kx_lf 369 (ki_cv 10 1 2 sp_X10_logged 372)) (kx_br 373 (kx_lf 372 (ki_iadd 373)) (kx_lf 373 (ki_iload 3 374)))) (kx_br 378 (kx_br 377 (kx_lf 374 (ki_icmp_le 379 377)) (kx_lf 377 (ki_ic (0) 378))) (kx_br 379 (kx_lf 378 (ki_lwret)) (kx_lf 379 (ki_ic (0) 380))))) (kx_br 386 (kx_br 384 (kx_br 382 (kx_lf 380 (ki_istore 10 382)) (kx_lf 382 (ki_iload 10 384))) (kx_br 385 (kx_lf 384 (ki_aload 1 385)) (kx_lf 385 (ki_ic (-1) 386)))) (kx_br 392 (kx_br 389 (kx_lf 386 (ki_cv 10 1 2 sp_X10_differences 389)) (kx_lf 389 (ki_icmp_ge 452 392))) (kx_br 393 (kx_lf 392 (ki_aload 1 393)) (kx_lf 393 (ki_iload 10 395)))))) (kx_br 408 (kx_br 401 (kx_br 396 (kx_lf 395 (ki_ic (2) 396)) (kx_br 399 (kx_lf 396 (ki_cv 10 2 4 sp_X10_difference 399)) (kx_lf 399 (ki_istore 11 401)))) (kx_br 404 (kx_br 402 (kx_lf 401 (ki_aload 0 402)) (kx_lf 402 (ki_iload 11 404))) (kx_br 407 (kx_lf 404 (ki_cl 2 (lr_rank xs L9) 407)) (kx_lf 407 (ki_ic (2) 408))))) (kx_br 415 (kx_br 412 (kx_br 411 (kx_lf 408 (ki_icmp_ne 444 411)) (kx_lf 411 (ki_aload 1 412))) (kx_br 413 (kx_lf 412 (ki_aload 1 413)) (kx_lf 413 (ki_iload 10 415)))) (kx_br 419 (kx_br 416 (kx_lf 415 (ki_ic (0) 416)) (kx_lf 416 (ki_cv 10 2 4 sp_X10_difference 419))) (kx_br 422 (kx_lf 419 (ki_cv 10 1 2 sp_X10_dark 422)) (kx_lf 422 (ki_ic (1) 423)))))))))
set_option maxRecDepth 100000 in
set_option maxHeartbeats 4000000 in
theorem kd_lw1 {p : Program} {l : Launch} {e : Env} {s : State} {m : MethodId} {below : List Frame} {meth : Method} {c : Code} {cB : ClassId} {D : va_G} {C4 : kx_C} {ad0 : Nat → Nat} {F : Option kx_V → kx_S → Prop} {b9 L9 : Nat} {xs : Nat → Int32} (X : kx_Ctx p room_1 s m #[Value.ref b9] c code "KeptLightLaw" 15 D C4 (fun q => s.heap.size ≤ q) 0 (kx_NC, F) 16 160) (hr : meth.sig.returnType = ret) (hlk : meth.locks = false) (hL9 : L9 < 2 ^ 31) {Xp : (Nat → Prop) → State → Heap → Prop} (hE : sq_Ext Xp) (hEX : ∀ A U H, Xp A U H → sj_X b9 L9 xs A U H) (hKb : va_K D vwCl [(cB, .byte)] s) (hXp : Xp (fun q => s.heap.size ≤ q) s s.heap) (had : ad0 kx_NC = b9) : ∀ pc, kx_Snd (kx_W p l e room_1 s m #[Value.ref b9] below meth c (lw_Z below #[Value.ref b9] s) D C4 (fun q => s.heap.size ≤ q) 0 ad0 15 16 160 (kx_NC, F)) (kx_NC, F) pc (tb_lw1 xs L9 pc) := by
  have hx := X.1.1
  have hb := X.1.2.1
  have hts := X.1.2.2.2.2
  exact (kx_sB (kx_sB (kx_sB (kx_sB (kx_sB (kx_sB (kx_sL (ks_aload_n hx hb rfl (by decide +kernel : decode code 202 = .ok (.aload_n 1, 1))))
    (kx_sB (kx_sL (ks_iconst hx hb (by decide +kernel) (by decide +kernel : decode code 203 = .ok (.iconst 1, 1))))
    (kx_sL (ks_cv X (kc_X10_status l) ⟨rfl, rfl⟩ kf_10 kw_334 kw_335 kw_336 kw_337 kw_1 (by decide +kernel) (by decide) (by decide +kernel : decode code 204 = .ok (.invokevirtual 121, 3))))))
    (kx_sB (kx_sB (kx_sL (ks_iload hx hb (by decide +kernel : decode code 207 = .ok (.iload 11, 2))))
    (kx_sL (ks_iload hx hb (by decide +kernel : decode code 209 = .ok (.iload 13, 2)))))
    (kx_sB (kx_sL (ks_aload_n hx hb rfl (by decide +kernel : decode code 211 = .ok (.aload_n 0, 1))))
    (kx_sL (ks_cl X hE hKb hXp (rm := ({ frames := 1, cells := 0, slots := 0, locals := 21 })) (lr_wick_M had hL9 hEX) ⟨rfl, rfl⟩ kw_362 kw_363 kw_364 kw_0 (by decide +kernel) (by decide) (by decide +kernel : decode code 212 = .ok (.invokestatic 97, 3)))))))
    (kx_sB (kx_sB (kx_sB (kx_sL (ks_imul hx hb (by decide +kernel : decode code 215 = .ok (.imul, 1))))
    (kx_sL (ks_isub hx hb (by decide +kernel : decode code 216 = .ok (.isub, 1)))))
    (kx_sB (kx_sL (ks_icmp_eq hx hb (by decide) (by decide +kernel : decode code 217 = .ok (.if_icmp .eq 5, 3))))
    (kx_sL (ks_iconst hx hb (by decide +kernel) (by decide +kernel : decode code 220 = .ok (.iconst 0, 1))))))
    (kx_sB (kx_sB (kx_sL (ks_lwret hx hb hr hlk (by decide +kernel : decode code 221 = .ok (.ireturn, 1))))
    (kx_sL (ks_iload hx hb (by decide +kernel : decode code 222 = .ok (.iload 7, 2)))))
    (kx_sB (kx_sL (ks_iload hx hb (by decide +kernel : decode code 224 = .ok (.iload 13, 2))))
    (kx_sL (ks_aload_n hx hb rfl (by decide +kernel : decode code 226 = .ok (.aload_n 0, 1))))))))
    (kx_sB (kx_sB (kx_sB (kx_sL (ks_cl X hE hKb hXp (rm := ({ frames := 1, cells := 0, slots := 0, locals := 21 })) (lr_wick_M had hL9 hEX) ⟨rfl, rfl⟩ kw_362 kw_363 kw_364 kw_0 (by decide +kernel) (by decide) (by decide +kernel : decode code 227 = .ok (.invokestatic 97, 3))))
    (kx_sB (kx_sL (ks_imul hx hb (by decide +kernel : decode code 230 = .ok (.imul, 1))))
    (kx_sL (ks_iadd hx hb (by decide +kernel : decode code 231 = .ok (.iadd, 1))))))
    (kx_sB (kx_sB (kx_sL (ks_istore hx hb (by decide) (by decide +kernel : decode code 232 = .ok (.istore 7, 2))))
    (kx_sL (ks_iload hx hb (by decide +kernel : decode code 234 = .ok (.iload 8, 2)))))
    (kx_sB (kx_sL (ks_iload hx hb (by decide +kernel : decode code 236 = .ok (.iload 12, 2))))
    (kx_sL (ks_iadd hx hb (by decide +kernel : decode code 238 = .ok (.iadd, 1)))))))
    (kx_sB (kx_sB (kx_sB (kx_sL (ks_istore hx hb (by decide) (by decide +kernel : decode code 239 = .ok (.istore 8, 2))))
    (kx_sL (ks_aload_n hx hb rfl (by decide +kernel : decode code 241 = .ok (.aload_n 0, 1)))))
    (kx_sB (kx_sL (ks_iload hx hb (by decide +kernel : decode code 242 = .ok (.iload 10, 2))))
    (kx_sL (ks_bipush hx hb (by decide +kernel) (by decide +kernel : decode code 244 = .ok (.bipush 24, 2))))))
    (kx_sB (kx_sB (kx_sL (ks_irem hx hb (by decide +kernel : decode code 246 = .ok (.irem, 1))))
    (kx_sL (ks_cl X hE hKb hXp (rm := ({ frames := 2, cells := 0, slots := 0, locals := 41 })) (lr_watch_M had hL9 hEX) ⟨rfl, rfl⟩ kw_356 kw_357 kw_358 kw_0 (by decide +kernel) (by decide) (by decide +kernel : decode code 247 = .ok (.invokestatic 81, 3)))))
    (kx_sB (kx_sL (ks_istore hx hb (by decide) (by decide +kernel : decode code 250 = .ok (.istore 14, 2))))
    (kx_sL (ks_iload hx hb (by decide +kernel : decode code 252 = .ok (.iload 13, 2)))))))))
    (kx_sB (kx_sB (kx_sB (kx_sB (kx_sL (ks_iconst hx hb (by decide +kernel) (by decide +kernel : decode code 254 = .ok (.iconst 1, 1))))
    (kx_sB (kx_sL (ks_icmp_ne hx hb (by decide) (by decide +kernel : decode code 255 = .ok (.if_icmp .ne 19, 3))))
    (kx_sL (ks_aload_n hx hb rfl (by decide +kernel : decode code 258 = .ok (.aload_n 1, 1))))))
    (kx_sB (kx_sB (kx_sL (ks_iconst hx hb (by decide +kernel) (by decide +kernel : decode code 259 = .ok (.iconst 4, 1))))
    (kx_sL (ks_cv X (kc_X10_status l) ⟨rfl, rfl⟩ kf_10 kw_334 kw_335 kw_336 kw_337 kw_1 (by decide +kernel) (by decide) (by decide +kernel : decode code 260 = .ok (.invokevirtual 121, 3)))))
    (kx_sB (kx_sL (ks_iconst hx hb (by decide +kernel) (by decide +kernel : decode code 263 = .ok (.iconst 1, 1))))
    (kx_sL (ks_icmp_ne hx hb (by decide) (by decide +kernel : decode code 264 = .ok (.if_icmp .ne 10, 3)))))))
    (kx_sB (kx_sB (kx_sB (kx_sL (ks_iload hx hb (by decide +kernel : decode code 267 = .ok (.iload 9, 2))))
    (kx_sL (ks_iconst hx hb (by decide +kernel) (by decide +kernel : decode code 269 = .ok (.iconst 1, 1)))))
    (kx_sB (kx_sL (ks_iadd hx hb (by decide +kernel : decode code 270 = .ok (.iadd, 1))))
    (kx_sL (ks_goto hx hb (by decide) (by decide +kernel : decode code 271 = .ok (.goto 4, 3))))))
    (kx_sB (kx_sB (kx_sL (ks_iconst hx hb (by decide +kernel) (by decide +kernel : decode code 274 = .ok (.iconst 0, 1))))
    (kx_sL (ks_istore hx hb (by decide) (by decide +kernel : decode code 275 = .ok (.istore 9, 2)))))
    (kx_sB (kx_sL (ks_iload hx hb (by decide +kernel : decode code 277 = .ok (.iload 9, 2))))
    (kx_sL (ks_iconst hx hb (by decide +kernel) (by decide +kernel : decode code 279 = .ok (.iconst 1, 1))))))))
    (kx_sB (kx_sB (kx_sB (kx_sL (ks_icmp_gt hx hb (by decide) (by decide +kernel : decode code 280 = .ok (.if_icmp .gt 23, 3))))
    (kx_sB (kx_sL (ks_iload hx hb (by decide +kernel : decode code 283 = .ok (.iload 13, 2))))
    (kx_sL (ks_iconst hx hb (by decide +kernel) (by decide +kernel : decode code 285 = .ok (.iconst 1, 1))))))
    (kx_sB (kx_sB (kx_sL (ks_icmp_ne hx hb (by decide) (by decide +kernel : decode code 286 = .ok (.if_icmp .ne 19, 3))))
    (kx_sL (ks_iload hx hb (by decide +kernel : decode code 289 = .ok (.iload 14, 2)))))
    (kx_sB (kx_sL (ks_if_ge hx hb (by decide) (by decide +kernel : decode code 291 = .ok (.ifCond .ge 14, 3))))
    (kx_sL (ks_aload_n hx hb rfl (by decide +kernel : decode code 294 = .ok (.aload_n 1, 1)))))))
    (kx_sB (kx_sB (kx_sB (kx_sL (ks_iconst hx hb (by decide +kernel) (by decide +kernel : decode code 295 = .ok (.iconst 4, 1))))
    (kx_sL (ks_cv X (kc_X10_status l) ⟨rfl, rfl⟩ kf_10 kw_334 kw_335 kw_336 kw_337 kw_1 (by decide +kernel) (by decide) (by decide +kernel : decode code 296 = .ok (.invokevirtual 121, 3)))))
    (kx_sB (kx_sL (ks_iconst hx hb (by decide +kernel) (by decide +kernel : decode code 299 = .ok (.iconst 1, 1))))
    (kx_sL (ks_icmp_eq hx hb (by decide) (by decide +kernel : decode code 300 = .ok (.if_icmp .eq 5, 3))))))
    (kx_sB (kx_sB (kx_sL (ks_iconst hx hb (by decide +kernel) (by decide +kernel : decode code 303 = .ok (.iconst 0, 1))))
    (kx_sL (ks_lwret hx hb hr hlk (by decide +kernel : decode code 304 = .ok (.ireturn, 1)))))
    (kx_sB (kx_sL (ks_iinc hx hb (by decide +kernel) (by decide) (by decide +kernel : decode code 305 = .ok (.iinc 10 1, 3))))
    (kx_sL (ks_goto hx hb (by decide) (by decide +kernel : decode code 308 = .ok (.goto (-163), 3))))))))))
    (kx_sB (kx_sB (kx_sB (kx_sB (kx_sB (kx_sL (ks_iload hx hb (by decide +kernel : decode code 311 = .ok (.iload 8, 2))))
    (kx_sB (kx_sL (ks_iload hx hb (by decide +kernel : decode code 313 = .ok (.iload 4, 2))))
    (kx_sL (ks_icmp_ne hx hb (by decide) (by decide +kernel : decode code 315 = .ok (.if_icmp .ne 62, 3))))))
    (kx_sB (kx_sB (kx_sL (ks_aload_n hx hb rfl (by decide +kernel : decode code 318 = .ok (.aload_n 1, 1))))
    (kx_sL (ks_bipush hx hb (by decide +kernel) (by decide +kernel : decode code 319 = .ok (.bipush 8, 2)))))
    (kx_sB (kx_sL (ks_cv X (kc_X10_status l) ⟨rfl, rfl⟩ kf_10 kw_334 kw_335 kw_336 kw_337 kw_1 (by decide +kernel) (by decide) (by decide +kernel : decode code 321 = .ok (.invokevirtual 121, 3))))
    (kx_sL (ks_iload hx hb (by decide +kernel : decode code 324 = .ok (.iload 4, 2)))))))
    (kx_sB (kx_sB (kx_sB (kx_sL (ks_icmp_ne hx hb (by decide) (by decide +kernel : decode code 326 = .ok (.if_icmp .ne 51, 3))))
    (kx_sL (ks_aload_n hx hb rfl (by decide +kernel : decode code 329 = .ok (.aload_n 1, 1)))))
    (kx_sB (kx_sL (ks_iconst hx hb (by decide +kernel) (by decide +kernel : decode code 330 = .ok (.iconst 1, 1))))
    (kx_sL (ks_cv X (kc_X10_status l) ⟨rfl, rfl⟩ kf_10 kw_334 kw_335 kw_336 kw_337 kw_1 (by decide +kernel) (by decide) (by decide +kernel : decode code 331 = .ok (.invokevirtual 121, 3))))))
    (kx_sB (kx_sB (kx_sL (ks_iload hx hb (by decide +kernel : decode code 334 = .ok (.iload 5, 2))))
    (kx_sL (ks_icmp_ne hx hb (by decide) (by decide +kernel : decode code 336 = .ok (.if_icmp .ne 41, 3)))))
    (kx_sB (kx_sL (ks_aload_n hx hb rfl (by decide +kernel : decode code 339 = .ok (.aload_n 0, 1))))
    (kx_sL (ks_cl X hE hKb hXp (rm := ({ frames := 1, cells := 0, slots := 0, locals := 21 })) (lr_oil_M had hL9 hEX) ⟨rfl, rfl⟩ kw_365 kw_366 kw_367 kw_0 (by decide +kernel) (by decide) (by decide +kernel : decode code 340 = .ok (.invokestatic 100, 3))))))))
    (kx_sB (kx_sB (kx_sB (kx_sL (ks_iload hx hb (by decide +kernel : decode code 343 = .ok (.iload 7, 2))))
    (kx_sB (kx_sL (ks_isub hx hb (by decide +kernel : decode code 345 = .ok (.isub, 1))))
    (kx_sL (ks_iload hx hb (by decide +kernel : decode code 346 = .ok (.iload 5, 2))))))
    (kx_sB (kx_sB (kx_sL (ks_icmp_ne hx hb (by decide) (by decide +kernel : decode code 348 = .ok (.if_icmp .ne 29, 3))))
    (kx_sL (ks_aload_n hx hb rfl (by decide +kernel : decode code 351 = .ok (.aload_n 1, 1)))))
    (kx_sB (kx_sL (ks_iconst hx hb (by decide +kernel) (by decide +kernel : decode code 352 = .ok (.iconst 0, 1))))
    (kx_sL (ks_iconst hx hb (by decide +kernel) (by decide +kernel : decode code 353 = .ok (.iconst 2, 1)))))))
    (kx_sB (kx_sB (kx_sB (kx_sL (ks_cv X (kc_X10_many l) ⟨rfl, rfl⟩ kf_10 kw_93 kw_94 kw_95 kw_96 kw_1 (by decide +kernel) (by decide) (by decide +kernel : decode code 354 = .ok (.invokevirtual 140, 3))))
    (kx_sL (ks_iload hx hb (by decide +kernel : decode code 357 = .ok (.iload 6, 2)))))
    (kx_sB (kx_sL (ks_icmp_ne hx hb (by decide) (by decide +kernel : decode code 359 = .ok (.if_icmp .ne 18, 3))))
    (kx_sL (ks_aload_n hx hb rfl (by decide +kernel : decode code 362 = .ok (.aload_n 1, 1))))))
    (kx_sB (kx_sB (kx_sL (ks_iconst hx hb (by decide +kernel) (by decide +kernel : decode code 363 = .ok (.iconst 1, 1))))
    (kx_sL (ks_cv X (kc_X10_logged l) ⟨rfl, rfl⟩ kf_10 kw_234 kw_235 kw_236 kw_237 kw_1 (by decide +kernel) (by decide) (by decide +kernel : decode code 364 = .ok (.invokevirtual 143, 3)))))
    (kx_sB (kx_sL (ks_aload_n hx hb rfl (by decide +kernel : decode code 367 = .ok (.aload_n 1, 1))))
    (kx_sL (ks_iconst hx hb (by decide +kernel) (by decide +kernel : decode code 368 = .ok (.iconst 2, 1)))))))))
    (kx_sB (kx_sB (kx_sB (kx_sB (kx_sL (ks_cv X (kc_X10_logged l) ⟨rfl, rfl⟩ kf_10 kw_234 kw_235 kw_236 kw_237 kw_1 (by decide +kernel) (by decide) (by decide +kernel : decode code 369 = .ok (.invokevirtual 143, 3))))
    (kx_sB (kx_sL (ks_iadd hx hb (by decide +kernel : decode code 372 = .ok (.iadd, 1))))
    (kx_sL (ks_iload_n hx hb rfl (by decide +kernel : decode code 373 = .ok (.iload_n 3, 1))))))
    (kx_sB (kx_sB (kx_sL (ks_icmp_le hx hb (by decide) (by decide +kernel : decode code 374 = .ok (.if_icmp .le 5, 3))))
    (kx_sL (ks_iconst hx hb (by decide +kernel) (by decide +kernel : decode code 377 = .ok (.iconst 0, 1)))))
    (kx_sB (kx_sL (ks_lwret hx hb hr hlk (by decide +kernel : decode code 378 = .ok (.ireturn, 1))))
    (kx_sL (ks_iconst hx hb (by decide +kernel) (by decide +kernel : decode code 379 = .ok (.iconst 0, 1)))))))
    (kx_sB (kx_sB (kx_sB (kx_sL (ks_istore hx hb (by decide) (by decide +kernel : decode code 380 = .ok (.istore 10, 2))))
    (kx_sL (ks_iload hx hb (by decide +kernel : decode code 382 = .ok (.iload 10, 2)))))
    (kx_sB (kx_sL (ks_aload_n hx hb rfl (by decide +kernel : decode code 384 = .ok (.aload_n 1, 1))))
    (kx_sL (ks_iconst hx hb (by decide +kernel) (by decide +kernel : decode code 385 = .ok (.iconst (-1), 1))))))
    (kx_sB (kx_sB (kx_sL (ks_cv X (kc_X10_differences l) ⟨rfl, rfl⟩ kf_10 kw_274 kw_275 kw_276 kw_277 kw_1 (by decide +kernel) (by decide) (by decide +kernel : decode code 386 = .ok (.invokevirtual 146, 3))))
    (kx_sL (ks_icmp_ge hx hb (by decide) (by decide +kernel : decode code 389 = .ok (.if_icmp .ge 63, 3)))))
    (kx_sB (kx_sL (ks_aload_n hx hb rfl (by decide +kernel : decode code 392 = .ok (.aload_n 1, 1))))
    (kx_sL (ks_iload hx hb (by decide +kernel : decode code 393 = .ok (.iload 10, 2))))))))
    (kx_sB (kx_sB (kx_sB (kx_sL (ks_iconst hx hb (by decide +kernel) (by decide +kernel : decode code 395 = .ok (.iconst 2, 1))))
    (kx_sB (kx_sL (ks_cv X (kc_X10_difference l) ⟨rfl, rfl⟩ kf_10 kw_242 kw_243 kw_244 kw_245 kw_1 (by decide +kernel) (by decide) (by decide +kernel : decode code 396 = .ok (.invokevirtual 149, 3))))
    (kx_sL (ks_istore hx hb (by decide) (by decide +kernel : decode code 399 = .ok (.istore 11, 2))))))
    (kx_sB (kx_sB (kx_sL (ks_aload_n hx hb rfl (by decide +kernel : decode code 401 = .ok (.aload_n 0, 1))))
    (kx_sL (ks_iload hx hb (by decide +kernel : decode code 402 = .ok (.iload 11, 2)))))
    (kx_sB (kx_sL (ks_cl X hE hKb hXp (rm := ({ frames := 1, cells := 0, slots := 0, locals := 21 })) (lr_rank_M had hL9 hEX) ⟨rfl, rfl⟩ kw_353 kw_354 kw_355 kw_0 (by decide +kernel) (by decide) (by decide +kernel : decode code 404 = .ok (.invokestatic 75, 3))))
    (kx_sL (ks_iconst hx hb (by decide +kernel) (by decide +kernel : decode code 407 = .ok (.iconst 2, 1)))))))
    (kx_sB (kx_sB (kx_sB (kx_sL (ks_icmp_ne hx hb (by decide) (by decide +kernel : decode code 408 = .ok (.if_icmp .ne 36, 3))))
    (kx_sL (ks_aload_n hx hb rfl (by decide +kernel : decode code 411 = .ok (.aload_n 1, 1)))))
    (kx_sB (kx_sL (ks_aload_n hx hb rfl (by decide +kernel : decode code 412 = .ok (.aload_n 1, 1))))
    (kx_sL (ks_iload hx hb (by decide +kernel : decode code 413 = .ok (.iload 10, 2))))))
    (kx_sB (kx_sB (kx_sL (ks_iconst hx hb (by decide +kernel) (by decide +kernel : decode code 415 = .ok (.iconst 0, 1))))
    (kx_sL (ks_cv X (kc_X10_difference l) ⟨rfl, rfl⟩ kf_10 kw_242 kw_243 kw_244 kw_245 kw_1 (by decide +kernel) (by decide) (by decide +kernel : decode code 416 = .ok (.invokevirtual 149, 3)))))
    (kx_sB (kx_sL (ks_cv X (kc_X10_dark l) ⟨rfl, rfl⟩ kf_10 kw_24 kw_25 kw_26 kw_27 kw_1 (by decide +kernel) (by decide) (by decide +kernel : decode code 419 = .ok (.invokevirtual 131, 3))))
    (kx_sL (ks_iconst hx hb (by decide +kernel) (by decide +kernel : decode code 422 = .ok (.iconst 1, 1)))))))))))
def tb_lw2 (xs : Nat → Int32) (L9 : Nat) : Nat → kx_T := (kx_br 479 (kx_br 449 (kx_br 435 (kx_br 428 (kx_br 426 (kx_lf 423 (ki_icmp_ne 444 426)) (kx_br 427 (kx_lf 426 (ki_aload 1 427)) (kx_lf 427 (ki_aload 1 428)))) (kx_br 431 (kx_br 430 (kx_lf 428 (ki_iload 10 430)) (kx_lf 430 (ki_ic (1) 431))) (kx_br 434 (kx_lf 431 (ki_cv 10 2 4 sp_X10_difference 434)) (kx_lf 434 (ki_ic (3) 435))))) (kx_br 441 (kx_br 439 (kx_br 438 (kx_lf 435 (ki_cv 10 2 4 sp_X10_shipOf 438)) (kx_lf 438 (ki_ic (1) 439))) (kx_br 440 (kx_lf 439 (ki_iand 440)) (kx_lf 440 (ki_ic (1) 441)))) (kx_br 445 (kx_br 444 (kx_lf 441 (ki_icmp_ne 446 444)) (kx_lf 444 (ki_ic (0) 445))) (kx_br 446 (kx_lf 445 (ki_lwret)) (kx_lf 446 (ki_iinc 10 (1) 449)))))) (kx_br 464 (kx_br 456 (kx_br 453 (kx_br 452 (kx_lf 449 (ki_goto 382)) (kx_lf 452 (ki_ic (0) 453))) (kx_br 455 (kx_lf 453 (ki_istore 10 455)) (kx_lf 455 (ki_ic (0) 456)))) (kx_br 460 (kx_br 458 (kx_lf 456 (ki_istore 11 458)) (kx_lf 458 (ki_iload 11 460))) (kx_br 461 (kx_lf 460 (ki_ic (3) 461)) (kx_lf 461 (ki_icmp_ge 482 464))))) (kx_br 470 (kx_br 467 (kx_br 466 (kx_lf 464 (ki_iload 10 466)) (kx_lf 466 (ki_aload 1 467))) (kx_br 468 (kx_lf 467 (ki_ic (0) 468)) (kx_lf 468 (ki_iload 11 470)))) (kx_br 474 (kx_br 473 (kx_lf 470 (ki_cv 10 2 3 sp_X10_many 473)) (kx_lf 473 (ki_iadd 474))) (kx_br 476 (kx_lf 474 (ki_istore 10 476)) (kx_lf 476 (ki_iinc 11 (1) 479))))))) (kx_br 508 (kx_br 494 (kx_br 488 (kx_br 484 (kx_br 482 (kx_lf 479 (ki_goto 458)) (kx_lf 482 (ki_iload 10 484))) (kx_br 485 (kx_lf 484 (ki_iload 2 485)) (kx_lf 485 (ki_icmp_ne 535 488)))) (kx_br 490 (kx_br 489 (kx_lf 488 (ki_aload 1 489)) (kx_lf 489 (ki_ic (4) 490))) (kx_br 493 (kx_lf 490 (ki_cv 10 1 2 sp_X10_logged 493)) (kx_lf 493 (ki_aload 1 494))))) (kx_br 502 (kx_br 496 (kx_br 495 (kx_lf 494 (ki_ic (0) 495)) (kx_lf 495 (ki_ic (0) 496))) (kx_br 499 (kx_lf 496 (ki_cv 10 2 3 sp_X10_many 499)) (kx_lf 499 (ki_icmp_gt 535 502)))) (kx_br 504 (kx_br 503 (kx_lf 502 (ki_aload 1 503)) (kx_lf 503 (ki_ic (5) 504))) (kx_br 507 (kx_lf 504 (ki_cv 10 1 2 sp_X10_logged 507)) (kx_lf 507 (ki_aload 1 508)))))) (kx_br 523 (kx_br 516 (kx_br 510 (kx_br 509 (kx_lf 508 (ki_ic (0) 509)) (kx_lf 509 (ki_ic (1) 510))) (kx_br 513 (kx_lf 510 (ki_cv 10 2 3 sp_X10_many 513)) (kx_lf 513 (ki_icmp_gt 535 516)))) (kx_br 519 (kx_br 517 (kx_lf 516 (ki_aload 1 517)) (kx_lf 517 (ki_ic (6) 519))) (kx_br 522 (kx_lf 519 (ki_cv 10 1 2 sp_X10_logged 522)) (kx_lf 522 (ki_aload 1 523))))) (kx_br 531 (kx_br 525 (kx_br 524 (kx_lf 523 (ki_ic (0) 524)) (kx_lf 524 (ki_ic (2) 525))) (kx_br 528 (kx_lf 525 (ki_cv 10 2 3 sp_X10_many 528)) (kx_lf 528 (ki_icmp_gt 535 531)))) (kx_br 535 (kx_br 532 (kx_lf 531 (ki_ic (1) 532)) (kx_lf 532 (ki_goto 536))) (kx_br 536 (kx_lf 535 (ki_ic (0) 536)) (kx_lf 536 (ki_lwret))))))))
set_option maxRecDepth 100000 in
set_option maxHeartbeats 4000000 in
theorem kd_lw2 {p : Program} {l : Launch} {e : Env} {s : State} {m : MethodId} {below : List Frame} {meth : Method} {c : Code} {cB : ClassId} {D : va_G} {C4 : kx_C} {ad0 : Nat → Nat} {F : Option kx_V → kx_S → Prop} {b9 L9 : Nat} {xs : Nat → Int32} (X : kx_Ctx p room_1 s m #[Value.ref b9] c code "KeptLightLaw" 15 D C4 (fun q => s.heap.size ≤ q) 0 (kx_NC, F) 16 160) (hr : meth.sig.returnType = ret) (hlk : meth.locks = false) (hL9 : L9 < 2 ^ 31) {Xp : (Nat → Prop) → State → Heap → Prop} (hE : sq_Ext Xp) (hEX : ∀ A U H, Xp A U H → sj_X b9 L9 xs A U H) (hKb : va_K D vwCl [(cB, .byte)] s) (hXp : Xp (fun q => s.heap.size ≤ q) s s.heap) (had : ad0 kx_NC = b9) : ∀ pc, kx_Snd (kx_W p l e room_1 s m #[Value.ref b9] below meth c (lw_Z below #[Value.ref b9] s) D C4 (fun q => s.heap.size ≤ q) 0 ad0 15 16 160 (kx_NC, F)) (kx_NC, F) pc (tb_lw2 xs L9 pc) := by
  have hx := X.1.1
  have hb := X.1.2.1
  have hts := X.1.2.2.2.2
  exact (kx_sB (kx_sB (kx_sB (kx_sB (kx_sB (kx_sL (ks_icmp_ne hx hb (by decide) (by decide +kernel : decode code 423 = .ok (.if_icmp .ne 21, 3))))
    (kx_sB (kx_sL (ks_aload_n hx hb rfl (by decide +kernel : decode code 426 = .ok (.aload_n 1, 1))))
    (kx_sL (ks_aload_n hx hb rfl (by decide +kernel : decode code 427 = .ok (.aload_n 1, 1))))))
    (kx_sB (kx_sB (kx_sL (ks_iload hx hb (by decide +kernel : decode code 428 = .ok (.iload 10, 2))))
    (kx_sL (ks_iconst hx hb (by decide +kernel) (by decide +kernel : decode code 430 = .ok (.iconst 1, 1)))))
    (kx_sB (kx_sL (ks_cv X (kc_X10_difference l) ⟨rfl, rfl⟩ kf_10 kw_242 kw_243 kw_244 kw_245 kw_1 (by decide +kernel) (by decide) (by decide +kernel : decode code 431 = .ok (.invokevirtual 149, 3))))
    (kx_sL (ks_iconst hx hb (by decide +kernel) (by decide +kernel : decode code 434 = .ok (.iconst 3, 1)))))))
    (kx_sB (kx_sB (kx_sB (kx_sL (ks_cv X (kc_X10_shipOf l) ⟨rfl, rfl⟩ kf_10 kw_78 kw_79 kw_80 kw_81 kw_1 (by decide +kernel) (by decide) (by decide +kernel : decode code 435 = .ok (.invokevirtual 152, 3))))
    (kx_sL (ks_iconst hx hb (by decide +kernel) (by decide +kernel : decode code 438 = .ok (.iconst 1, 1)))))
    (kx_sB (kx_sL (ks_iand hx hb (by decide +kernel : decode code 439 = .ok (.iand, 1))))
    (kx_sL (ks_iconst hx hb (by decide +kernel) (by decide +kernel : decode code 440 = .ok (.iconst 1, 1))))))
    (kx_sB (kx_sB (kx_sL (ks_icmp_ne hx hb (by decide) (by decide +kernel : decode code 441 = .ok (.if_icmp .ne 5, 3))))
    (kx_sL (ks_iconst hx hb (by decide +kernel) (by decide +kernel : decode code 444 = .ok (.iconst 0, 1)))))
    (kx_sB (kx_sL (ks_lwret hx hb hr hlk (by decide +kernel : decode code 445 = .ok (.ireturn, 1))))
    (kx_sL (ks_iinc hx hb (by decide +kernel) (by decide) (by decide +kernel : decode code 446 = .ok (.iinc 10 1, 3))))))))
    (kx_sB (kx_sB (kx_sB (kx_sB (kx_sL (ks_goto hx hb (by decide) (by decide +kernel : decode code 449 = .ok (.goto (-67), 3))))
    (kx_sL (ks_iconst hx hb (by decide +kernel) (by decide +kernel : decode code 452 = .ok (.iconst 0, 1)))))
    (kx_sB (kx_sL (ks_istore hx hb (by decide) (by decide +kernel : decode code 453 = .ok (.istore 10, 2))))
    (kx_sL (ks_iconst hx hb (by decide +kernel) (by decide +kernel : decode code 455 = .ok (.iconst 0, 1))))))
    (kx_sB (kx_sB (kx_sL (ks_istore hx hb (by decide) (by decide +kernel : decode code 456 = .ok (.istore 11, 2))))
    (kx_sL (ks_iload hx hb (by decide +kernel : decode code 458 = .ok (.iload 11, 2)))))
    (kx_sB (kx_sL (ks_iconst hx hb (by decide +kernel) (by decide +kernel : decode code 460 = .ok (.iconst 3, 1))))
    (kx_sL (ks_icmp_ge hx hb (by decide) (by decide +kernel : decode code 461 = .ok (.if_icmp .ge 21, 3)))))))
    (kx_sB (kx_sB (kx_sB (kx_sL (ks_iload hx hb (by decide +kernel : decode code 464 = .ok (.iload 10, 2))))
    (kx_sL (ks_aload_n hx hb rfl (by decide +kernel : decode code 466 = .ok (.aload_n 1, 1)))))
    (kx_sB (kx_sL (ks_iconst hx hb (by decide +kernel) (by decide +kernel : decode code 467 = .ok (.iconst 0, 1))))
    (kx_sL (ks_iload hx hb (by decide +kernel : decode code 468 = .ok (.iload 11, 2))))))
    (kx_sB (kx_sB (kx_sL (ks_cv X (kc_X10_many l) ⟨rfl, rfl⟩ kf_10 kw_93 kw_94 kw_95 kw_96 kw_1 (by decide +kernel) (by decide) (by decide +kernel : decode code 470 = .ok (.invokevirtual 140, 3))))
    (kx_sL (ks_iadd hx hb (by decide +kernel : decode code 473 = .ok (.iadd, 1)))))
    (kx_sB (kx_sL (ks_istore hx hb (by decide) (by decide +kernel : decode code 474 = .ok (.istore 10, 2))))
    (kx_sL (ks_iinc hx hb (by decide +kernel) (by decide) (by decide +kernel : decode code 476 = .ok (.iinc 11 1, 3)))))))))
    (kx_sB (kx_sB (kx_sB (kx_sB (kx_sB (kx_sL (ks_goto hx hb (by decide) (by decide +kernel : decode code 479 = .ok (.goto (-21), 3))))
    (kx_sL (ks_iload hx hb (by decide +kernel : decode code 482 = .ok (.iload 10, 2)))))
    (kx_sB (kx_sL (ks_iload_n hx hb rfl (by decide +kernel : decode code 484 = .ok (.iload_n 2, 1))))
    (kx_sL (ks_icmp_ne hx hb (by decide) (by decide +kernel : decode code 485 = .ok (.if_icmp .ne 50, 3))))))
    (kx_sB (kx_sB (kx_sL (ks_aload_n hx hb rfl (by decide +kernel : decode code 488 = .ok (.aload_n 1, 1))))
    (kx_sL (ks_iconst hx hb (by decide +kernel) (by decide +kernel : decode code 489 = .ok (.iconst 4, 1)))))
    (kx_sB (kx_sL (ks_cv X (kc_X10_logged l) ⟨rfl, rfl⟩ kf_10 kw_234 kw_235 kw_236 kw_237 kw_1 (by decide +kernel) (by decide) (by decide +kernel : decode code 490 = .ok (.invokevirtual 143, 3))))
    (kx_sL (ks_aload_n hx hb rfl (by decide +kernel : decode code 493 = .ok (.aload_n 1, 1)))))))
    (kx_sB (kx_sB (kx_sB (kx_sL (ks_iconst hx hb (by decide +kernel) (by decide +kernel : decode code 494 = .ok (.iconst 0, 1))))
    (kx_sL (ks_iconst hx hb (by decide +kernel) (by decide +kernel : decode code 495 = .ok (.iconst 0, 1)))))
    (kx_sB (kx_sL (ks_cv X (kc_X10_many l) ⟨rfl, rfl⟩ kf_10 kw_93 kw_94 kw_95 kw_96 kw_1 (by decide +kernel) (by decide) (by decide +kernel : decode code 496 = .ok (.invokevirtual 140, 3))))
    (kx_sL (ks_icmp_gt hx hb (by decide) (by decide +kernel : decode code 499 = .ok (.if_icmp .gt 36, 3))))))
    (kx_sB (kx_sB (kx_sL (ks_aload_n hx hb rfl (by decide +kernel : decode code 502 = .ok (.aload_n 1, 1))))
    (kx_sL (ks_iconst hx hb (by decide +kernel) (by decide +kernel : decode code 503 = .ok (.iconst 5, 1)))))
    (kx_sB (kx_sL (ks_cv X (kc_X10_logged l) ⟨rfl, rfl⟩ kf_10 kw_234 kw_235 kw_236 kw_237 kw_1 (by decide +kernel) (by decide) (by decide +kernel : decode code 504 = .ok (.invokevirtual 143, 3))))
    (kx_sL (ks_aload_n hx hb rfl (by decide +kernel : decode code 507 = .ok (.aload_n 1, 1))))))))
    (kx_sB (kx_sB (kx_sB (kx_sB (kx_sL (ks_iconst hx hb (by decide +kernel) (by decide +kernel : decode code 508 = .ok (.iconst 0, 1))))
    (kx_sL (ks_iconst hx hb (by decide +kernel) (by decide +kernel : decode code 509 = .ok (.iconst 1, 1)))))
    (kx_sB (kx_sL (ks_cv X (kc_X10_many l) ⟨rfl, rfl⟩ kf_10 kw_93 kw_94 kw_95 kw_96 kw_1 (by decide +kernel) (by decide) (by decide +kernel : decode code 510 = .ok (.invokevirtual 140, 3))))
    (kx_sL (ks_icmp_gt hx hb (by decide) (by decide +kernel : decode code 513 = .ok (.if_icmp .gt 22, 3))))))
    (kx_sB (kx_sB (kx_sL (ks_aload_n hx hb rfl (by decide +kernel : decode code 516 = .ok (.aload_n 1, 1))))
    (kx_sL (ks_bipush hx hb (by decide +kernel) (by decide +kernel : decode code 517 = .ok (.bipush 6, 2)))))
    (kx_sB (kx_sL (ks_cv X (kc_X10_logged l) ⟨rfl, rfl⟩ kf_10 kw_234 kw_235 kw_236 kw_237 kw_1 (by decide +kernel) (by decide) (by decide +kernel : decode code 519 = .ok (.invokevirtual 143, 3))))
    (kx_sL (ks_aload_n hx hb rfl (by decide +kernel : decode code 522 = .ok (.aload_n 1, 1)))))))
    (kx_sB (kx_sB (kx_sB (kx_sL (ks_iconst hx hb (by decide +kernel) (by decide +kernel : decode code 523 = .ok (.iconst 0, 1))))
    (kx_sL (ks_iconst hx hb (by decide +kernel) (by decide +kernel : decode code 524 = .ok (.iconst 2, 1)))))
    (kx_sB (kx_sL (ks_cv X (kc_X10_many l) ⟨rfl, rfl⟩ kf_10 kw_93 kw_94 kw_95 kw_96 kw_1 (by decide +kernel) (by decide) (by decide +kernel : decode code 525 = .ok (.invokevirtual 140, 3))))
    (kx_sL (ks_icmp_gt hx hb (by decide) (by decide +kernel : decode code 528 = .ok (.if_icmp .gt 7, 3))))))
    (kx_sB (kx_sB (kx_sL (ks_iconst hx hb (by decide +kernel) (by decide +kernel : decode code 531 = .ok (.iconst 1, 1))))
    (kx_sL (ks_goto hx hb (by decide) (by decide +kernel : decode code 532 = .ok (.goto 4, 3)))))
    (kx_sB (kx_sL (ks_iconst hx hb (by decide +kernel) (by decide +kernel : decode code 535 = .ok (.iconst 0, 1))))
    (kx_sL (ks_lwret hx hb hr hlk (by decide +kernel : decode code 536 = .ok (.ireturn, 1))))))))))
def tb_law (xs : Nat → Int32) (L9 : Nat) : Nat → kx_T := kx_br 202 (tb_lw0 xs L9) (kx_br 423 (tb_lw1 xs L9) (tb_lw2 xs L9))
theorem kd_law {p : Program} {l : Launch} {e : Env} {s : State} {m : MethodId} {below : List Frame} {meth : Method} {c : Code} {cB : ClassId} {D : va_G} {C4 : kx_C} {ad0 : Nat → Nat} {F : Option kx_V → kx_S → Prop} {b9 L9 : Nat} {xs : Nat → Int32} (X : kx_Ctx p room_1 s m #[Value.ref b9] c code "KeptLightLaw" 15 D C4 (fun q => s.heap.size ≤ q) 0 (kx_NC, F) 16 160) (hr : meth.sig.returnType = ret) (hlk : meth.locks = false) (hL9 : L9 < 2 ^ 31) {Xp : (Nat → Prop) → State → Heap → Prop} (hE : sq_Ext Xp) (hEX : ∀ A U H, Xp A U H → sj_X b9 L9 xs A U H) (hKb : va_K D vwCl [(cB, .byte)] s) (hXp : Xp (fun q => s.heap.size ≤ q) s s.heap) (had : ad0 kx_NC = b9) : ∀ pc, kx_Snd (kx_W p l e room_1 s m #[Value.ref b9] below meth c (lw_Z below #[Value.ref b9] s) D C4 (fun q => s.heap.size ≤ q) 0 ad0 15 16 160 (kx_NC, F)) (kx_NC, F) pc (tb_law xs L9 pc) := (kx_sB (kd_lw0 X hr hlk hL9 hE hEX hKb hXp had) (kx_sB (kd_lw1 X hr hlk hL9 hE hEX hKb hXp had) (kd_lw2 X hr hlk hL9 hE hEX hKb hXp had)))

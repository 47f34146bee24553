/-! what the JDK's methods read beside their world: statics, tables of digits, a text of Latin letters -/
def sj_B (A : Nat → Prop) (U : State) (H : Heap) : Prop := va_Z "java/lang/String" "COMPACT_STRINGS" "Z" (.int 1) A U H ∧ va_Zq "jdk/internal/util/Preconditions" "SIOOBE_FORMATTER" "Ljava/util/function/BiFunction;" A U H ∧ ∃ (t1 t2 : Nat) (f1 f2 : Nat → Int32), va_Z "java/lang/Integer" "DigitOnes" "[B" (.ref t1) A U H ∧ va_Z "java/lang/Integer" "DigitTens" "[B" (.ref t2) A U H ∧ va_T .byte t1 100 (fun j => .int (f1 j)) A U H ∧ va_T .byte t2 100 (fun j => .int (f2 j)) A U H
theorem sj_EB : sq_Ext sj_B := by
  refine ⟨fun A u U H hv h => ?_, fun A U H H1 h hq => ?_, fun A B U H h hAB => ?_⟩
  · have hv := sq_al hv
    obtain ⟨h1, h2, t1, t2, f1, f2, h3, h4, h5, h6⟩ := h
    exact ⟨h1.moved hv, h2.moved hv, t1, t2, f1, f2, h3.moved hv, h4.moved hv, h5.moved hv, h6.moved hv⟩
  · obtain ⟨h1, h2, t1, t2, f1, f2, h3, h4, h5, h6⟩ := h
    exact ⟨h1.kept hq, h2.kept hq, t1, t2, f1, f2, h3.kept hq, h4.kept hq, h5.kept hq, h6.kept hq⟩
  · obtain ⟨h1, h2, t1, t2, f1, f2, h3, h4, h5, h6⟩ := h
    exact ⟨h1.narrow hAB, h2.narrow hAB, t1, t2, f1, f2, h3.narrow hAB, h4.narrow hAB, h5.narrow hAB, h6.narrow hAB⟩
/-- a text at t, of k letters -/
def sj_str (t k : Nat) (A : Nat → Prop) (U : State) (H : Heap) : Prop := va_O "java/lang/String" t A U H ∧ va_OF "java/lang/String" "coder" "B" (.int 0) t A U H ∧ ∃ (v : Nat) (f : Nat → Int32), va_OF "java/lang/String" "value" "[B" (.ref v) t A U H ∧ va_T .byte v k (fun j => .int (f j)) A U H ∧ sb_Fit f
def sj_S (t k : Nat) (A : Nat → Prop) (U : State) (H : Heap) : Prop := sj_B A U H ∧ sj_str t k A U H
theorem sj_Es (t k : Nat) : sq_Ext (sj_str t k) := by
  refine ⟨fun A u U H hv h => ?_, fun A U H H1 h hq => ?_, fun A B U H h hAB => ?_⟩
  · have hv := sq_al hv
    obtain ⟨h1, h2, v, f, h3, h4, h5⟩ := h
    exact ⟨h1.moved hv, h2.moved hv, v, f, h3.moved hv, h4.moved hv, h5⟩
  · obtain ⟨h1, h2, v, f, h3, h4, h5⟩ := h
    exact ⟨h1.kept hq, h2.kept hq, v, f, h3.kept hq, h4.kept hq, h5⟩
  · obtain ⟨h1, h2, v, f, h3, h4, h5⟩ := h
    exact ⟨h1.narrow hAB, h2.narrow hAB, v, f, h3.narrow hAB, h4.narrow hAB, h5⟩
theorem sq_and {X Y : (Nat → Prop) → State → Heap → Prop} (hX : sq_Ext X) (hY : sq_Ext Y) : sq_Ext (fun A U H => X A U H ∧ Y A U H) :=
  ⟨fun A u U H hv h => ⟨hX.1 A u U H hv h.1, hY.1 A u U H hv h.2⟩, fun A U H H1 h hq => ⟨hX.2.1 A U H H1 h.1 hq, hY.2.1 A U H H1 h.2 hq⟩, fun A B U H h hAB => ⟨hX.2.2 A B U H h.1 hAB, hY.2.2 A B U H h.2 hAB⟩⟩
theorem sj_ES (t k : Nat) : sq_Ext (sj_S t k) := sq_and sj_EB (sj_Es t k)
/-- an array of bytes -/
def sj_A (v k : Nat) (f : Nat → Int32) (A : Nat → Prop) (U : State) (H : Heap) : Prop := sj_B A U H ∧ va_T .byte v k (fun j => .int (f j)) A U H
theorem sj_EA (v k : Nat) (f : Nat → Int32) : sq_Ext (sj_A v k f) := sq_and sj_EB ⟨fun A u U H hv h => h.moved (sq_al hv), fun A U H H1 h hq => h.kept hq, fun A B U H h hAB => h.narrow hAB⟩
/-- the script -/
def sj_X (b L : Nat) (xs : Nat → Int32) (A : Nat → Prop) (U : State) (H : Heap) : Prop := va_X b L xs U H ∧ b < H.size ∧ ¬ A b
theorem sj_EX (b L : Nat) (xs : Nat → Int32) : sq_Ext (sj_X b L xs) := by
  refine ⟨fun A u U H hv h => ⟨h.1.moved (sq_al hv), h.2⟩, fun A U H H1 h hq => ?_, fun A B U H h hAB => ⟨h.1, h.2.1, fun z => h.2.2 (hAB _ z)⟩⟩
  have e := hq b h.2.1 h.2.2
  have k := h.1.kept e
  obtain ⟨scr, h1, h2⟩ := id k
  exact ⟨k, (Array.getElem?_eq_some_iff.mp h1).1, h.2.2⟩
def sj_XB (b L : Nat) (xs : Nat → Int32) (A : Nat → Prop) (U : State) (H : Heap) : Prop := sj_B A U H ∧ sj_X b L xs A U H
theorem sj_EXB (b L : Nat) (xs : Nat → Int32) : sq_Ext (sj_XB b L xs) := sq_and sj_EB (sj_EX b L xs)
theorem sj_in0 : ∀ w ∈ u_ws RJ0 TJ0 4, w ∈ kx_tbl := by decide +kernel
theorem sj_in4 : ∀ w ∈ u_ws RJ4 TJ4 4, w ∈ kx_tbl := by decide +kernel
/-- a world's array as something that is only read -/
theorem sj_Tof {s : State} {H : Heap} {D : va_G} {ws : va_W} {tys : List (ClassId × FieldType)} {v n : Nat} {cA : ClassId} {ty : FieldType} {f : Nat → Int32} {B : Nat → Prop} (hK : va_K D vwCl tys s) (hP : va_P D vwCl ws H) (q0 t0 : Nat) (ha : ws[q0]? = some (v, .inl (cA, n, .inl f))) (ht : tys[t0]? = some (cA, ty)) (hB : ¬ B v) : va_T ty v n (fun j => .int (f j)) B s H := by
  refine ⟨vp_cell cA (n, .inl f), hP q0 _ ha, (hK.2 t0 _ ht).1 n (fun j => .int (f j)), (fun q => by cases q), ?_, ?_, fun j hj => ?_, hB⟩
  · show n ≤ (arrV _ _ _).slots.size
    rw [arrV_size]
    exact Nat.le_refl _
  · show (arrV _ _ _).slots.size.toInt32 = _
    rw [arrV_size]
  · show (arrV _ _ _).slots[_]? = _
    rw [arrV_read _ _ hj]
/-- a world's text as something that is only read -/
theorem sj_sof {args : Array Value} {s : State} {H : Heap} {D : va_G} {ws : va_W} {cB : ClassId} {t v n : Nat} {x y : Value} {f : Nat → Int32} {B : Nat → Prop} (hts : ∀ w ∈ kx_tbl, w.before args s = true) (hK : va_K D vwCl [(cB, .byte)] s) (hP : va_P D vwCl ws H) (q0 q1 : Nat) (h0 : ws[q0]? = some (t, .inr (11, [.ref v, .int 0, x, y]))) (h1 : ws[q1]? = some (v, .inl (cB, n, .inl f))) (hf : sb_Fit f) (hB : ¬ B t) (hB1 : ¬ B v) : sj_str t n B s H := by
  obtain ⟨cell, g1, g2, g3⟩ := va_recv hK hP (ci := 11) (q := (RJ0, TJ0, 4)) rfl h0
  obtain ⟨r, e1, cell2, q1', q2, q3, q4⟩ := hP q0 _ h0
  have hr : r = (RJ0, TJ0, 4) := (Option.some.inj (e1.symm.trans (show vwCl[11]? = some (RJ0, TJ0, 4) from rfl)))
  subst hr
  obtain ⟨hS, hfc, kC, hkC, hkind⟩ := hK.1 11 _ (show vwCl[11]? = some (RJ0, TJ0, 4) from rfl)
  have fld : ∀ k, k < 4 → ∀ w, ([.ref v, .int 0, x, y] : List Value)[k]? = some w → va_OF (TJ0 k).1 (TJ0 k).2.1 (TJ0 k).2.2.1 w t B s H := by
    intro k hk w hw
    obtain ⟨cf, kf, fi, fd, hi, hsl⟩ := hS k hk
    refine ⟨cf, kf, fi, fd, cell2, hi, (u_facts hfc hkC (u_lays hts sj_in0 hk) hi).1, q1', (by rw [q3]; exact (fun h => (by cases h))), ?_, hB⟩
    rw [hsl, q4 k hk]
    show some (([.ref v, .int 0, x, y] : List Value).getD k .null) = some w
    rw [List.getD_eq_getElem?_getD, hw]
    rfl
  exact ⟨⟨cell, g1, g2, g3, hB⟩, fld 1 (by decide) _ rfl, v, f, fld 0 (by decide) _ rfl, sj_Tof hK hP q1 0 h1 rfl hB1, hf⟩

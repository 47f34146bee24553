/-! from the entry: classes, statics, texts; then build, then the rest of the law -/
theorem kx_classes {args : Array Value} {s : State} (hts : ∀ w ∈ kx_tbl, w.before args s = true) : ∃ (dC : Nat → ClassId) (dI : Nat → Nat → Nat), ∀ (k : Nat) (q : vw_C), vwCl[k]? = some q → u_Kn s q.1 q.2.1 q.2.2 (dC k) (dI k) := by
  have h : ∀ k : Nat, ∃ z : ClassId × (Nat → Nat), ∀ q : vw_C, vwCl[k]? = some q → u_Kn s q.1 q.2.1 q.2.2 z.1 z.2 := by
    intro k
    match k with
    | 0 =>
      obtain ⟨cC, iS, h⟩ := u_known (C := RX0) (T := TX0) (N := 5) (n := 5) hts kf_0.2.2.1 (hts _ kw_436)
      exact ⟨(cC, iS), fun q hq => by cases hq; exact h⟩
    | 1 =>
      obtain ⟨cC, iS, h⟩ := u_known (C := RX1) (T := TX1) (N := 6) (n := 6) hts kf_1.2.2.1 (hts _ kw_410)
      exact ⟨(cC, iS), fun q hq => by cases hq; exact h⟩
    | 2 =>
      obtain ⟨cC, iS, h⟩ := u_known (C := RX2) (T := TX2) (N := 6) (n := 6) hts kf_2.2.2.1 (hts _ kw_64)
      exact ⟨(cC, iS), fun q hq => by cases hq; exact h⟩
    | 3 =>
      obtain ⟨cC, iS, h⟩ := u_known (C := RX3) (T := TX3) (N := 5) (n := 5) hts kf_3.2.2.1 (hts _ kw_568)
      exact ⟨(cC, iS), fun q hq => by cases hq; exact h⟩
    | 4 =>
      obtain ⟨cC, iS, h⟩ := u_known (C := RX4) (T := TX4) (N := 3) (n := 3) hts kf_4.2.2.1 (hts _ kw_667)
      exact ⟨(cC, iS), fun q hq => by cases hq; exact h⟩
    | 5 =>
      obtain ⟨cC, iS, h⟩ := u_known (C := RX5) (T := TX5) (N := 4) (n := 4) hts kf_5.2.2.1 (hts _ kw_389)
      exact ⟨(cC, iS), fun q hq => by cases hq; exact h⟩
    | 6 =>
      obtain ⟨cC, iS, h⟩ := u_known (C := RX6) (T := TX6) (N := 17) (n := 17) hts kf_6.2.2.1 (hts _ kw_149)
      exact ⟨(cC, iS), fun q hq => by cases hq; exact h⟩
    | 7 =>
      obtain ⟨cC, iS, h⟩ := u_known (C := RX7) (T := TX7) (N := 2) (n := 2) hts kf_7.2.2.1 (hts _ kw_650)
      exact ⟨(cC, iS), fun q hq => by cases hq; exact h⟩
    | 8 =>
      obtain ⟨cC, iS, h⟩ := u_known (C := RX8) (T := TX8) (N := 6) (n := 6) hts kf_8.2.2.1 (hts _ kw_618)
      exact ⟨(cC, iS), fun q hq => by cases hq; exact h⟩
    | 9 =>
      obtain ⟨cC, iS, h⟩ := u_known (C := RX9) (T := TX9) (N := 6) (n := 6) hts kf_9.2.2.1 (hts _ kw_158)
      exact ⟨(cC, iS), fun q hq => by cases hq; exact h⟩
    | 10 =>
      obtain ⟨cC, iS, h⟩ := u_known (C := RX10) (T := TX10) (N := 8) (n := 8) hts kf_10.2.2.1 (hts _ kw_31)
      exact ⟨(cC, iS), fun q hq => by cases hq; exact h⟩
    | 11 =>
      obtain ⟨cC, iS, h⟩ := u_known (C := RJ0) (T := TJ0) (N := 4) (n := 4) hts sj_in0 (hts _ kw_939)
      exact ⟨(cC, iS), fun q hq => by cases hq; exact h⟩
    | 12 =>
      obtain ⟨cC, iS, h⟩ := u_known (C := RJ4) (T := TJ4) (N := 4) (n := 4) hts sj_in4 (hts _ kw_716)
      exact ⟨(cC, iS), fun q hq => by cases hq; exact h⟩
    | k + 13 => exact ⟨(0, id), fun q hq => by simp [vwCl] at hq⟩
  obtain ⟨f, hf⟩ := Classical.skolem.mp h
  exact ⟨fun k => (f k).1, fun k => (f k).2, fun k q hq => hf k q hq⟩
theorem kx_arrs {args : Array Value} {s : State} {ty : FieldType} (h : (Cond.arrayClass ty).before args s = true) (hr : ∀ cA, s.vm.findClass ("[" ++ ty.toString) = some cA → va_RA s cA ty) : ∃ cA, ArrOfT s cA ty ∧ va_RA s cA ty := by
  obtain ⟨cA, kA, comp, h1, h2, h3⟩ := Cond.arrayClass_spec h
  exact ⟨cA, fun n z => ⟨fun k h => (by cases h), kA, h2, comp, h3⟩, hr cA h1⟩
def lw_t1 : List Int32 := [48, 49, 50, 51, 52, 53, 54, 55, 56, 57, 48, 49, 50, 51, 52, 53, 54, 55, 56, 57, 48, 49, 50, 51, 52, 53, 54, 55, 56, 57, 48, 49, 50, 51, 52, 53, 54, 55, 56, 57, 48, 49, 50, 51, 52, 53, 54, 55, 56, 57, 48, 49, 50, 51, 52, 53, 54, 55, 56, 57, 48, 49, 50, 51, 52, 53, 54, 55, 56, 57, 48, 49, 50, 51, 52, 53, 54, 55, 56, 57, 48, 49, 50, 51, 52, 53, 54, 55, 56, 57, 48, 49, 50, 51, 52, 53, 54, 55, 56, 57]
def lw_t2 : List Int32 := [48, 48, 48, 48, 48, 48, 48, 48, 48, 48, 49, 49, 49, 49, 49, 49, 49, 49, 49, 49, 50, 50, 50, 50, 50, 50, 50, 50, 50, 50, 51, 51, 51, 51, 51, 51, 51, 51, 51, 51, 52, 52, 52, 52, 52, 52, 52, 52, 52, 52, 53, 53, 53, 53, 53, 53, 53, 53, 53, 53, 54, 54, 54, 54, 54, 54, 54, 54, 54, 54, 55, 55, 55, 55, 55, 55, 55, 55, 55, 55, 56, 56, 56, 56, 56, 56, 56, 56, 56, 56, 57, 57, 57, 57, 57, 57, 57, 57, 57, 57]
abbrev lw_fl : List Cond := flatC (Jvm.Cond.and given_1 narrow_1)
set_option maxRecDepth 100000 in
theorem lw_e1 : (lw_fl.drop 12).take 100 = (List.range 100).map (fun j => Cond.eq (.elem (.static "java/lang/Integer" "DigitOnes" "[B") (.int (Int32.ofNat j))) (.int (lw_t1.getD j 0))) := rfl
theorem lw_d1 : ∀ j, j < 100 → Cond.eq (.elem (.static "java/lang/Integer" "DigitOnes" "[B") (.int (Int32.ofNat j))) (.int (lw_t1.getD j 0)) ∈ lw_fl := fun j hj => by
  have h : (fun j => Cond.eq (.elem (.static "java/lang/Integer" "DigitOnes" "[B") (.int (Int32.ofNat j))) (.int (lw_t1.getD j 0))) j ∈ (List.range 100).map (fun j => Cond.eq (.elem (.static "java/lang/Integer" "DigitOnes" "[B") (.int (Int32.ofNat j))) (.int (lw_t1.getD j 0))) := List.mem_map_of_mem (List.mem_range.mpr hj)
  rw [← lw_e1] at h
  exact List.mem_of_mem_drop (List.mem_of_mem_take h)
set_option maxRecDepth 100000 in
theorem lw_e2 : (lw_fl.drop 115).take 100 = (List.range 100).map (fun j => Cond.eq (.elem (.static "java/lang/Integer" "DigitTens" "[B") (.int (Int32.ofNat j))) (.int (lw_t2.getD j 0))) := rfl
theorem lw_d2 : ∀ j, j < 100 → Cond.eq (.elem (.static "java/lang/Integer" "DigitTens" "[B") (.int (Int32.ofNat j))) (.int (lw_t2.getD j 0)) ∈ lw_fl := fun j hj => by
  have h : (fun j => Cond.eq (.elem (.static "java/lang/Integer" "DigitTens" "[B") (.int (Int32.ofNat j))) (.int (lw_t2.getD j 0))) j ∈ (List.range 100).map (fun j => Cond.eq (.elem (.static "java/lang/Integer" "DigitTens" "[B") (.int (Int32.ofNat j))) (.int (lw_t2.getD j 0))) := List.mem_map_of_mem (List.mem_range.mpr hj)
  rw [← lw_e2] at h
  exact List.mem_of_mem_drop (List.mem_of_mem_take h)
def lw_tm (i : Nat) : Term := .string "KeptLightLaw" ([29, 42, 44].getD i 44)
def lw_ln : List Nat := [0, 1, 3]
def lw_by : List (List Int32) := [[], [32], [99, 102, 115]]
set_option maxRecDepth 100000 in
theorem lw_s1 : ∀ i, i < 3 → Cond.exactly (lw_tm i) "java/lang/String" ∈ lw_fl ∧ Cond.eq (.field (lw_tm i) "java/lang/String" "coder" "B") (.int 0) ∈ lw_fl ∧ Cond.arrayOf (.field (lw_tm i) "java/lang/String" "value" "[B") .byte ∈ lw_fl ∧ Cond.eq (.length (.field (lw_tm i) "java/lang/String" "value" "[B")) (.int (Int32.ofNat (lw_ln.getD i 0))) ∈ lw_fl := fun i hi => by
  rcases (show i = 0 ∨ i = 1 ∨ i = 2 by omega) with rfl | rfl | rfl
  · exact ⟨List.mem_of_getElem? (i := 215) rfl, List.mem_of_getElem? (i := 216) rfl, List.mem_of_getElem? (i := 217) rfl, List.mem_of_getElem? (i := 218) rfl⟩
  · exact ⟨List.mem_of_getElem? (i := 219) rfl, List.mem_of_getElem? (i := 220) rfl, List.mem_of_getElem? (i := 221) rfl, List.mem_of_getElem? (i := 222) rfl⟩
  · exact ⟨List.mem_of_getElem? (i := 225) rfl, List.mem_of_getElem? (i := 226) rfl, List.mem_of_getElem? (i := 227) rfl, List.mem_of_getElem? (i := 228) rfl⟩
set_option maxRecDepth 100000 in
theorem lw_s2 : ∀ i, i < 3 → ∀ j, j < lw_ln.getD i 0 → Cond.eq (.elem (.field (lw_tm i) "java/lang/String" "value" "[B") (.int (Int32.ofNat j))) (.int ((lw_by.getD i []).getD j 0)) ∈ lw_fl := fun i hi j hj => by
  rcases (show i = 0 ∨ i = 1 ∨ i = 2 by omega) with rfl | rfl | rfl
  · exact absurd hj (Nat.not_lt_zero _)
  · have h1 : j < 1 := hj
    obtain rfl : j = 0 := by omega
    exact List.mem_of_getElem? (i := 223) rfl
  · have h1 : j < 3 := hj
    rcases (show j = 0 ∨ j = 1 ∨ j = 2 by omega) with rfl | rfl | rfl
    · exact List.mem_of_getElem? (i := 229) rfl
    · exact List.mem_of_getElem? (i := 230) rfl
    · exact List.mem_of_getElem? (i := 231) rfl
set_option maxRecDepth 100000 in
theorem lw_s3 : ∀ i, i < 3 → ∀ j, j < 3 → i ≠ j → Cond.not (Cond.eq (lw_tm i) (lw_tm j)) ∈ lw_fl ∨ Cond.not (Cond.eq (lw_tm j) (lw_tm i)) ∈ lw_fl := fun i hi j hj hn => by
  rcases (show (i = 0 ∧ j = 1) ∨ (i = 0 ∧ j = 2) ∨ (i = 1 ∧ j = 2) ∨ (i = 1 ∧ j = 0) ∨ (i = 2 ∧ j = 0) ∨ (i = 2 ∧ j = 1) by omega) with ⟨rfl, rfl⟩ | ⟨rfl, rfl⟩ | ⟨rfl, rfl⟩ | ⟨rfl, rfl⟩ | ⟨rfl, rfl⟩ | ⟨rfl, rfl⟩
  · exact Or.inl (List.mem_of_getElem? (i := 224) rfl)
  · exact Or.inl (List.mem_of_getElem? (i := 232) rfl)
  · exact Or.inl (List.mem_of_getElem? (i := 233) rfl)
  · exact Or.inr (List.mem_of_getElem? (i := 224) rfl)
  · exact Or.inr (List.mem_of_getElem? (i := 232) rfl)
  · exact Or.inr (List.mem_of_getElem? (i := 233) rfl)
theorem lw_ft (l : List Int32) (h : ∀ x ∈ l, fits .byte (.int x) = true) : sb_Fit (fun j => l.getD j 0) := fun j => by
  show fits .byte (.int (l.getD j 0)) = true
  rw [List.getD_eq_getElem?_getD]
  cases hj : l[j]? with
  | none => rfl
  | some x => exact h x (List.mem_of_getElem? hj)
set_option maxRecDepth 100000 in
set_option maxHeartbeats 1000000 in
theorem lw_xp {p : Program} {s : State} {m : MethodId} {meth : Method} {c : Code} {b L : Nat} {xs : Nat → Int32} (C0 : lw_At p s m meth c b L xs) : ∃ k0 k1 k2, sj_SK b L xs k0 k1 k2 (fun q => s.heap.size ≤ q) s s.heap := by
  obtain ⟨hx, hb, hr, hml, hown, hts0, hX, hbl, hlocks, hgv⟩ := id C0
  have hfl := flat_of_before _ hgv
  have hA : ∀ a : Nat, a < s.heap.size → ¬ s.heap.size ≤ a := fun a h => Nat.not_le.mpr h
  obtain ⟨a1, e1, T1⟩ := va_Tof (f := fun j => .int (lw_t1.getD j 0)) (A := fun q => s.heap.size ≤ q) (N := 100) (tm := .static "java/lang/Integer" "DigitOnes" "[B") (ty := .byte) (by decide) (hfl _ (List.mem_of_getElem? (i := 10) rfl)) (va_eqt (z := Int32.ofNat 100) (hfl _ (List.mem_of_getElem? (i := 11) rfl))) (fun j hj => va_eqt (hfl _ (lw_d1 j hj))) hA
  obtain ⟨a2, e2, T2⟩ := va_Tof (f := fun j => .int (lw_t2.getD j 0)) (A := fun q => s.heap.size ≤ q) (N := 100) (tm := .static "java/lang/Integer" "DigitTens" "[B") (ty := .byte) (by decide) (hfl _ (List.mem_of_getElem? (i := 113) rfl)) (va_eqt (z := Int32.ofNat 100) (hfl _ (List.mem_of_getElem? (i := 114) rfl))) (fun j hj => va_eqt (hfl _ (lw_d2 j hj))) hA
  obtain ⟨adK, adV, hS, hE⟩ := vk_Sof (N := 3) (tm := lw_tm) (len := lw_ln) (byt := lw_by) (A := fun q => s.heap.size ≤ q) (by decide) (fun i hi => hfl _ (lw_s1 i hi).1) (fun i hi => hfl _ (lw_s1 i hi).2.1) (fun i hi => hfl _ (lw_s1 i hi).2.2.1) (fun i hi => hfl _ (lw_s1 i hi).2.2.2) (fun i hi j hj => hfl _ (lw_s2 i hi j hj)) (fun i j hi hj hn => (lw_s3 i hi j hj hn).imp (hfl _) (hfl _)) hA
  have str : ∀ i, i < 3 → sj_str (adK i) (lw_ln.getD i 0) (fun q => s.heap.size ≤ q) s s.heap := fun i hi => ⟨(hS.1 i hi).1, (hS.1 i hi).2.1, adV i, fun j => (lw_by.getD i []).getD j 0, (hS.1 i hi).2.2.1, (hS.1 i hi).2.2.2, lw_ft _ (by
    have h9 : ∀ i, i < 3 → ∀ x ∈ lw_by.getD i [], fits .byte (.int x) = true := by decide +kernel
    exact h9 i hi)⟩
  refine ⟨adK 0, adK 1, adK 2, ⟨⟨va_Zof (hts0 _ (List.mem_of_getElem? (i := 738) (by decide +kernel))) (hts0 _ (List.mem_of_getElem? (i := 28) (by decide +kernel))) (va_eqi (z := 1) (hfl _ (List.mem_of_getElem? (i := 4) rfl))) hA, va_Zqof (hts0 _ (List.mem_of_getElem? (i := 818) (by decide +kernel))) (hts0 _ (List.mem_of_getElem? (i := 33) (by decide +kernel))) (hfl _ (List.mem_of_getElem? (i := 5) rfl)) hA, a1, a2, fun j => lw_t1.getD j 0, fun j => lw_t2.getD j 0, va_Zof (hts0 _ (List.mem_of_getElem? (i := 936) (by decide +kernel))) (hts0 _ (List.mem_of_getElem? (i := 36) (by decide +kernel))) e1 hA, va_Zof (hts0 _ (List.mem_of_getElem? (i := 938) (by decide +kernel))) (hts0 _ (List.mem_of_getElem? (i := 36) (by decide +kernel))) e2 hA, T1, T2⟩, hX, hbl, hA b hbl⟩, vk_R.of (hts0 _ (List.mem_of_getElem? (i := 724) (by decide +kernel))) (hE 0 (by decide)), vk_R.of (hts0 _ (List.mem_of_getElem? (i := 874) (by decide +kernel))) (hE 1 (by decide)), vk_R.of (hts0 _ (List.mem_of_getElem? (i := 875) (by decide +kernel))) (hE 2 (by decide)), str 0 (by decide), str 1 (by decide), str 2 (by decide)⟩
theorem lw_W {p : Program} {s : State} {m : MethodId} {meth : Method} {c : Code} {b L : Nat} {xs : Nat → Int32} (C0 : lw_At p s m meth c b L xs) : ∀ w ∈ kx_tbl, w.before #[Value.ref b] s = true := by
  obtain ⟨hx, hb, hr, hml, hown, hts0, hX, hbl, hlocks, hgv⟩ := id C0
  intro w hw
  rcases List.mem_append.mp (List.mem_filter.mp hw).1 with h | h
  · exact hts0 w h
  · simp only [sq_W, List.mem_cons, List.not_mem_nil, or_false] at h
    rcases h with rfl | rfl | rfl
    · exact (sq_selP (z := ({ cls := "java/lang/AbstractStringBuilder", name := "isLatin1", desc := "()Z" } : Jvm.MethodName)) rfl (by decide +kernel) (hts0 _ (List.mem_of_getElem? (i := 803) (by decide +kernel) : (Jvm.Cond.selects "java/lang/StringBuilder" ({ cls := "java/lang/AbstractStringBuilder", name := "isLatin1", desc := "()Z" } : Jvm.MethodName) ({ cls := "java/lang/AbstractStringBuilder", name := "isLatin1", desc := "()Z" } : Jvm.MethodName)) ∈ lw_tbl)) (hts0 _ (List.mem_of_getElem? (i := 845) (by decide +kernel))) (hts0 _ (List.mem_of_getElem? (i := 846) (by decide +kernel))))
    · exact (sq_selP (z := ({ cls := "java/lang/AbstractStringBuilder", name := "isLatin1", desc := "()Z" } : Jvm.MethodName)) rfl (by decide +kernel) (hts0 _ (List.mem_of_getElem? (i := 803) (by decide +kernel) : (Jvm.Cond.selects "java/lang/StringBuilder" ({ cls := "java/lang/AbstractStringBuilder", name := "isLatin1", desc := "()Z" } : Jvm.MethodName) ({ cls := "java/lang/AbstractStringBuilder", name := "isLatin1", desc := "()Z" } : Jvm.MethodName)) ∈ lw_tbl)) (hts0 _ (List.mem_of_getElem? (i := 772) (by decide +kernel))) (hts0 _ (List.mem_of_getElem? (i := 773) (by decide +kernel))))
    · exact (sq_selP (z := ({ cls := "java/lang/AbstractStringBuilder", name := "isLatin1", desc := "()Z" } : Jvm.MethodName)) rfl (by decide +kernel) (hts0 _ (List.mem_of_getElem? (i := 803) (by decide +kernel) : (Jvm.Cond.selects "java/lang/StringBuilder" ({ cls := "java/lang/AbstractStringBuilder", name := "isLatin1", desc := "()Z" } : Jvm.MethodName) ({ cls := "java/lang/AbstractStringBuilder", name := "isLatin1", desc := "()Z" } : Jvm.MethodName)) ∈ lw_tbl)) (hts0 _ (List.mem_of_getElem? (i := 841) (by decide +kernel))) (hts0 _ (List.mem_of_getElem? (i := 842) (by decide +kernel))))
abbrev lw_L0 : kx_L := [some (kx_r 999 0), none, none, none, none, none, none, none, none, none, none, none, none, none, none]
set_option maxHeartbeats 4000000 in
set_option maxRecDepth 100000 in
theorem lw_start {p : Program} {e : Env} {s : State} {m : MethodId} {below : List Frame} {meth : Method} {c : Code} (l : Launch) {b L : Nat} {xs : Nat → Int32} (hL9 : L < 2 ^ 31) (C0 : lw_At p s m meth c b L xs) {G : kx_S → Prop} (hbu : sp_bu xs L [kx_r 999 0] (fun _ _ _ => 0, fun _ _ _ => 0, some 0) (fun r S => r = some (kx_r 10 0) ∧ G S)) (hrun : ∀ S1 : kx_S, G S1 → S1.2.2 = none → kx_Run (tb_law xs L) (kx_NC, fun _ _ => True) 4 lw_L0 [kx_r 10 0] S1) : W p l e room_1 s m #[Value.ref b] below meth c s.heap [] 0 0 (lw_Z below #[Value.ref b] s) (entryFrame m ([Value.ref b] : List Value).toArray 15) := by
  have hts := lw_W C0
  obtain ⟨k0, k1, k2, hXp⟩ := lw_xp C0
  obtain ⟨hx, hb, hr, hml, hown, hts0, hX, hbl, hlocks, hgv⟩ := id C0
  obtain ⟨dC, dI, hKc⟩ := kx_classes hts
  obtain ⟨cI, hI1, hI2⟩ := kx_arrs (ty := .int) (hts _ kw_408) (fun _ h => h)
  obtain ⟨cJ, hJ1, hJ2⟩ := kx_arrs (ty := .long) (hts _ kw_682) (fun _ h => h)
  obtain ⟨cB, hB1, hB2⟩ := kx_arrs (ty := .byte) (hts _ kw_746) (fun _ h => h)
  have hAO : (Cond.arrayOver (.object "KeptLight$Shelf")).before #[Value.ref b] s = true := hts0 _ (List.mem_of_getElem? (i := 679) (by decide +kernel))
  obtain ⟨comp, cR, kR, g1, g2, g3, g4, g5⟩ := Cond.arrayOver_spec hAO
  have hK : va_K (dC, dI) vwCl (kx_tys (cI, cJ, cI, cR)) s := by
    refine ⟨hKc, fun k q hq => ?_⟩
    match k, hq with
    | 0, hq => cases hq; exact ⟨hI1, hI2⟩
    | 1, hq => cases hq; exact ⟨hJ1, hJ2⟩
    | 2, hq => cases hq; exact ⟨hI1, hI2⟩
    | 3, hq => cases hq; exact ⟨fun n z => ⟨fun k h => (by cases h), kR, g3, comp, g4⟩, kR, comp, g3, g4, g1, g5⟩
    | k + 4, hq => simp [kx_tys] at hq
  have hKb : va_K (dC, dI) vwCl [(cB, .byte)] s := by
    refine ⟨hKc, fun k q hq => ?_⟩
    match k, hq with
    | 0, hq => cases hq; exact ⟨hB1, hB2⟩
    | k + 1, hq => simp at hq
  have hN : kx_nst s := by
    refine ⟨fun q hq => ?_, va_AO.of hAO⟩
    have hm : ∀ q ∈ kx_nl, Cond.methodLinkNest q.1 q.2.1 q.2.2.1 q.2.2.2 ∈ lw_tbl := by decide +kernel
    exact va_Nw.of rfl (hts0 _ (hm q hq))
  have X : kx_Ctx p room_1 s m #[Value.ref b] c code "KeptLightLaw" 15 (dC, dI) (cI, cJ, cI, cR) (fun q => s.heap.size ≤ q) 0 (kx_NC, fun _ _ => True) 16 160 := ⟨⟨hx, hb, hml, hown, hts⟩, hK, hN, fun q hq => hq, by decide, by decide +kernel, Nat.le_refl _⟩
  have hw := fun S1 g h9 => kx_sound (kd_law (e := e) (l := l) (below := below) (ad0 := fun _ => b) X hr hlocks hL9 (sj_ESK b L xs k0 k1 k2) (fun A U H q => q.1.2) hKb hXp rfl) (hrun S1 g h9)
  have hl := lv_entry ([.ref b]) (n := 15) (Nat.le_of_ble_eq_true rfl)
  rw [lg_entry_eq]
  refine lv_aload_n hx hb (by decide +kernel : decode code 0 = .ok (.aload_n 0, 1)) rfl (lv_at hl 0 rfl) ?_
  have hP0 : va_P (dC, dI) vwCl (kx_ws (cI, cJ, cI, cR) (fun _ => b) (fun _ _ _ => 0, fun _ _ _ => 0, some 0)) s.heap := fun k q hq => by
    have h9 := (kx_ws_get hq).1
    exact absurd h9 (Nat.not_lt_zero _)
  have hD0 : va_D (fun q => s.heap.size ≤ q) (kx_ws (cI, cJ, cI, cR) (fun _ => b) (fun _ _ _ => 0, fun _ _ _ => 0, some 0)) := by
    refine ⟨fun i j p q hp => ?_, fun k q hq => ?_⟩
    · have h9 := (kx_ws_get hp).1
      exact absurd h9 (Nat.not_lt_zero _)
    · have h9 := (kx_ws_get hq).1
      exact absurd h9 (Nat.not_lt_zero _)
  have hF : ∀ z, va_A (kx_ws (cI, cJ, cI, cR) (fun _ => b) (fun _ _ _ => 0, fun _ _ _ => 0, some 0)) s.heap.size z → s.heap.size ≤ z := fun z g => by
    rcases g with ⟨k, x, hk⟩ | g
    · exact hD0.2 k _ hk
    · exact g
  have hv0 : kx_hv ((fun _ _ _ => 0, fun _ _ _ => 0, some 0) : kx_S) := by
    rw [kx_hv_some (k := 0) rfl]
    exact ⟨Nat.zero_le _, fun t o j t2 o2 h1 => absurd h1 (Nat.not_lt_zero _)⟩
  have hmet := kc_build l (b9 := b) (L9 := L) (k0 := k0) (k1 := k1) (k2 := k2) (xs := xs) hL9 cB (dC, dI) (cI, cJ, cI, cR) (fun _ => b) s.heap.size (kx_NC + 16) (kx_sz kx_NC + 160) [kx_r 999 0] (fun _ _ _ => 0, fun _ _ _ => 0, some 0) (fun r S => r = some (kx_r 10 0) ∧ G S) hbu (by decide) ⟨Or.inr rfl, trivial⟩ hv0 (Nat.zero_le _) rfl (by show kx_sz kx_NC + 160 = kx_sz kx_NC - kx_sz 0 + 160; decide +kernel) ⟨Nat.le_refl _, Nat.le_refl _⟩ rfl
  have e1 : ([kx_r 999 0] : List kx_V).map (kx_cv (fun _ => b)) = [.ref b] := rfl
  have hpre := kx_pre2 (av := [kx_r 999 0]) (sj_ESK b L xs k0 k1 k2) X.2.1 X.2.2.1 hP0 hD0 hKb (sq_down (sj_ESK b L xs k0 k1 k2) hXp va_S.rf hF)
  rw [e1] at hmet hpre
  refine kx_call2 (mc := kx_NC + 16) (ms := kx_sz kx_NC + 160) (rest := []) (va_runS (As := [.ref b]) X.1 hmet (va_cwS 1 X.1.2.2.2.2 (kx_goodIn (by intro w hw; unfold va_wsS at hw; simp only [List.cons_append, List.nil_append, List.mem_cons] at hw; rcases hw with rfl | rfl | rfl | rfl | hw <;> first | assumption | exact kw_368 | exact kw_369 | exact kw_0 | exact kw_370)) rfl rfl rfl (by decide +kernel) ⟨Nat.le_of_ble_eq_true rfl, Nat.le_of_ble_eq_true rfl⟩) hpre rfl rfl hl.1 rfl (lv_room (Nat.le_of_ble_eq_true rfl)) (by decide +kernel : decode code 1 = .ok (.invokestatic 124, 3)) ⟨by decide, by decide +kernel⟩) va_S.rf hF fun r2 S1 ad2 H2 locs2 f0 hm1 f1 f2 f4 f5 f6 => ?_
  obtain ⟨rfl, hG⟩ := f0
  have hcn1 := kx_cnt_none hm1
  have hfin := hw S1 hG hm1 ad2 H2 locs2 _ f1 ⟨Nat.zero_le _, Nat.le_of_eq hcn1⟩ (kx_hv_none hm1) ⟨by rw [hcn1]; exact f2, trivial⟩ (fun i v hi => by
    match i, hi with
    | 0, hi => cases hi; exact Or.inr rfl
    | 1, hi => cases hi
    | 2, hi => cases hi
    | 3, hi => cases hi
    | 4, hi => cases hi
    | 5, hi => cases hi
    | 6, hi => cases hi
    | 7, hi => cases hi
    | 8, hi => cases hi
    | 9, hi => cases hi
    | 10, hi => cases hi
    | 11, hi => cases hi
    | 12, hi => cases hi
    | 13, hi => cases hi
    | 14, hi => cases hi
    | i + 15, hi => simp at hi) f4 f5 f6 ⟨hl.1, hl.2.1, fun i v hi => by
    match i, hi with
    | 0, hi =>
      cases hi
      have h9 := hl.2.2 (0, .ref b) (List.mem_cons_self)
      show _ = some (Slot.val (Value.ref (ad2 (kx_ix 999 0))))
      rw [kx_ix_scr, f1 _ (Or.inr rfl)]
      exact h9
    | 1, hi => cases hi
    | 2, hi => cases hi
    | 3, hi => cases hi
    | 4, hi => cases hi
    | 5, hi => cases hi
    | 6, hi => cases hi
    | 7, hi => cases hi
    | 8, hi => cases hi
    | 9, hi => cases hi
    | 10, hi => cases hi
    | 11, hi => cases hi
    | 12, hi => cases hi
    | 13, hi => cases hi
    | 14, hi => cases hi
    | i + 15, hi => simp at hi⟩
  rw [hcn1] at hfin
  have e0 : 0 + (kx_NC + 16) = kx_NC - 0 + 16 := by decide
  have e2 : 0 + (kx_sz kx_NC + 160) = kx_sz kx_NC - kx_sz 0 + 160 := by decide +kernel
  rw [e0, e2]
  exact hfin

/-! thought with another plan -/
noncomputable def uP (t : Nat) (g : Nat → Int32) : Int32 := Hn t g 16 - g 16
theorem tp_gk (g v : Nat → Int32) : gk (tpG g v 24) = gk g := funext fun s => by unfold gk; rw [tpG_ne _ _ (by omega)]
theorem tp_gh (g v : Nat → Int32) : gh (tpG g v 24) = gh g := funext fun s => by unfold gh; rw [tpG_ne _ _ (by omega)]
theorem TR_plan {I : kI} {g : Nat → Int32} {N : Nat} (v : Nat → Int32) (hg : WG g N) (h : TR I g g) : TR (kx_uA I 37 2 (tpF (I 37 2) v 24)) (tpG g v 24) (tpG g v 24) := by
  obtain ⟨hS, ⟨p, hF, f, hfc, h8, q1, q2⟩, u1, u2, u3, u4⟩ := h
  have k : ∀ t o j, ¬ t = 37 → kx_uA I 37 2 (tpF (I 37 2) v 24) t o j = I t o j := fun t o j a => by rw [kx_uA_app, if_neg (fun z => a z.1)]
  have e14 : tpG g v 24 14 = g 14 := tpG_ne _ _ (by omega)
  have e0 : tpG g v 24 0 = g 0 := tpG_ne _ _ (by omega)
  refine ⟨CS_plan hS hg.2.1 hg.2.2.1, ⟨p, ?_, f, ?_, ?_, ?_, ?_⟩, ?_, ?_, ?_, ?_⟩
  · rw [e14, tp_gk, tp_gh]
    exact FL_congr hF (k _ _ _ (by omega)) (fun _ => k _ _ _ (by omega)) (fun _ => k _ _ _ (by omega)) (fun _ => k _ _ _ (by omega))
  · rw [e14]; exact hfc
  · rw [k _ _ _ (by omega)]; exact h8
  · rw [tp_gh, e0]; exact q1
  · rw [tp_gh, e0, e14]; exact q2
  · rw [k _ _ _ (by omega), u1, Int32.sub_self, Int32.sub_self]
  · rw [k _ _ _ (by omega), u2, Int32.sub_self, Int32.sub_self]
  · rw [k _ _ _ (by omega), u3, Int32.sub_self, Int32.sub_self]
  · rw [k _ _ _ (by omega), u4, Int32.sub_self, Int32.sub_self]
/-- the class's world, known to a thought -/
def CQ (I : kI) (g : Nat → Int32) : Prop := CS I 0 g ∧ CF I 0 g
theorem CQ_th {I I' : kI} {g : Nat → Int32} (h : CQ I g) (f : thF I I') : CQ I' g := by
  obtain ⟨hS, p, hF, hfm⟩ := h
  unfold thF stT at f
  refine ⟨CS_congr hS (fun t j a => by unfold stT at a; exact f _ _ _ (by omega) (by omega)), p, FL_congr hF (f _ _ _ (by omega) (by omega)) (fun _ => f _ _ _ (by omega) (by omega)) (fun _ => f _ _ _ (by omega) (by omega)) (fun _ => f _ _ _ (by omega) (by omega)), fun s hs => ?_⟩
  rw [f _ _ _ (by omega) (by omega), f _ _ _ (by omega) (by omega)]
  exact hfm s hs
theorem T_as {N : Nat} {g : Nat → Int32} (J : kJ) (t : Nat) (ht : t ≤ 1000) (I : kI) (hg : WG g N) (hN : N + t ≤ 999999) (h : CQ I g) : ∃ I', E_X10_unlitAsPlanned (nI t) I J = some (uP t g, I', J) ∧ thF I I' := by
  obtain ⟨K1, e1, r1, f1, _⟩ := T_begin (show N < 1000000 by omega) I J hg h.1 h.2
  obtain ⟨K2, e2, r2, f2⟩ := T_passHours J t ht K1 g N hg hN r1
  refine ⟨K2, ?_, thF_tr f1 f2⟩
  unfold E_X10_unlitAsPlanned
  rw [kbd_eq e1]
  dsimp only
  rw [kbd_eq e2]
  rfl
/-- a thought with the plan v -/
theorem T_plan {N : Nat} {g : Nat → Int32} (v : Nat → Int32) (J : kJ) (t : Nat) (ht : t ≤ 1000) (I : kI) (hg : WG g N) (hv : ∀ i, i < 24 → v i = -1 ∨ ∃ j, j < nn (g 13) ∧ v i = nI j) (hN : N + t ≤ 999999) (h : CQ I g) : ∃ I1 I', E_X8_begin 0 0 I J = some (I1, J) ∧ thF I I1 ∧ (∀ x, x < 24 → I1 37 2 x = g (85 + x)) ∧ E_X8_passHours 0 0 (nI t) (kx_uA I1 37 2 (tpF (I1 37 2) v 24)) J = some (uP t (tpG g v 24), I', J) ∧ thF I I' := by
  obtain ⟨K1, e1, r1, f1, _⟩ := T_begin (show N < 1000000 by omega) I J hg h.1 h.2
  obtain ⟨K2, e2, r2, f2⟩ := T_passHours J t ht _ _ N (WG_plan hg hv) hN (TR_plan v hg r1)
  have f3 : thF K1 (kx_uA K1 37 2 (tpF (K1 37 2) v 24)) := fun t o j a b => by
    rw [kx_uA_app, if_neg (fun z => b ⟨z.2, by unfold stT; omega⟩)]
  exact ⟨K1, K2, e1, f1, r1.1.2.2.2.2.2.2.2.2, e2, thF_tr f1 (thF_tr f3 f2)⟩
/-! the reference's side -/
def mx (I I' : kI) : Prop := ∀ t o j, ¬ (t = 41 ∧ o ≤ 1) → ¬ (t = 11 ∧ o = 0 ∧ (j = 5 ∨ j = 6 ∨ j = 7)) → ¬ (44 ≤ t ∧ t ≤ 48) → I' t o j = I t o j
theorem mx_rf (I : kI) : mx I I := fun _ _ _ _ _ _ => rfl
theorem mx_tr {I I' I'' : kI} (h1 : mx I I') (h2 : mx I' I'') : mx I I'' := fun t o j a b c => (h2 t o j a b c).trans (h1 t o j a b c)
theorem mc_mx {I I' : kI} (h : mc I I') : mx I I' := fun t o j a b c => h t o j (fun z => a ⟨z.1, by omega⟩) b c
theorem mx_mc {I I' : kI} (h : mx I I') (e : I' 41 0 = I 41 0) : mc I I' := fun t o j a b c => by
  by_cases q : t = 41 ∧ o = 0
  · rw [q.1, q.2, e]
  · exact h t o j (by omega) b c
theorem R_unlitP (J : kJ) (t : Nat) (ht : t ≤ 1000) (I : kI) (N : Nat) {g : Nat → Int32} (e41 : I 41 0 = g) (hg : WG g N) (hN : N + t ≤ 999999) : ∃ I', E_X11_unlitOf (nI t) I J = some (uP t g, I', J) ∧ I' 41 0 = g ∧ mc I I' ∧ (∀ x, I' 48 0 x = I 48 0 x) := by
  subst e41
  exact R_unlitOf J t ht I N hg hN
/-- the plan is put by, and taken back -/
def kp0 (I : kI) : kI := kx_uA I 48 0 (fun x => if x < 24 then I 41 0 (85 + x) else I 48 0 x)
theorem g_keeps0 (I : kI) (J : kJ) : ∀ n i m, i + n = 24 → n + 1 ≤ m → G_X11_keepsPlan 0 m 2 (nI i) (kx_uA I 48 0 (fun x => if x < i then I 41 0 (85 + x) else I 48 0 x)) J = some (kp0 I, J) := by
  intro n
  induction n with
  | zero =>
    intro i m hi hm
    obtain ⟨m, rfl⟩ : ∃ m', m = m' + 1 := ⟨m - 1, by omega⟩
    obtain rfl : i = 24 := by omega
    rw [G_X11_keepsPlan_2, kif_pos (by decide)]
    rfl
  | succ n ih =>
    intro i m hi hm
    obtain ⟨m, rfl⟩ : ∃ m', m = m' + 1 := ⟨m - 1, by omega⟩
    have c85 : ((85 : Int32) + nI i).toNatClampNeg = 85 + i := ix1c (a := 85) (by omega)
    have v85 : vp_in ((85 : Int32) + nI i) 2509 := ix1v (a := 85) (by omega) (by omega)
    have hn := ih (i + 1) m (by omega) (by omega)
    have k41 : (kx_uA I 48 0 (fun x => if x < i then I 41 0 (85 + x) else I 48 0 x)) 41 0 (85 + i) = I 41 0 (85 + i) := by rw [kx_uA_app, if_neg (by omega)]
    have st : upd (fun x => if x < i then I 41 0 (85 + x) else I 48 0 x) i (I 41 0 (85 + i)) = (fun x => if x < i + 1 then I 41 0 (85 + x) else I 48 0 x) := by
      funext j
      simp only [upd]
      by_cases q : j = i
      · rw [if_pos q, if_pos (by omega), q]
      · rw [if_neg q]
        by_cases q2 : j < i
        · rw [if_pos q2, if_pos (by omega)]
        · rw [if_neg q2, if_neg (by omega)]
    rw [G_X11_keepsPlan_2, kif_neg (by show ¬ nI 24 ≤ nI i; rw [i_le (by omega) (by omega)]; omega), kif_pos rfl, kif_pos v85, kif_pos (vl i 24 (by omega) (by omega)), c85, nI_clamp (by omega), k41, kw_uA, st, nI_1]
    exact hn
theorem E_keeps0 (I : kI) (J : kJ) : E_X11_keepsPlan 0 I J = some (kp0 I, J) := by
  have g := g_keeps0 I J 24 0 kfu (by omega) (by unfold kfu; omega)
  have e : kx_uA I 48 0 (fun x => if x < 0 then I 41 0 (85 + x) else I 48 0 x) = I := by
    have z : (fun x => if x < 0 then I 41 0 (85 + x) else I 48 0 x) = I 48 0 := funext fun x => if_neg (by omega)
    rw [z, kx_uA_id]
  rw [e] at g
  exact g
theorem g_keeps1 (I : kI) (J : kJ) : ∀ n i m, i + n = 24 → n + 1 ≤ m → G_X11_keepsPlan 1 m 2 (nI i) (kx_uA I 41 0 (tpG (I 41 0) (I 48 0) i)) J = some (kx_uA I 41 0 (tpG (I 41 0) (I 48 0) 24), J) := by
  intro n
  induction n with
  | zero =>
    intro i m hi hm
    obtain ⟨m, rfl⟩ : ∃ m', m = m' + 1 := ⟨m - 1, by omega⟩
    obtain rfl : i = 24 := by omega
    rw [G_X11_keepsPlan_2, kif_pos (by decide)]
  | succ n ih =>
    intro i m hi hm
    obtain ⟨m, rfl⟩ : ∃ m', m = m' + 1 := ⟨m - 1, by omega⟩
    have c85 : ((85 : Int32) + nI i).toNatClampNeg = 85 + i := ix1c (a := 85) (by omega)
    have v85 : vp_in ((85 : Int32) + nI i) 2509 := ix1v (a := 85) (by omega) (by omega)
    have hn := ih (i + 1) m (by omega) (by omega)
    have k48 : (kx_uA I 41 0 (tpG (I 41 0) (I 48 0) i)) 48 0 i = I 48 0 i := by rw [kx_uA_app, if_neg (by omega)]
    have st : upd (tpG (I 41 0) (I 48 0) i) (85 + i) (I 48 0 i) = tpG (I 41 0) (I 48 0) (i + 1) := by
      funext j
      simp only [upd, tpG]
      by_cases q : j = 85 + i
      · rw [if_pos q, if_pos (by omega), q, show 85 + i - 85 = i by omega]
      · rw [if_neg q]
        by_cases q2 : 85 ≤ j ∧ j < 85 + i
        · rw [if_pos q2, if_pos (by omega)]
        · rw [if_neg q2, if_neg (by omega)]
    rw [G_X11_keepsPlan_2, kif_neg (by show ¬ nI 24 ≤ nI i; rw [i_le (by omega) (by omega)]; omega), kif_neg (by decide), kif_pos (vl i 24 (by omega) (by omega)), kif_pos v85, c85, nI_clamp (by omega), k48, kw_uA, st, nI_1]
    exact hn
theorem E_keeps1 (I : kI) (J : kJ) : E_X11_keepsPlan 1 I J = some (kx_uA I 41 0 (tpG (I 41 0) (I 48 0) 24), J) := by
  have g := g_keeps1 I J 24 0 kfu (by omega) (by unfold kfu; omega)
  rw [tpG_0, kx_uA_id] at g
  exact g
/-- from the plan put by, the array is as it was -/
theorem R_keeps1 {I : kI} (J : kJ) {g v : Nat → Int32} (e41 : I 41 0 = tpG g v 24) (e48 : ∀ x, x < 24 → I 48 0 x = g (85 + x)) : ∃ I', E_X11_keepsPlan 1 I J = some (I', J) ∧ I' 41 0 = g ∧ mx I I' := by
  refine ⟨_, E_keeps1 I J, ?_, fun t o j a b c => by rw [kx_uA_app, if_neg (by omega)]⟩
  rw [kx_uA_eq]
  funext j
  by_cases q : 85 ≤ j ∧ j < 109
  · obtain ⟨x, rfl⟩ : ∃ x, j = 85 + x := ⟨j - 85, by omega⟩
    rw [tpG_at _ _ (by omega)]
    exact e48 x (by omega)
  · rw [tpG_ne _ _ q, e41, tpG_ne _ _ q]

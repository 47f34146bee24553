/-! the law's build: the class is made, the sky's text is fed to it -/
/-- other addresses beside the world -/
theorem kx_at_ad {D : va_G} {C4 : kx_C} {ad ad' : Nat → Nat} {S : kx_S} {H : Heap} (h : ∀ k, k < kx_NC → ad' k = ad k) {t o a : Nat} (hm : (t, o) ∈ kx_cells) (hv : va_at D vwCl (a, kx_en C4 ad S t o) H) : va_at D vwCl (a, kx_en C4 ad' S t o) H := by
  rcases hkd : kx_kind t with ⟨k, n⟩
  match k, hkd with
  | 0, hkd =>
    have e : kx_en C4 ad' S t o = kx_en C4 ad S t o := by
      rw [kx_en_o hkd, kx_en_o hkd]
      refine congrArg _ (congrArg _ (List.map_congr_left fun q hq => ?_))
      obtain ⟨f, j⟩ := q
      have hj : (kx_fts n)[j]? = some f := by
        have := List.mem_zipIdx_iff_getElem?.mp hq
        simpa using this
      unfold kx_sv
      cases f with
      | none => rfl
      | some g =>
        have hc := kx_closed (t, o) hm (some g) (by rw [hkd]; exact List.mem_of_getElem? hj) g rfl
        show kx_rv ad' S t o j g.1 (g.2 o) = kx_rv ad S t o j g.1 (g.2 o)
        unfold kx_rv
        rw [h _ hc]
    rw [e]
    exact hv
  | 1, hkd => rw [kx_en_i hkd] at hv ⊢; exact hv
  | 2, hkd => rw [kx_en_l hkd] at hv ⊢; exact hv
  | 3, hkd => rw [kx_en_z hkd] at hv ⊢; exact hv
  | 4, hkd =>
    rw [kx_en_r hkd] at hv ⊢
    have hn : n = 8 := by
      have h6 : ∀ q ∈ kx_cells, (kx_kind q.1).1 = 4 → (kx_kind q.1).2 = 8 := by decide +kernel
      have := h6 _ hm (by rw [hkd])
      rw [hkd] at this
      exact this
    have h' : H[a]? = some (vp_cell C4.2.2.2 (n, .inr (.inr (.inr (.inr fun j => kx_ro ad S t o j kx_tSh j))))) := hv
    show H[a]? = some (vp_cell C4.2.2.2 (n, .inr (.inr (.inr (.inr fun j => kx_ro ad' S t o j kx_tSh j)))))
    rw [h', vp_cell_q, vp_cell_q]
    refine congrArg some (kx_arrE _ _ fun j hj => ?_)
    show va_rf (kx_ro ad S t o j kx_tSh j) = va_rf (kx_ro ad' S t o j kx_tSh j)
    unfold kx_ro
    rw [h _ (kx_closed_r j (by omega))]
  | k + 5, hkd =>
    exfalso
    have h9 : kx_kind t = (9, n) := by rw [hkd, kx_kind5 t k n hkd]
    have h6 : ∀ q ∈ kx_cells, (kx_kind q.1).1 ≠ 9 := by decide +kernel
    exact h6 _ hm (by rw [h9])
theorem kx_P_ad {D : va_G} {C4 : kx_C} {ad ad' : Nat → Nat} {S : kx_S} {H : Heap} (h : ∀ k, k < kx_NC → ad' k = ad k) (hn : kx_cnt S ≤ kx_NC) (hP : va_P D vwCl (kx_ws C4 ad S) H) : va_P D vwCl (kx_ws C4 ad' S) H := fun k q hq => by
  obtain ⟨hk, t, o, hc, rfl⟩ := kx_ws_get hq
  rw [h k (by omega)]
  exact kx_at_ad h (List.mem_of_getElem? hc) (hP k _ (kx_ws_k hk hc))
theorem kx_D_ad {A : Nat → Prop} {C4 : kx_C} {ad ad' : Nat → Nat} {S : kx_S} (h : ∀ k, k < kx_NC → ad' k = ad k) (hn : kx_cnt S ≤ kx_NC) (hD : va_D A (kx_ws C4 ad S)) : va_D A (kx_ws C4 ad' S) := by
  refine ⟨fun i j x y hx hy e => ?_, fun k q hq => ?_⟩
  · obtain ⟨hk, t, o, hc, rfl⟩ := kx_ws_get hx
    obtain ⟨hk2, t2, o2, hc2, rfl⟩ := kx_ws_get hy
    rw [h i (by omega), h j (by omega)] at e
    exact hD.1 i j (ad i, kx_en C4 ad S t o) (ad j, kx_en C4 ad S t2 o2) (kx_ws_k hk hc) (kx_ws_k hk2 hc2) e
  · obtain ⟨hk, t, o, hc, rfl⟩ := kx_ws_get hq
    rw [h k (by omega)]
    exact hD.2 k (ad k, kx_en C4 ad S t o) (kx_ws_k hk hc)
/-- all made: pointers stand -/
theorem kx_P_fz {D : va_G} {C4 : kx_C} {ad : Nat → Nat} {I : kI} {J : kJ} {H : Heap} (hI : kx_all I) (hP : va_P D vwCl (kx_ws C4 ad (I, J, some kx_NC)) H) : va_P D vwCl (kx_ws C4 ad (I, J, none)) H := fun k q hq => by
  obtain ⟨hk, t, o, hc, rfl⟩ := kx_ws_get hq
  have z := hP k _ (kx_ws_k (S := (I, J, some kx_NC)) hk hc)
  exact kx_frz_at (List.mem_of_getElem? hc) hI z
theorem kx_D_fz {A : Nat → Prop} {C4 : kx_C} {ad : Nat → Nat} {I : kI} {J : kJ} (hD : va_D A (kx_ws C4 ad (I, J, some kx_NC))) : va_D A (kx_ws C4 ad (I, J, none)) := by
  refine ⟨fun i j x y hx hy e => ?_, fun k q hq => ?_⟩
  · obtain ⟨hk, t, o, hc, rfl⟩ := kx_ws_get hx
    obtain ⟨hk2, t2, o2, hc2, rfl⟩ := kx_ws_get hy
    exact hD.1 i j (ad i, kx_en C4 ad (I, J, some kx_NC) t o) (ad j, kx_en C4 ad (I, J, some kx_NC) t2 o2) (kx_ws_k (S := (I, J, some kx_NC)) hk hc) (kx_ws_k (S := (I, J, some kx_NC)) hk2 hc2) e
  · obtain ⟨hk, t, o, hc, rfl⟩ := kx_ws_get hq
    exact hD.2 k (ad k, kx_en C4 ad (I, J, some kx_NC) t o) (kx_ws_k (S := (I, J, some kx_NC)) hk hc)
/-- behind the constructor: whatever the text is, it is fed, and the rest of build runs -/
def lJ (xs : Nat → Int32) (L9 : Nat) (P : kx_P) : kx_K := fun pc L st S => st = [kx_r 999 0, kx_r 10 0] ∧ S.2.2 = some kx_NC ∧ kx_all S.1 ∧ ∀ n9, n9 < 16 → ∃ F1 : kx_S → Prop, kx_Run (tb_feeds n9) (kx_NC, fun r' S'' => ((∃ v, r' = some (kx_i v)) ∧ F1 S'') ∧ S''.2.2 = none) 0 (kx_l0 [kx_r 10 0, kx_r 999 0] 3) [] (S.1, S.2.1, none) ∧ ∀ v S1, F1 S1 → S1.2.2 = none → kx_Run (tb_bu2 xs L9) P 16 L [kx_i v] S1
set_option maxHeartbeats 4000000 in
set_option maxRecDepth 100000 in
theorem lw_sky {p : Program} {l : Launch} {e : Env} {s : State} {m : MethodId} {args : Array Value} {below : List Frame} {meth : Method} {c : Code} {cB : ClassId} {Q : State → Prop} {D : va_G} {C4 : kx_C} {A : Nat → Prop} {ad0 : Nat → Nat} {P : kx_P} {b9 L9 k0 k1 k2 : Nat} {xs : Nat → Int32} (X : kx_Ctx p rm_bu s m args c cL_build RL 3 D C4 A 0 P 16 160) (hL9 : L9 < 2 ^ 31) (hKb : va_K D vwCl [(cB, .byte)] s) (hXp : sj_SK b9 L9 xs k0 k1 k2 A s s.heap) (had : ad0 kx_NC = b9) (hPn : P.1 = kx_NC)
    (hw : ∀ pc L st S, kx_Run (tb_bu2 xs L9) P pc L st S → kx_W p l e rm_bu s m args below meth c Q D C4 A 0 ad0 3 16 160 P pc L st S) : ∀ L st S, lJ xs L9 P 10 L st S → kx_W p l e rm_bu s m args below meth c Q D C4 A 0 ad0 3 0 0 P 10 L st S := by
  intro L st S h ad H locs ls ha hc ho hst hL hP hD hS hl
  obtain ⟨I, J, md⟩ := S
  obtain ⟨rfl, hm, hall, h⟩ := h
  have hm' : md = some kx_NC := hm
  subst hm'
  have hcn : kx_cnt (I, J, some kx_NC) = kx_NC := rfl
  have h999 : ad kx_NC = b9 := (ha _ (Or.inr rfl)).trans had
  have e1 : ([kx_r 999 0, kx_r 10 0] : List kx_V).map (kx_cv ad) = [.ref b9, .ref (ad (kx_ix 10 0))] := by
    show [Value.ref (ad (kx_ix 999 0)), Value.ref (ad (kx_ix 10 0))] = _
    rw [kx_ix_scr, h999]
  rw [e1, hcn]
  refine kx_call0 (mc := 16) (ms := 160) (rest := [.ref (ad (kx_ix 10 0))]) (va_runS (As := [.ref b9]) X.1 (cl_sky l (cB := cB) (D := D) (b := b9) (L := L9) (k0 := k0) (k1 := k1) (k2 := k2) (xs := xs) hL9 H.size) (va_cwS 1 X.1.2.2.2.2 (kx_goodIn (by intro w hw; unfold va_wsS at hw; simp only [List.cons_append, List.nil_append, List.mem_cons] at hw; rcases hw with rfl | rfl | rfl | rfl | hw <;> first | assumption | exact kw_708 | exact kw_709 | exact kw_0 | exact kw_710)) rfl rfl rfl (by decide +kernel) ⟨Nat.le_of_ble_eq_true rfl, Nat.le_of_ble_eq_true rfl⟩) (sq_pre (sj_ESK b9 L9 xs k0 k1 k2) hKb sj_P0 (sj_D0 (A := A)) (sj_low (sj_ESK b9 L9 xs k0 k1 k2) hXp hS X.2.2.2.1)) rfl rfl hl.1 rfl (lv_room (Nat.le_of_ble_eq_true rfl)) (by decide +kernel : decode cL_build 10 = .ok (.invokestatic 65, 3)) ⟨by show kx_NC - 0 + 0 + 16 ≤ kx_NC + 16; omega, by show kx_sz kx_NC - kx_sz 0 + 0 + 160 ≤ kx_sz kx_NC + 160; omega⟩) hP hS X.2.2.2.1 fun v w1 H1 locs1 hp hPw hDw hP1 hS1 hz => ?_
  obtain ⟨q, u, n, f, hn, hf, rfl, rfl⟩ := hp
  obtain ⟨F1, hrun, hk⟩ := h n hn
  have hq1 : H.size ≤ q := by
    rcases hDw.2 0 _ rfl with ⟨k, x, hk⟩ | hq
    · cases hk
    · exact hq
  have hu1 : H.size ≤ u := by
    rcases hDw.2 1 _ rfl with ⟨k, x, hk⟩ | hq
    · cases hk
    · exact hq
  have hq2 : q < H1.size := (hPw 0 _ rfl).lt
  have hu2 : u < H1.size := (hPw 1 _ rfl).lt
  have hlow : ∀ (k : Nat) (x : Nat × va_E), (kx_ws C4 ad (I, J, some kx_NC))[k]? = some x → x.1 < H.size := fun k x hx => (hP k x hx).lt
  have hag : ∀ k, k < kx_NC → (fun k => if k = kx_NC then q else ad k) k = ad k := fun k hk => if_neg (Nat.ne_of_lt hk)
  have hP2 := kx_P_ad (ad' := fun k => if k = kx_NC then q else ad k) hag (Nat.le_refl _) (kx_P_fz hall hP1)
  have hD2 := kx_D_ad (ad' := fun k => if k = kx_NC then q else ad k) hag (Nat.le_refl _) (kx_D_fz (I := I) (J := J) hD)
  have hout : ∀ z, H.size ≤ z → z < H1.size → ¬ va_A (kx_ws C4 (fun k => if k = kx_NC then q else ad k) (I, J, none)) H1.size z := fun z g1 g2 g => by
    rcases g with ⟨k, x, hk⟩ | g
    · obtain ⟨hk1, t, o, hc1, e9⟩ := kx_ws_get hk
      have hk2 : k < kx_NC := hk1
      have h7 : ad k < H.size := hlow k _ (kx_ws_k (S := (I, J, some kx_NC)) hk1 hc1)
      have e8 : z = ad k := (Prod.mk.inj e9).1.trans (hag k hk2)
      omega
    · omega
  have hF2 : ∀ z, va_A (kx_ws C4 (fun k => if k = kx_NC then q else ad k) (I, J, none)) H1.size z → A z := fun z g => by
    rcases g with ⟨k, x, hk⟩ | g
    · exact hD2.2 k _ hk
    · exact X.2.2.2.1 z (Nat.le_trans hS1.1 g)
  have hXS : sj_S q n (va_A (kx_ws C4 (fun k => if k = kx_NC then q else ad k) (I, J, none)) H1.size) s H1 := ⟨sq_down sj_EB hXp.1.1 hS1 hF2, sj_sof X.1.2.2.2.2 hKb hPw 0 1 rfl rfl hf (hout q hq1 hq2) (hout u hu1 hu2)⟩
  have hmet := kc_feeds l (q9 := q) (n9 := n) (by omega) cB D C4 (fun k => if k = kx_NC then q else ad k) H1.size 0 0 [kx_r 10 0, kx_r 999 0] (I, J, none) (fun r' S'' => (∃ v, r' = some (kx_i v)) ∧ F1 S'') hrun (by decide) ⟨Or.inl (by show kx_ix 10 0 < kx_NC; decide +kernel), Or.inr rfl, trivial⟩ trivial (Nat.le_refl _) (by show 0 = kx_NC - kx_NC + 0; omega) (by show 0 = kx_sz kx_NC - kx_sz kx_NC + 0; omega) ⟨Nat.zero_le _, Nat.zero_le _⟩ (if_pos rfl)
  have e2 : ([kx_r 10 0, kx_r 999 0] : List kx_V).map (kx_cv (fun k => if k = kx_NC then q else ad k)) = [.ref (ad (kx_ix 10 0)), .ref q] := by
    show [Value.ref ((fun k => if k = kx_NC then q else ad k) (kx_ix 10 0)), Value.ref ((fun k => if k = kx_NC then q else ad k) (kx_ix 999 0))] = _
    rw [kx_ix_scr, hag _ (by decide +kernel)]
    simp
  have hpre := kx_pre2 (av := [kx_r 10 0, kx_r 999 0]) (sj_ES q n) X.2.1 X.2.2.1 hP2 hD2 hKb hXS
  rw [e2] at hmet hpre
  refine kx_call2 (mc := 0) (ms := 0) (rest := []) (va_runS (As := [.ref (ad (kx_ix 10 0)), .ref q]) X.1 hmet (va_cwS 2 X.1.2.2.2.2 (kx_goodIn (by intro w hw; unfold va_wsS at hw; simp only [List.cons_append, List.nil_append, List.mem_cons] at hw; rcases hw with rfl | rfl | rfl | rfl | hw <;> first | assumption | exact kw_991 | exact kw_992 | exact kw_0 | exact kw_993)) rfl rfl rfl (by decide +kernel) ⟨Nat.le_of_ble_eq_true rfl, Nat.le_of_ble_eq_true rfl⟩) hpre rfl rfl hl.1 rfl (lv_room (Nat.le_of_ble_eq_true rfl)) (by decide +kernel : decode cL_build 13 = .ok (.invokestatic 69, 3)) ⟨by show kx_NC - 0 + 0 + 16 + 0 ≤ kx_NC + 16; omega, by show kx_sz kx_NC - kx_sz 0 + 0 + 160 + 0 ≤ kx_sz kx_NC + 160; omega⟩) hS1 hF2 fun r2 S1 ad2 H2 locs2 g0 hm1 g1 g2 g4 g5 g6 => ?_
  obtain ⟨⟨v, rfl⟩, hF1⟩ := g0
  have hcn1 := kx_cnt_none hm1
  have hag2 : ∀ k, k < kx_NC → (fun k => if k = kx_NC then b9 else ad2 k) k = ad2 k := fun k hk => if_neg (Nat.ne_of_lt hk)
  have hag3 : ∀ k, k < kx_NC → ad2 k = ad k := fun k hk => (g1 k (Or.inl hk)).trans (hag k hk)
  have hag4 : kx_agree kx_NC ad (fun k => if k = kx_NC then b9 else ad2 k) := fun k hk => by
    rcases hk with hk | hk
    · exact (hag2 k hk).trans (hag3 k hk)
    · subst hk
      exact (if_pos rfl).trans h999.symm
  have hfin := hw 16 L [kx_i v] S1 (hk v S1 hF1 hm1) (fun k => if k = kx_NC then b9 else ad2 k) H2 locs2 ls (ha.tr hag4 (Nat.zero_le _)) ⟨Nat.zero_le _, by rw [hcn1, hPn]; exact Nat.le_refl _⟩ (kx_hv_none hm1) ⟨trivial, trivial⟩ (by rw [hcn1]; exact hL) (kx_P_ad hag2 (Nat.le_of_eq hcn1) g4) (kx_D_ad hag2 (Nat.le_of_eq hcn1) g5) g6 (hl.agree hag4 hL)
  rw [hcn1] at hfin
  exact hfin
/-- build -/
def sp_bu (xs : Nat → Int32) (L9 : Nat) : kx_Sq := fun av S F => av = [kx_r 999 0] ∧ kx_cnt S = 0 ∧ kx_Run (tb_bu1 (lJ xs L9 (kx_NC, fun r' S'' => F r' S'' ∧ S''.2.2 = none))) (kx_NC, fun r' S'' => F r' S'' ∧ S''.2.2 = none) 0 (kx_l0 av 3) [] S
set_option maxHeartbeats 4000000 in
set_option maxRecDepth 100000 in
theorem kc_build (l : Launch) {b9 L9 k0 k1 k2 : Nat} {xs : Nat → Int32} (hL9 : L9 < 2 ^ 31) : kx_ok2 l yL_build (kx_wd yL_build cL_build 3 (some (.object "KeptLight"))) rm_bu (sp_bu xs L9) 3 16 160 (sj_SK b9 L9 xs k0 k1 k2) b9 :=
  kx_met2 (by decide +kernel) (fun p e s m args below meth c cB Q D C4 A ad0 av S F P hsp hP X X0 hKb hXp had Z hr hin => by
    obtain ⟨rfl, h0, hrun⟩ := hsp
    subst hP
    rw [h0] at X X0 Z ⊢
    exact kx_sound (kd_bu1 (cB := cB) X0 (lw_sky X hL9 hKb hXp had rfl (fun pc L st S g => kx_sound (kd_bu2 X Z hr hL9 (sj_ESK b9 L9 xs k0 k1 k2) (fun A U H q => q.1.2) hKb hXp had) g))) hrun)

/-! all objects are made: every pointer stands -/
theorem kx_arrE (cI : ClassId) (N : Nat) {f g : Nat → Value} (h : ∀ j, j < N → f j = g j) : arrV cI N f = arrV cI N g := by
  unfold arrV
  have e : (Array.ofFn (n := N) fun j => f j.val) = (Array.ofFn (n := N) fun j => g j.val) := congrArg (Array.ofFn (n := N)) (funext fun j => h j.val j.isLt)
  rw [e]
def kx_all (I : kI) : Prop := ∀ q : Nat × Nat, q ∈ kx_cells → ∀ j, j < 24 → (kx_tgt q.1 q.2 j).isSome = true → I q.1 q.2 j ≠ 0 ∨ (q.1 = 39 ∧ 8 ≤ j)
theorem kx_ftlen : ∀ c : Nat, (kx_fts c).length ≤ 24 := by
  intro c
  have h : ∀ q ∈ kx_ftl, q.length ≤ 24 := by decide +kernel
  unfold kx_fts
  by_cases hc : c < kx_ftl.length
  · rw [List.getD_eq_getElem?_getD, List.getElem?_eq_getElem hc]
    exact h _ (List.getElem_mem hc)
  · rw [List.getD_eq_getElem?_getD, List.getElem?_eq_none (by omega)]
    exact Nat.zero_le _
theorem kx_frz_at {D : va_G} {C4 : kx_C} {ad : Nat → Nat} {I : kI} {J : kJ} {H : Heap} {t o a : Nat} (hm : (t, o) ∈ kx_cells) (hI : kx_all I) (h : va_at D vwCl (a, kx_en C4 ad (I, J, some kx_NC) t o) H) : va_at D vwCl (a, kx_en C4 ad (I, J, none) t o) H := by
  rcases hkd : kx_kind t with ⟨k, n⟩
  match k, hkd with
  | 0, hkd =>
    have e : kx_en C4 ad (I, J, none) t o = kx_en C4 ad (I, J, some kx_NC) t o := by
      rw [kx_en_o hkd, kx_en_o hkd]
      refine congrArg _ (congrArg _ (List.map_congr_left fun q hq => ?_))
      obtain ⟨f, j⟩ := q
      have hj : (kx_fts n)[j]? = some f := by
        have := List.mem_zipIdx_iff_getElem?.mp hq
        simpa using this
      have hjl : j < 24 := by
        have h1 := (List.getElem?_eq_some_iff.mp hj).1
        have h2 := kx_ftlen n
        omega
      unfold kx_sv
      cases f with
      | none => rfl
      | some g =>
        have ht : (kx_tgt t o j).isSome = true := by rw [kx_tgt_o hkd hj]; rfl
        have hne : I t o j ≠ 0 := by
          rcases hI (t, o) hm j hjl ht with q | q
          · exact q
          · have q1 : t = 39 := q.1
            rw [q1] at hkd
            have h41 : kx_kind 39 = (4, 8) := by decide +kernel
            rw [h41] at hkd
            exact absurd (Prod.mk.inj hkd).1 (by omega)
        show kx_rv ad (I, J, none) t o j g.1 (g.2 o) = kx_rv ad (I, J, some kx_NC) t o j g.1 (g.2 o)
        unfold kx_rv
        exact (if_neg hne).symm
    rw [e]
    exact h
  | 1, hkd => rw [kx_en_i hkd] at h ⊢; exact h
  | 2, hkd => rw [kx_en_l hkd] at h ⊢; exact h
  | 3, hkd => rw [kx_en_z hkd] at h ⊢; exact h
  | 4, hkd =>
    rw [kx_en_r hkd] at h ⊢
    have hn : n = 8 := by
      have h6 : ∀ q ∈ kx_cells, (kx_kind q.1).1 = 4 → (kx_kind q.1).2 = 8 := by decide +kernel
      have := h6 _ hm (by rw [hkd])
      rw [hkd] at this
      exact this
    have h' : H[a]? = some (vp_cell C4.2.2.2 (n, .inr (.inr (.inr (.inr fun j => kx_ro ad (I, J, some kx_NC) t o j kx_tSh j))))) := h
    show H[a]? = some (vp_cell C4.2.2.2 (n, .inr (.inr (.inr (.inr fun j => kx_ro ad (I, J, none) t o j kx_tSh j)))))
    rw [h', vp_cell_q, vp_cell_q]
    refine congrArg some (kx_arrE _ _ fun j hj => ?_)
    have hne : I t o j ≠ 0 := by
      rcases hI (t, o) hm j (by omega) (by rw [kx_tgt_r hkd]; rfl) with q | q
      · exact q
      · have := q.2
        omega
    show va_rf (kx_ro ad (I, J, some kx_NC) t o j kx_tSh j) = va_rf (kx_ro ad (I, J, none) t o j kx_tSh j)
    unfold kx_ro
    exact congrArg va_rf (if_neg hne)
  | k + 5, hkd =>
    exfalso
    have h9 : kx_kind t = (9, n) := by rw [hkd, kx_kind5 t k n hkd]
    have h6 : ∀ q ∈ kx_cells, (kx_kind q.1).1 ≠ 9 := by decide +kernel
    exact h6 _ hm (by rw [h9])
theorem kx_frz {p : Program} {l : Launch} {e : Env} {R : Room} {s : State} {m : MethodId} {args : Array Value} {below : List Frame} {meth : Method} {c : Code} {Q : State → Prop} {D : va_G} {C4 : kx_C} {A : Nat → Prop} {cnt0 : Nat} {ad0 : Nat → Nat} {nL gx gs : Nat} {P : kx_P} {pc : Nat} {L : kx_L} {st : List kx_V} {I : kI} {J : kJ} (hI : kx_all I) (h : kx_W p l e R s m args below meth c Q D C4 A cnt0 ad0 nL gx gs P pc L st (I, J, none)) : kx_W p l e R s m args below meth c Q D C4 A cnt0 ad0 nL gx gs P pc L st (I, J, some kx_NC) := by
  intro ad H locs ls ha hc hv hst hL hP hD hS hl
  refine h ad H locs ls ha hc trivial hst hL (fun k q hq => ?_) ?_ hS hl
  · obtain ⟨hk, t, o, hc, rfl⟩ := kx_ws_get hq
    have z := hP k _ (kx_ws_k (S := (I, J, some kx_NC)) hk hc)
    exact kx_frz_at (List.mem_of_getElem? hc) hI z
  · refine ⟨fun i j x y hx hy e => ?_, fun k q hq => ?_⟩
    · obtain ⟨hk, t, o, hc, rfl⟩ := kx_ws_get hx
      obtain ⟨hk2, t2, o2, hc2, rfl⟩ := kx_ws_get hy
      exact hD.1 i j (ad i, kx_en C4 ad (I, J, some kx_NC) t o) (ad j, kx_en C4 ad (I, J, some kx_NC) t2 o2) (kx_ws_k (S := (I, J, some kx_NC)) hk hc) (kx_ws_k (S := (I, J, some kx_NC)) hk2 hc2) e
    · obtain ⟨hk, t, o, hc, rfl⟩ := kx_ws_get hq
      exact hD.2 k (ad k, kx_en C4 ad (I, J, some kx_NC) t o) (kx_ws_k (S := (I, J, some kx_NC)) hk hc)
/-- where the law's turns begin, the objects are all made -/
def ki_frz (t : kx_T) : kx_T := fun P K L st S => kx_all S.1 ∧ S.2.2 = some kx_NC ∧ t P K L st (S.1, S.2.1, none)
theorem ks_frz {p : Program} {l : Launch} {e : Env} {R : Room} {s : State} {m : MethodId} {args : Array Value} {below : List Frame} {meth : Method} {c : Code} {Q : State → Prop} {D : va_G} {C4 : kx_C} {A : Nat → Prop} {cnt0 : Nat} {ad0 : Nat → Nat} {nL gx gs : Nat} {P P' : kx_P} {pc : Nat} {t : kx_T} (h : kx_Snd (kx_W p l e R s m args below meth c Q D C4 A cnt0 ad0 nL gx gs P) P' pc t) : kx_Snd (kx_W p l e R s m args below meth c Q D C4 A cnt0 ad0 nL gx gs P) P' pc (ki_frz t) := by
  intro K hK L st S g9
  obtain ⟨I, J, md⟩ := S
  obtain ⟨h1, h2, h3⟩ := g9
  have h2' : md = some kx_NC := h2
  subst h2'
  exact kx_frz h1 (h K hK L st _ h3)

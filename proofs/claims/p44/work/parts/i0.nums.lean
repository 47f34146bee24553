/-! the law's own numbers -/
def la (xs : Nat → Int32) (L j : Nat) : Int32 := if j < L then xs j else 0
def lRuns (xs : Nat → Int32) (L : Nat) : Int32 := 1 + (la xs L 0 &&& 3)
def lKeep (xs : Nat → Int32) (L : Nat) : Int32 := 1 + (la xs L 1 &&& 3)
def lRk (xs : Nat → Int32) (L : Nat) (k : Int32) : Int32 := (la xs L 1 >>> ((2 + 2 * k) &&& 31)) &&& 3
def lRank (xs : Nat → Int32) (L : Nat) (k : Int32) : Int32 := lRk xs L k - lRk xs L k / 3 * 3
def lDa (xs : Nat → Int32) (L : Nat) : Int32 := (la xs L 1 >>> ((10 : Int32) &&& 31)) &&& 15
def lDawn (xs : Nat → Int32) (L : Nat) : Int32 := lDa xs L - lDa xs L / 13 * 13
def lDu (xs : Nat → Int32) (L : Nat) : Int32 := (la xs L 1 >>> ((14 : Int32) &&& 31)) &&& 15
def lDusk (xs : Nat → Int32) (L : Nat) : Int32 := 13 + (lDu xs L - lDu xs L / 12 * 12)
def lWick (xs : Nat → Int32) (L : Nat) : Int32 := 1 + ((la xs L 1 >>> ((18 : Int32) &&& 31)) &&& 3)
def lOil (xs : Nat → Int32) (L : Nat) : Int32 := la xs L 5 &&& 127
def lCoal (xs : Nat → Int32) (L : Nat) : Int32 := (la xs L 5 >>> ((7 : Int32) &&& 31)) &&& 31
def lW0 (xs : Nat → Int32) (L h : Nat) : Int32 := (la xs L (2 + h / 8) >>> ((3 * (nI h - nI h / 8 * 8)) &&& 31)) &&& 7
def lWatch (xs : Nat → Int32) (L h : Nat) : Int32 := if lW0 xs L h < lKeep xs L then lW0 xs L h else if 6 < lW0 xs L h then -1 else lW0 xs L h - lW0 xs L h / lKeep xs L * lKeep xs L
theorem lKeep_v (xs : Nat → Int32) (L : Nat) : ∃ k, 1 ≤ k ∧ k ≤ 4 ∧ lKeep xs L = nI k := by
  obtain ⟨j, hj, e⟩ := pk_andE (la xs L 1) (m := 3) 2 (by decide)
  exact ⟨1 + j, by omega, by omega, by unfold lKeep; rw [e]; exact nI_add 1 j⟩
theorem lKeep_ne (xs : Nat → Int32) (L : Nat) : ¬ lKeep xs L = 0 := by
  obtain ⟨k, h1, h2, e⟩ := lKeep_v xs L
  rw [e]
  exact nI_ne0 (by omega) (by omega)
theorem lw_ix {h : Nat} (hh : h < 2 ^ 30) : 2 + nI h / 8 = nI (2 + h / 8) := by
  have e : nI h / 8 = nI (h / 8) := pk_div (a := h) (d := 8) (by omega) (by decide) (by decide)
  rw [e]
  exact nI_add 2 (h / 8)
set_option maxRecDepth 100000 in
set_option maxHeartbeats 4000000 in
theorem cl_at (l : Launch) {D : va_G} {cB : ClassId} {b L : Nat} {xs : Nat → Int32} (hL : L < 2 ^ 31) {j : Nat} (hj : j < 2 ^ 31) : sq_ok l yL_at cL_at 2 (some .int) ({ frames := 0, cells := 0, slots := 0, locals := 0 }) D [(cB, .byte)] (sj_X b L xs) [.ref b, .int (nI j)] [] (fun r w => r = some (.int (la xs L j)) ∧ w = []) 0 0 := by
  refine sq_met (by decide +kernel) (Nat.le_of_ble_eq_true rfl) ?_
  intro p e s m args below meth c A ls hC hlocks hr hin hP hK hD hA hX hl
  obtain ⟨hx, hb, hml, hown, hts⟩ := id hC
  have hS : va_S A s.heap s.heap [] := va_S.rf
  have hl : lv_has ls 2 [(0, .ref b), (1, .int (nI j))] := hl
  refine lv_iload_n hx hb (by decide +kernel : decode cL_at 0 = .ok (.iload_n 1, 1)) rfl (lv_at hl 1 rfl) ?_
  refine lv_aload_n hx hb (by decide +kernel : decode cL_at 1 = .ok (.aload_n 0, 1)) rfl (lv_at hl 0 rfl) ?_
  refine va_slen hx hb hX.1 hX.2.1 hX.2.2 hS (by decide +kernel : decode cL_at 2 = .ok (.arraylength, 1)) ?_
  refine lv_icmp_ge (tgt := 12) hx hb (by decide +kernel : decode cL_at 3 = .ok (.if_icmp .ge 9, 3)) (by decide) (fun hc => ?_) (fun hc => ?_)
  · refine lv_iconst (v := 0) hx hb (by decide +kernel : decode cL_at 12 = .ok (.iconst 0, 1)) (by decide) ?_
    have e9 : la xs L j = 0 := if_neg (fun q => by have := (nI_leI hL hj).mp hc; omega)
    exact sq_iret hx hb hlocks hr (⟨by rw [e9], rfl⟩) hP hD hS (by decide +kernel : decode cL_at 13 = .ok (.ireturn, 1))
  · refine lv_aload_n hx hb (by decide +kernel : decode cL_at 6 = .ok (.aload_n 0, 1)) rfl (lv_at hl 0 rfl) ?_
    refine lv_iload_n hx hb (by decide +kernel : decode cL_at 7 = .ok (.iload_n 1, 1)) rfl (lv_at hl 1 rfl) ?_
    have h9 : j < L := Nat.not_le.mp (fun z => hc ((nI_leI hL hj).mpr z))
    refine va_sld hx hb hX.1 hX.2.1 hX.2.2 hS (vp_in_nI h9 hL) (by decide +kernel : decode cL_at 8 = .ok (.iaload, 1)) ?_
    refine lv_goto (tgt := 13) hx hb (by decide +kernel : decode cL_at 9 = .ok (.goto 4, 3)) (by decide) ?_
    have e9 : la xs L j = xs (nI j).toNatClampNeg := by rw [nI_clamp hj]; exact if_pos h9
    exact sq_iret hx hb hlocks hr (⟨by rw [e9], rfl⟩) hP hD hS (by decide +kernel : decode cL_at 13 = .ok (.ireturn, 1))
set_option maxRecDepth 100000 in
set_option maxHeartbeats 4000000 in
theorem cl_runs (l : Launch) {D : va_G} {cB : ClassId} {b L : Nat} {xs : Nat → Int32} (hL : L < 2 ^ 31) : sq_ok l yL_runs cL_runs 1 (some .int) ({ frames := 1, cells := 0, slots := 0, locals := 21 }) D [(cB, .byte)] (sj_X b L xs) [.ref b] [] (fun r w => r = some (.int (lRuns xs L)) ∧ w = []) 0 0 := by
  refine sq_met (by decide +kernel) (Nat.le_of_ble_eq_true rfl) ?_
  intro p e s m args below meth c A ls hC hlocks hr hin hP hK hD hA hX hl
  obtain ⟨hx, hb, hml, hown, hts⟩ := id hC
  have hS : va_S A s.heap s.heap [] := va_S.rf
  have hl : lv_has ls 1 [(0, .ref b)] := hl
  refine lv_iconst (v := 1) hx hb (by decide +kernel : decode cL_runs 0 = .ok (.iconst 1, 1)) (by decide) ?_
  refine lv_aload_n hx hb (by decide +kernel : decode cL_runs 1 = .ok (.aload_n 0, 1)) rfl (lv_at hl 0 rfl) ?_
  refine lv_iconst (v := 0) hx hb (by decide +kernel : decode cL_runs 2 = .ok (.iconst 0, 1)) (by decide) ?_
  refine sq_cs (n := 2) (wr := []) hC (cl_at l (b := b) (L := L) (xs := xs) (j := 0) hL (by decide)) ⟨rfl, rfl⟩ kw_350 kw_351 kw_352 kw_0 (by decide +kernel) rfl [] [] rfl rfl rfl rfl (by decide) (sj_EX b L xs) hK hP hD hS hA (sq_down (sj_EX b L xs) hX hS (va_free hD hS hA [] rfl)) hl.1 rfl (Nat.le_of_ble_eq_true rfl) ⟨Nat.le_of_ble_eq_true rfl, Nat.le_of_ble_eq_true rfl⟩ ⟨Nat.le_of_ble_eq_true rfl, Nat.le_of_ble_eq_true rfl⟩ (by decide +kernel : decode cL_runs 3 = .ok (.invokestatic 23, 3)) (fun v9 w9 H locs h9 hP hD hS => ?_)
  obtain ⟨rfl, rfl⟩ := h9
  have hP : va_P D vwCl [] H := hP
  have hD : va_D A [] := hD
  refine W.eq (g2 := F0 m 6 ls [.int (la xs L 0), .int (1)]) rfl ?_
  refine lv_iconst (v := 3) hx hb (by decide +kernel : decode cL_runs 6 = .ok (.iconst 3, 1)) (by decide) ?_
  refine lv_iand hx hb (by decide +kernel : decode cL_runs 7 = .ok (.iand, 1)) ?_
  refine lv_iadd hx hb (by decide +kernel : decode cL_runs 8 = .ok (.iadd, 1)) ?_
  exact sq_iret hx hb hlocks hr (⟨rfl, rfl⟩) hP hD hS (by decide +kernel : decode cL_runs 9 = .ok (.ireturn, 1))
set_option maxRecDepth 100000 in
set_option maxHeartbeats 4000000 in
theorem cl_keepers (l : Launch) {D : va_G} {cB : ClassId} {b L : Nat} {xs : Nat → Int32} (hL : L < 2 ^ 31) : sq_ok l yL_keepers cL_keepers 1 (some .int) ({ frames := 1, cells := 0, slots := 0, locals := 21 }) D [(cB, .byte)] (sj_X b L xs) [.ref b] [] (fun r w => r = some (.int (lKeep xs L)) ∧ w = []) 0 0 := by
  refine sq_met (by decide +kernel) (Nat.le_of_ble_eq_true rfl) ?_
  intro p e s m args below meth c A ls hC hlocks hr hin hP hK hD hA hX hl
  obtain ⟨hx, hb, hml, hown, hts⟩ := id hC
  have hS : va_S A s.heap s.heap [] := va_S.rf
  have hl : lv_has ls 1 [(0, .ref b)] := hl
  refine lv_iconst (v := 1) hx hb (by decide +kernel : decode cL_keepers 0 = .ok (.iconst 1, 1)) (by decide) ?_
  refine lv_aload_n hx hb (by decide +kernel : decode cL_keepers 1 = .ok (.aload_n 0, 1)) rfl (lv_at hl 0 rfl) ?_
  refine lv_iconst (v := 1) hx hb (by decide +kernel : decode cL_keepers 2 = .ok (.iconst 1, 1)) (by decide) ?_
  refine sq_cs (n := 2) (wr := []) hC (cl_at l (b := b) (L := L) (xs := xs) (j := 1) hL (by decide)) ⟨rfl, rfl⟩ kw_350 kw_351 kw_352 kw_0 (by decide +kernel) rfl [] [] rfl rfl rfl rfl (by decide) (sj_EX b L xs) hK hP hD hS hA (sq_down (sj_EX b L xs) hX hS (va_free hD hS hA [] rfl)) hl.1 rfl (Nat.le_of_ble_eq_true rfl) ⟨Nat.le_of_ble_eq_true rfl, Nat.le_of_ble_eq_true rfl⟩ ⟨Nat.le_of_ble_eq_true rfl, Nat.le_of_ble_eq_true rfl⟩ (by decide +kernel : decode cL_keepers 3 = .ok (.invokestatic 23, 3)) (fun v9 w9 H locs h9 hP hD hS => ?_)
  obtain ⟨rfl, rfl⟩ := h9
  have hP : va_P D vwCl [] H := hP
  have hD : va_D A [] := hD
  refine W.eq (g2 := F0 m 6 ls [.int (la xs L 1), .int (1)]) rfl ?_
  refine lv_iconst (v := 3) hx hb (by decide +kernel : decode cL_keepers 6 = .ok (.iconst 3, 1)) (by decide) ?_
  refine lv_iand hx hb (by decide +kernel : decode cL_keepers 7 = .ok (.iand, 1)) ?_
  refine lv_iadd hx hb (by decide +kernel : decode cL_keepers 8 = .ok (.iadd, 1)) ?_
  exact sq_iret hx hb hlocks hr (⟨rfl, rfl⟩) hP hD hS (by decide +kernel : decode cL_keepers 9 = .ok (.ireturn, 1))
set_option maxRecDepth 100000 in
set_option maxHeartbeats 4000000 in
theorem cl_rank (l : Launch) {D : va_G} {cB : ClassId} {b L : Nat} {xs : Nat → Int32} (hL : L < 2 ^ 31) (k : Int32) : sq_ok l yL_rank cL_rank 2 (some .int) ({ frames := 1, cells := 0, slots := 0, locals := 21 }) D [(cB, .byte)] (sj_X b L xs) [.ref b, .int k] [] (fun r w => r = some (.int (lRank xs L k)) ∧ w = []) 0 0 := by
  refine sq_met (by decide +kernel) (Nat.le_of_ble_eq_true rfl) ?_
  intro p e s m args below meth c A ls hC hlocks hr hin hP hK hD hA hX hl
  obtain ⟨hx, hb, hml, hown, hts⟩ := id hC
  have hS : va_S A s.heap s.heap [] := va_S.rf
  have hl : lv_has ls 2 [(0, .ref b), (1, .int k)] := hl
  refine lv_aload_n hx hb (by decide +kernel : decode cL_rank 0 = .ok (.aload_n 0, 1)) rfl (lv_at hl 0 rfl) ?_
  refine lv_iconst (v := 1) hx hb (by decide +kernel : decode cL_rank 1 = .ok (.iconst 1, 1)) (by decide) ?_
  refine sq_cs (n := 2) (wr := []) hC (cl_at l (b := b) (L := L) (xs := xs) (j := 1) hL (by decide)) ⟨rfl, rfl⟩ kw_350 kw_351 kw_352 kw_0 (by decide +kernel) rfl [] [] rfl rfl rfl rfl (by decide) (sj_EX b L xs) hK hP hD hS hA (sq_down (sj_EX b L xs) hX hS (va_free hD hS hA [] rfl)) hl.1 rfl (Nat.le_of_ble_eq_true rfl) ⟨Nat.le_of_ble_eq_true rfl, Nat.le_of_ble_eq_true rfl⟩ ⟨Nat.le_of_ble_eq_true rfl, Nat.le_of_ble_eq_true rfl⟩ (by decide +kernel : decode cL_rank 2 = .ok (.invokestatic 23, 3)) (fun v9 w9 H locs h9 hP hD hS => ?_)
  obtain ⟨rfl, rfl⟩ := h9
  have hP : va_P D vwCl [] H := hP
  have hD : va_D A [] := hD
  refine W.eq (g2 := F0 m 5 ls [.int (la xs L 1)]) rfl ?_
  refine lv_iconst (v := 2) hx hb (by decide +kernel : decode cL_rank 5 = .ok (.iconst 2, 1)) (by decide) ?_
  refine lv_iconst (v := 2) hx hb (by decide +kernel : decode cL_rank 6 = .ok (.iconst 2, 1)) (by decide) ?_
  refine lv_iload_n hx hb (by decide +kernel : decode cL_rank 7 = .ok (.iload_n 1, 1)) rfl (lv_at hl 1 rfl) ?_
  refine lv_imul hx hb (by decide +kernel : decode cL_rank 8 = .ok (.imul, 1)) ?_
  refine lv_iadd hx hb (by decide +kernel : decode cL_rank 9 = .ok (.iadd, 1)) ?_
  refine lv_ishr hx hb (by decide +kernel : decode cL_rank 10 = .ok (.ishr, 1)) ?_
  refine lv_iconst (v := 3) hx hb (by decide +kernel : decode cL_rank 11 = .ok (.iconst 3, 1)) (by decide) ?_
  refine lv_iand hx hb (by decide +kernel : decode cL_rank 12 = .ok (.iand, 1)) ?_
  refine lv_iconst (v := 3) hx hb (by decide +kernel : decode cL_rank 13 = .ok (.iconst 3, 1)) (by decide) ?_
  refine lv_irem hx hb (by decide +kernel : decode cL_rank 14 = .ok (.irem, 1)) (by decide) ?_
  exact sq_iret hx hb hlocks hr (⟨rfl, rfl⟩) hP hD hS (by decide +kernel : decode cL_rank 15 = .ok (.ireturn, 1))
set_option maxRecDepth 100000 in
set_option maxHeartbeats 4000000 in
theorem cl_dawn (l : Launch) {D : va_G} {cB : ClassId} {b L : Nat} {xs : Nat → Int32} (hL : L < 2 ^ 31) : sq_ok l yL_dawn cL_dawn 1 (some .int) ({ frames := 1, cells := 0, slots := 0, locals := 21 }) D [(cB, .byte)] (sj_X b L xs) [.ref b] [] (fun r w => r = some (.int (lDawn xs L)) ∧ w = []) 0 0 := by
  refine sq_met (by decide +kernel) (Nat.le_of_ble_eq_true rfl) ?_
  intro p e s m args below meth c A ls hC hlocks hr hin hP hK hD hA hX hl
  obtain ⟨hx, hb, hml, hown, hts⟩ := id hC
  have hS : va_S A s.heap s.heap [] := va_S.rf
  have hl : lv_has ls 1 [(0, .ref b)] := hl
  refine lv_aload_n hx hb (by decide +kernel : decode cL_dawn 0 = .ok (.aload_n 0, 1)) rfl (lv_at hl 0 rfl) ?_
  refine lv_iconst (v := 1) hx hb (by decide +kernel : decode cL_dawn 1 = .ok (.iconst 1, 1)) (by decide) ?_
  refine sq_cs (n := 2) (wr := []) hC (cl_at l (b := b) (L := L) (xs := xs) (j := 1) hL (by decide)) ⟨rfl, rfl⟩ kw_350 kw_351 kw_352 kw_0 (by decide +kernel) rfl [] [] rfl rfl rfl rfl (by decide) (sj_EX b L xs) hK hP hD hS hA (sq_down (sj_EX b L xs) hX hS (va_free hD hS hA [] rfl)) hl.1 rfl (Nat.le_of_ble_eq_true rfl) ⟨Nat.le_of_ble_eq_true rfl, Nat.le_of_ble_eq_true rfl⟩ ⟨Nat.le_of_ble_eq_true rfl, Nat.le_of_ble_eq_true rfl⟩ (by decide +kernel : decode cL_dawn 2 = .ok (.invokestatic 23, 3)) (fun v9 w9 H locs h9 hP hD hS => ?_)
  obtain ⟨rfl, rfl⟩ := h9
  have hP : va_P D vwCl [] H := hP
  have hD : va_D A [] := hD
  refine W.eq (g2 := F0 m 5 ls [.int (la xs L 1)]) rfl ?_
  refine lv_bipush (v := 10) hx hb (by decide +kernel : decode cL_dawn 5 = .ok (.bipush 10, 2)) (by decide) ?_
  refine lv_ishr hx hb (by decide +kernel : decode cL_dawn 7 = .ok (.ishr, 1)) ?_
  refine lv_bipush (v := 15) hx hb (by decide +kernel : decode cL_dawn 8 = .ok (.bipush 15, 2)) (by decide) ?_
  refine lv_iand hx hb (by decide +kernel : decode cL_dawn 10 = .ok (.iand, 1)) ?_
  refine lv_bipush (v := 13) hx hb (by decide +kernel : decode cL_dawn 11 = .ok (.bipush 13, 2)) (by decide) ?_
  refine lv_irem hx hb (by decide +kernel : decode cL_dawn 13 = .ok (.irem, 1)) (by decide) ?_
  exact sq_iret hx hb hlocks hr (⟨rfl, rfl⟩) hP hD hS (by decide +kernel : decode cL_dawn 14 = .ok (.ireturn, 1))
set_option maxRecDepth 100000 in
set_option maxHeartbeats 4000000 in
theorem cl_dusk (l : Launch) {D : va_G} {cB : ClassId} {b L : Nat} {xs : Nat → Int32} (hL : L < 2 ^ 31) : sq_ok l yL_dusk cL_dusk 1 (some .int) ({ frames := 1, cells := 0, slots := 0, locals := 21 }) D [(cB, .byte)] (sj_X b L xs) [.ref b] [] (fun r w => r = some (.int (lDusk xs L)) ∧ w = []) 0 0 := by
  refine sq_met (by decide +kernel) (Nat.le_of_ble_eq_true rfl) ?_
  intro p e s m args below meth c A ls hC hlocks hr hin hP hK hD hA hX hl
  obtain ⟨hx, hb, hml, hown, hts⟩ := id hC
  have hS : va_S A s.heap s.heap [] := va_S.rf
  have hl : lv_has ls 1 [(0, .ref b)] := hl
  refine lv_bipush (v := 13) hx hb (by decide +kernel : decode cL_dusk 0 = .ok (.bipush 13, 2)) (by decide) ?_
  refine lv_aload_n hx hb (by decide +kernel : decode cL_dusk 2 = .ok (.aload_n 0, 1)) rfl (lv_at hl 0 rfl) ?_
  refine lv_iconst (v := 1) hx hb (by decide +kernel : decode cL_dusk 3 = .ok (.iconst 1, 1)) (by decide) ?_
  refine sq_cs (n := 2) (wr := []) hC (cl_at l (b := b) (L := L) (xs := xs) (j := 1) hL (by decide)) ⟨rfl, rfl⟩ kw_350 kw_351 kw_352 kw_0 (by decide +kernel) rfl [] [] rfl rfl rfl rfl (by decide) (sj_EX b L xs) hK hP hD hS hA (sq_down (sj_EX b L xs) hX hS (va_free hD hS hA [] rfl)) hl.1 rfl (Nat.le_of_ble_eq_true rfl) ⟨Nat.le_of_ble_eq_true rfl, Nat.le_of_ble_eq_true rfl⟩ ⟨Nat.le_of_ble_eq_true rfl, Nat.le_of_ble_eq_true rfl⟩ (by decide +kernel : decode cL_dusk 4 = .ok (.invokestatic 23, 3)) (fun v9 w9 H locs h9 hP hD hS => ?_)
  obtain ⟨rfl, rfl⟩ := h9
  have hP : va_P D vwCl [] H := hP
  have hD : va_D A [] := hD
  refine W.eq (g2 := F0 m 7 ls [.int (la xs L 1), .int (13)]) rfl ?_
  refine lv_bipush (v := 14) hx hb (by decide +kernel : decode cL_dusk 7 = .ok (.bipush 14, 2)) (by decide) ?_
  refine lv_ishr hx hb (by decide +kernel : decode cL_dusk 9 = .ok (.ishr, 1)) ?_
  refine lv_bipush (v := 15) hx hb (by decide +kernel : decode cL_dusk 10 = .ok (.bipush 15, 2)) (by decide) ?_
  refine lv_iand hx hb (by decide +kernel : decode cL_dusk 12 = .ok (.iand, 1)) ?_
  refine lv_bipush (v := 12) hx hb (by decide +kernel : decode cL_dusk 13 = .ok (.bipush 12, 2)) (by decide) ?_
  refine lv_irem hx hb (by decide +kernel : decode cL_dusk 15 = .ok (.irem, 1)) (by decide) ?_
  refine lv_iadd hx hb (by decide +kernel : decode cL_dusk 16 = .ok (.iadd, 1)) ?_
  exact sq_iret hx hb hlocks hr (⟨rfl, rfl⟩) hP hD hS (by decide +kernel : decode cL_dusk 17 = .ok (.ireturn, 1))
set_option maxRecDepth 100000 in
set_option maxHeartbeats 4000000 in
theorem cl_wick (l : Launch) {D : va_G} {cB : ClassId} {b L : Nat} {xs : Nat → Int32} (hL : L < 2 ^ 31) : sq_ok l yL_wick cL_wick 1 (some .int) ({ frames := 1, cells := 0, slots := 0, locals := 21 }) D [(cB, .byte)] (sj_X b L xs) [.ref b] [] (fun r w => r = some (.int (lWick xs L)) ∧ w = []) 0 0 := by
  refine sq_met (by decide +kernel) (Nat.le_of_ble_eq_true rfl) ?_
  intro p e s m args below meth c A ls hC hlocks hr hin hP hK hD hA hX hl
  obtain ⟨hx, hb, hml, hown, hts⟩ := id hC
  have hS : va_S A s.heap s.heap [] := va_S.rf
  have hl : lv_has ls 1 [(0, .ref b)] := hl
  refine lv_iconst (v := 1) hx hb (by decide +kernel : decode cL_wick 0 = .ok (.iconst 1, 1)) (by decide) ?_
  refine lv_aload_n hx hb (by decide +kernel : decode cL_wick 1 = .ok (.aload_n 0, 1)) rfl (lv_at hl 0 rfl) ?_
  refine lv_iconst (v := 1) hx hb (by decide +kernel : decode cL_wick 2 = .ok (.iconst 1, 1)) (by decide) ?_
  refine sq_cs (n := 2) (wr := []) hC (cl_at l (b := b) (L := L) (xs := xs) (j := 1) hL (by decide)) ⟨rfl, rfl⟩ kw_350 kw_351 kw_352 kw_0 (by decide +kernel) rfl [] [] rfl rfl rfl rfl (by decide) (sj_EX b L xs) hK hP hD hS hA (sq_down (sj_EX b L xs) hX hS (va_free hD hS hA [] rfl)) hl.1 rfl (Nat.le_of_ble_eq_true rfl) ⟨Nat.le_of_ble_eq_true rfl, Nat.le_of_ble_eq_true rfl⟩ ⟨Nat.le_of_ble_eq_true rfl, Nat.le_of_ble_eq_true rfl⟩ (by decide +kernel : decode cL_wick 3 = .ok (.invokestatic 23, 3)) (fun v9 w9 H locs h9 hP hD hS => ?_)
  obtain ⟨rfl, rfl⟩ := h9
  have hP : va_P D vwCl [] H := hP
  have hD : va_D A [] := hD
  refine W.eq (g2 := F0 m 6 ls [.int (la xs L 1), .int (1)]) rfl ?_
  refine lv_bipush (v := 18) hx hb (by decide +kernel : decode cL_wick 6 = .ok (.bipush 18, 2)) (by decide) ?_
  refine lv_ishr hx hb (by decide +kernel : decode cL_wick 8 = .ok (.ishr, 1)) ?_
  refine lv_iconst (v := 3) hx hb (by decide +kernel : decode cL_wick 9 = .ok (.iconst 3, 1)) (by decide) ?_
  refine lv_iand hx hb (by decide +kernel : decode cL_wick 10 = .ok (.iand, 1)) ?_
  refine lv_iadd hx hb (by decide +kernel : decode cL_wick 11 = .ok (.iadd, 1)) ?_
  exact sq_iret hx hb hlocks hr (⟨rfl, rfl⟩) hP hD hS (by decide +kernel : decode cL_wick 12 = .ok (.ireturn, 1))
set_option maxRecDepth 100000 in
set_option maxHeartbeats 4000000 in
theorem cl_oil (l : Launch) {D : va_G} {cB : ClassId} {b L : Nat} {xs : Nat → Int32} (hL : L < 2 ^ 31) : sq_ok l yL_oil cL_oil 1 (some .int) ({ frames := 1, cells := 0, slots := 0, locals := 21 }) D [(cB, .byte)] (sj_X b L xs) [.ref b] [] (fun r w => r = some (.int (lOil xs L)) ∧ w = []) 0 0 := by
  refine sq_met (by decide +kernel) (Nat.le_of_ble_eq_true rfl) ?_
  intro p e s m args below meth c A ls hC hlocks hr hin hP hK hD hA hX hl
  obtain ⟨hx, hb, hml, hown, hts⟩ := id hC
  have hS : va_S A s.heap s.heap [] := va_S.rf
  have hl : lv_has ls 1 [(0, .ref b)] := hl
  refine lv_aload_n hx hb (by decide +kernel : decode cL_oil 0 = .ok (.aload_n 0, 1)) rfl (lv_at hl 0 rfl) ?_
  refine lv_iconst (v := 5) hx hb (by decide +kernel : decode cL_oil 1 = .ok (.iconst 5, 1)) (by decide) ?_
  refine sq_cs (n := 2) (wr := []) hC (cl_at l (b := b) (L := L) (xs := xs) (j := 5) hL (by decide)) ⟨rfl, rfl⟩ kw_350 kw_351 kw_352 kw_0 (by decide +kernel) rfl [] [] rfl rfl rfl rfl (by decide) (sj_EX b L xs) hK hP hD hS hA (sq_down (sj_EX b L xs) hX hS (va_free hD hS hA [] rfl)) hl.1 rfl (Nat.le_of_ble_eq_true rfl) ⟨Nat.le_of_ble_eq_true rfl, Nat.le_of_ble_eq_true rfl⟩ ⟨Nat.le_of_ble_eq_true rfl, Nat.le_of_ble_eq_true rfl⟩ (by decide +kernel : decode cL_oil 2 = .ok (.invokestatic 23, 3)) (fun v9 w9 H locs h9 hP hD hS => ?_)
  obtain ⟨rfl, rfl⟩ := h9
  have hP : va_P D vwCl [] H := hP
  have hD : va_D A [] := hD
  refine W.eq (g2 := F0 m 5 ls [.int (la xs L 5)]) rfl ?_
  refine lv_bipush (v := 127) hx hb (by decide +kernel : decode cL_oil 5 = .ok (.bipush 127, 2)) (by decide) ?_
  refine lv_iand hx hb (by decide +kernel : decode cL_oil 7 = .ok (.iand, 1)) ?_
  exact sq_iret hx hb hlocks hr (⟨rfl, rfl⟩) hP hD hS (by decide +kernel : decode cL_oil 8 = .ok (.ireturn, 1))
set_option maxRecDepth 100000 in
set_option maxHeartbeats 4000000 in
theorem cl_coal (l : Launch) {D : va_G} {cB : ClassId} {b L : Nat} {xs : Nat → Int32} (hL : L < 2 ^ 31) : sq_ok l yL_coal cL_coal 1 (some .int) ({ frames := 1, cells := 0, slots := 0, locals := 21 }) D [(cB, .byte)] (sj_X b L xs) [.ref b] [] (fun r w => r = some (.int (lCoal xs L)) ∧ w = []) 0 0 := by
  refine sq_met (by decide +kernel) (Nat.le_of_ble_eq_true rfl) ?_
  intro p e s m args below meth c A ls hC hlocks hr hin hP hK hD hA hX hl
  obtain ⟨hx, hb, hml, hown, hts⟩ := id hC
  have hS : va_S A s.heap s.heap [] := va_S.rf
  have hl : lv_has ls 1 [(0, .ref b)] := hl
  refine lv_aload_n hx hb (by decide +kernel : decode cL_coal 0 = .ok (.aload_n 0, 1)) rfl (lv_at hl 0 rfl) ?_
  refine lv_iconst (v := 5) hx hb (by decide +kernel : decode cL_coal 1 = .ok (.iconst 5, 1)) (by decide) ?_
  refine sq_cs (n := 2) (wr := []) hC (cl_at l (b := b) (L := L) (xs := xs) (j := 5) hL (by decide)) ⟨rfl, rfl⟩ kw_350 kw_351 kw_352 kw_0 (by decide +kernel) rfl [] [] rfl rfl rfl rfl (by decide) (sj_EX b L xs) hK hP hD hS hA (sq_down (sj_EX b L xs) hX hS (va_free hD hS hA [] rfl)) hl.1 rfl (Nat.le_of_ble_eq_true rfl) ⟨Nat.le_of_ble_eq_true rfl, Nat.le_of_ble_eq_true rfl⟩ ⟨Nat.le_of_ble_eq_true rfl, Nat.le_of_ble_eq_true rfl⟩ (by decide +kernel : decode cL_coal 2 = .ok (.invokestatic 23, 3)) (fun v9 w9 H locs h9 hP hD hS => ?_)
  obtain ⟨rfl, rfl⟩ := h9
  have hP : va_P D vwCl [] H := hP
  have hD : va_D A [] := hD
  refine W.eq (g2 := F0 m 5 ls [.int (la xs L 5)]) rfl ?_
  refine lv_bipush (v := 7) hx hb (by decide +kernel : decode cL_coal 5 = .ok (.bipush 7, 2)) (by decide) ?_
  refine lv_ishr hx hb (by decide +kernel : decode cL_coal 7 = .ok (.ishr, 1)) ?_
  refine lv_bipush (v := 31) hx hb (by decide +kernel : decode cL_coal 8 = .ok (.bipush 31, 2)) (by decide) ?_
  refine lv_iand hx hb (by decide +kernel : decode cL_coal 10 = .ok (.iand, 1)) ?_
  exact sq_iret hx hb hlocks hr (⟨rfl, rfl⟩) hP hD hS (by decide +kernel : decode cL_coal 11 = .ok (.ireturn, 1))
set_option maxRecDepth 100000 in
set_option maxHeartbeats 4000000 in
theorem cl_weather (l : Launch) {D : va_G} {cB : ClassId} {b L : Nat} {xs : Nat → Int32} (hL : L < 2 ^ 31) (k : Int32) : sq_ok l yL_weather cL_weather 2 (some .int) ({ frames := 1, cells := 0, slots := 0, locals := 21 }) D [(cB, .byte)] (sj_X b L xs) [.ref b, .int k] [] (fun r w => (∃ j, j < 3 ∧ r = some (.int (nI j))) ∧ w = []) 0 0 := by
  refine sq_met (by decide +kernel) (Nat.le_of_ble_eq_true rfl) ?_
  intro p e s m args below meth c A ls hC hlocks hr hin hP hK hD hA hX hl
  obtain ⟨hx, hb, hml, hown, hts⟩ := id hC
  have hS : va_S A s.heap s.heap [] := va_S.rf
  have hl : lv_has ls 2 [(0, .ref b), (1, .int k)] := hl
  refine lv_aload_n hx hb (by decide +kernel : decode cL_weather 0 = .ok (.aload_n 0, 1)) rfl (lv_at hl 0 rfl) ?_
  refine lv_iconst (v := 0) hx hb (by decide +kernel : decode cL_weather 1 = .ok (.iconst 0, 1)) (by decide) ?_
  refine sq_cs (n := 2) (wr := []) hC (cl_at l (b := b) (L := L) (xs := xs) (j := 0) hL (by decide)) ⟨rfl, rfl⟩ kw_350 kw_351 kw_352 kw_0 (by decide +kernel) rfl [] [] rfl rfl rfl rfl (by decide) (sj_EX b L xs) hK hP hD hS hA (sq_down (sj_EX b L xs) hX hS (va_free hD hS hA [] rfl)) hl.1 rfl (Nat.le_of_ble_eq_true rfl) ⟨Nat.le_of_ble_eq_true rfl, Nat.le_of_ble_eq_true rfl⟩ ⟨Nat.le_of_ble_eq_true rfl, Nat.le_of_ble_eq_true rfl⟩ (by decide +kernel : decode cL_weather 2 = .ok (.invokestatic 23, 3)) (fun v9 w9 H locs h9 hP hD hS => ?_)
  obtain ⟨rfl, rfl⟩ := h9
  have hP : va_P D vwCl [] H := hP
  have hD : va_D A [] := hD
  refine W.eq (g2 := F0 m 5 ls [.int (la xs L 0)]) rfl ?_
  refine lv_iconst (v := 2) hx hb (by decide +kernel : decode cL_weather 5 = .ok (.iconst 2, 1)) (by decide) ?_
  refine lv_iconst (v := 2) hx hb (by decide +kernel : decode cL_weather 6 = .ok (.iconst 2, 1)) (by decide) ?_
  refine lv_iload_n hx hb (by decide +kernel : decode cL_weather 7 = .ok (.iload_n 1, 1)) rfl (lv_at hl 1 rfl) ?_
  refine lv_imul hx hb (by decide +kernel : decode cL_weather 8 = .ok (.imul, 1)) ?_
  refine lv_iadd hx hb (by decide +kernel : decode cL_weather 9 = .ok (.iadd, 1)) ?_
  refine lv_ishr hx hb (by decide +kernel : decode cL_weather 10 = .ok (.ishr, 1)) ?_
  refine lv_iconst (v := 3) hx hb (by decide +kernel : decode cL_weather 11 = .ok (.iconst 3, 1)) (by decide) ?_
  refine lv_iand hx hb (by decide +kernel : decode cL_weather 12 = .ok (.iand, 1)) ?_
  refine lv_iconst (v := 3) hx hb (by decide +kernel : decode cL_weather 13 = .ok (.iconst 3, 1)) (by decide) ?_
  refine lv_irem hx hb (by decide +kernel : decode cL_weather 14 = .ok (.irem, 1)) (by decide) ?_
  obtain ⟨j9, hj9, e9⟩ := pk_andE (la xs L 0 >>> ((2 + 2 * k) &&& 31)) (m := 3) 2 (by decide)
  exact sq_iret hx hb hlocks hr (⟨⟨j9 % 3, Nat.mod_lt _ (by decide), by rw [show (2 : Int32) + 2 * k = (2 + 2 * k) from rfl] at e9; rw [e9]; exact congrArg (fun z => some (Value.int z)) (pk_rem (a := j9) (d := 3) (by omega) (by decide) (by decide))⟩, rfl⟩) hP hD hS (by decide +kernel : decode cL_weather 15 = .ok (.ireturn, 1))
set_option maxRecDepth 100000 in
set_option maxHeartbeats 4000000 in
theorem cl_len (l : Launch) {D : va_G} {cB : ClassId} {b L : Nat} {xs : Nat → Int32} (hL : L < 2 ^ 31) (k : Int32) : sq_ok l yL_length cL_length 2 (some .int) ({ frames := 1, cells := 0, slots := 0, locals := 21 }) D [(cB, .byte)] (sj_X b L xs) [.ref b, .int k] [] (fun r w => (∃ j, 1 ≤ j ∧ j ≤ 32 ∧ r = some (.int (nI j))) ∧ w = []) 0 0 := by
  refine sq_met (by decide +kernel) (Nat.le_of_ble_eq_true rfl) ?_
  intro p e s m args below meth c A ls hC hlocks hr hin hP hK hD hA hX hl
  obtain ⟨hx, hb, hml, hown, hts⟩ := id hC
  have hS : va_S A s.heap s.heap [] := va_S.rf
  have hl : lv_has ls 2 [(0, .ref b), (1, .int k)] := hl
  refine lv_iconst (v := 1) hx hb (by decide +kernel : decode cL_length 0 = .ok (.iconst 1, 1)) (by decide) ?_
  refine lv_aload_n hx hb (by decide +kernel : decode cL_length 1 = .ok (.aload_n 0, 1)) rfl (lv_at hl 0 rfl) ?_
  refine lv_iconst (v := 0) hx hb (by decide +kernel : decode cL_length 2 = .ok (.iconst 0, 1)) (by decide) ?_
  refine sq_cs (n := 2) (wr := []) hC (cl_at l (b := b) (L := L) (xs := xs) (j := 0) hL (by decide)) ⟨rfl, rfl⟩ kw_350 kw_351 kw_352 kw_0 (by decide +kernel) rfl [] [] rfl rfl rfl rfl (by decide) (sj_EX b L xs) hK hP hD hS hA (sq_down (sj_EX b L xs) hX hS (va_free hD hS hA [] rfl)) hl.1 rfl (Nat.le_of_ble_eq_true rfl) ⟨Nat.le_of_ble_eq_true rfl, Nat.le_of_ble_eq_true rfl⟩ ⟨Nat.le_of_ble_eq_true rfl, Nat.le_of_ble_eq_true rfl⟩ (by decide +kernel : decode cL_length 3 = .ok (.invokestatic 23, 3)) (fun v9 w9 H locs h9 hP hD hS => ?_)
  obtain ⟨rfl, rfl⟩ := h9
  have hP : va_P D vwCl [] H := hP
  have hD : va_D A [] := hD
  refine W.eq (g2 := F0 m 6 ls [.int (la xs L 0), .int (1)]) rfl ?_
  refine lv_bipush (v := 10) hx hb (by decide +kernel : decode cL_length 6 = .ok (.bipush 10, 2)) (by decide) ?_
  refine lv_iconst (v := 5) hx hb (by decide +kernel : decode cL_length 8 = .ok (.iconst 5, 1)) (by decide) ?_
  refine lv_iload_n hx hb (by decide +kernel : decode cL_length 9 = .ok (.iload_n 1, 1)) rfl (lv_at hl 1 rfl) ?_
  refine lv_imul hx hb (by decide +kernel : decode cL_length 10 = .ok (.imul, 1)) ?_
  refine lv_iadd hx hb (by decide +kernel : decode cL_length 11 = .ok (.iadd, 1)) ?_
  refine lv_ishr hx hb (by decide +kernel : decode cL_length 12 = .ok (.ishr, 1)) ?_
  refine lv_bipush (v := 31) hx hb (by decide +kernel : decode cL_length 13 = .ok (.bipush 31, 2)) (by decide) ?_
  refine lv_iand hx hb (by decide +kernel : decode cL_length 15 = .ok (.iand, 1)) ?_
  refine lv_iadd hx hb (by decide +kernel : decode cL_length 16 = .ok (.iadd, 1)) ?_
  obtain ⟨j9, hj9, e9⟩ := pk_andE (la xs L 0 >>> ((10 + 5 * k) &&& 31)) (m := 31) 5 (by decide)
  exact sq_iret hx hb hlocks hr (⟨⟨1 + j9, by omega, by omega, by rw [e9]; exact congrArg (fun z => some (Value.int z)) (nI_add 1 j9)⟩, rfl⟩) hP hD hS (by decide +kernel : decode cL_length 17 = .ok (.ireturn, 1))
set_option maxRecDepth 100000 in
set_option maxHeartbeats 4000000 in
theorem cl_watch (l : Launch) {D : va_G} {cB : ClassId} {b L : Nat} {xs : Nat → Int32} (hL : L < 2 ^ 31) {h : Nat} (hh : h < 2 ^ 30) : sq_ok l yL_watch cL_watch 3 (some .int) ({ frames := 2, cells := 0, slots := 0, locals := 41 }) D [(cB, .byte)] (sj_X b L xs) [.ref b, .int (nI h)] [] (fun r w => r = some (.int (lWatch xs L h)) ∧ w = []) 0 0 := by
  refine sq_met (by decide +kernel) (Nat.le_of_ble_eq_true rfl) ?_
  intro p e s m args below meth c A ls hC hlocks hr hin hP hK hD hA hX hl
  obtain ⟨hx, hb, hml, hown, hts⟩ := id hC
  have hS : va_S A s.heap s.heap [] := va_S.rf
  have hl : lv_has ls 3 [(0, .ref b), (1, .int (nI h))] := hl
  refine lv_aload_n hx hb (by decide +kernel : decode cL_watch 0 = .ok (.aload_n 0, 1)) rfl (lv_at hl 0 rfl) ?_
  refine lv_iconst (v := 2) hx hb (by decide +kernel : decode cL_watch 1 = .ok (.iconst 2, 1)) (by decide) ?_
  refine lv_iload_n hx hb (by decide +kernel : decode cL_watch 2 = .ok (.iload_n 1, 1)) rfl (lv_at hl 1 rfl) ?_
  refine lv_bipush (v := 8) hx hb (by decide +kernel : decode cL_watch 3 = .ok (.bipush 8, 2)) (by decide) ?_
  refine lv_idiv hx hb (by decide +kernel : decode cL_watch 5 = .ok (.idiv, 1)) (by decide) ?_
  refine lv_iadd hx hb (by decide +kernel : decode cL_watch 6 = .ok (.iadd, 1)) ?_
  refine lv_topi (fun z9 e9 => ?_)
  obtain rfl : z9 = (nI (2 + h / 8)) := by rw [e9]; exact lw_ix hh
  refine sq_cs (n := 2) (wr := []) hC (cl_at l (b := b) (L := L) (xs := xs) (j := 2 + h / 8) hL (by omega)) ⟨rfl, rfl⟩ kw_350 kw_351 kw_352 kw_0 (by decide +kernel) rfl [] [] rfl rfl rfl rfl (by decide) (sj_EX b L xs) hK hP hD hS hA (sq_down (sj_EX b L xs) hX hS (va_free hD hS hA [] rfl)) hl.1 rfl (Nat.le_of_ble_eq_true rfl) ⟨Nat.le_of_ble_eq_true rfl, Nat.le_of_ble_eq_true rfl⟩ ⟨Nat.le_of_ble_eq_true rfl, Nat.le_of_ble_eq_true rfl⟩ (by decide +kernel : decode cL_watch 7 = .ok (.invokestatic 23, 3)) (fun v9 w9 H locs h9 hP hD hS => ?_)
  obtain ⟨rfl, rfl⟩ := h9
  have hP : va_P D vwCl [] H := hP
  have hD : va_D A [] := hD
  refine W.eq (g2 := F0 m 10 ls [.int (la xs L (2 + h / 8))]) rfl ?_
  refine lv_iconst (v := 3) hx hb (by decide +kernel : decode cL_watch 10 = .ok (.iconst 3, 1)) (by decide) ?_
  refine lv_iload_n hx hb (by decide +kernel : decode cL_watch 11 = .ok (.iload_n 1, 1)) rfl (lv_at hl 1 rfl) ?_
  refine lv_bipush (v := 8) hx hb (by decide +kernel : decode cL_watch 12 = .ok (.bipush 8, 2)) (by decide) ?_
  refine lv_irem hx hb (by decide +kernel : decode cL_watch 14 = .ok (.irem, 1)) (by decide) ?_
  refine lv_imul hx hb (by decide +kernel : decode cL_watch 15 = .ok (.imul, 1)) ?_
  refine lv_ishr hx hb (by decide +kernel : decode cL_watch 16 = .ok (.ishr, 1)) ?_
  refine lv_bipush (v := 7) hx hb (by decide +kernel : decode cL_watch 17 = .ok (.bipush 7, 2)) (by decide) ?_
  refine lv_iand hx hb (by decide +kernel : decode cL_watch 19 = .ok (.iand, 1)) ?_
  refine lv_istore_n (lv' := [(2, .int (((la xs L (2 + h / 8)) >>> (((3) * ((nI h) - (nI h) / (8) * (8))) &&& 31)) &&& (7))), (0, .ref b), (1, .int (nI h))]) hx hb (by decide +kernel : decode cL_watch 20 = .ok (.istore_n 2, 1)) rfl hl (by decide) rfl (fun ls hl => ?_)
  refine lv_iload_n hx hb (by decide +kernel : decode cL_watch 21 = .ok (.iload_n 2, 1)) rfl (lv_at hl 0 rfl) ?_
  refine lv_aload_n hx hb (by decide +kernel : decode cL_watch 22 = .ok (.aload_n 0, 1)) rfl (lv_at hl 1 rfl) ?_
  have eW : lWatch xs L h = if lW0 xs L h < lKeep xs L then lW0 xs L h else if 6 < lW0 xs L h then -1 else lW0 xs L h - lW0 xs L h / lKeep xs L * lKeep xs L := rfl
  refine sq_cs (n := 1) (wr := []) hC (cl_keepers l (b := b) (L := L) (xs := xs) hL) ⟨rfl, rfl⟩ kw_359 kw_360 kw_361 kw_0 (by decide +kernel) rfl [] [] rfl rfl rfl rfl (by decide) (sj_EX b L xs) hK hP hD hS hA (sq_down (sj_EX b L xs) hX hS (va_free hD hS hA [] rfl)) hl.1 rfl (Nat.le_of_ble_eq_true rfl) ⟨Nat.le_of_ble_eq_true rfl, Nat.le_of_ble_eq_true rfl⟩ ⟨Nat.le_of_ble_eq_true rfl, Nat.le_of_ble_eq_true rfl⟩ (by decide +kernel : decode cL_watch 23 = .ok (.invokestatic 61, 3)) (fun v9 w9 H locs h9 hP hD hS => ?_)
  obtain ⟨rfl, rfl⟩ := h9
  have hP : va_P D vwCl [] H := hP
  have hD : va_D A [] := hD
  refine W.eq (g2 := F0 m 26 ls [.int (lKeep xs L), .int (((la xs L (2 + h / 8)) >>> (((3) * ((nI h) - (nI h) / (8) * (8))) &&& 31)) &&& (7))]) rfl ?_
  refine lv_icmp_ge (tgt := 33) hx hb (by decide +kernel : decode cL_watch 26 = .ok (.if_icmp .ge 7, 3)) (by decide) (fun hc => ?_) (fun hc => ?_)
  · replace hc : ¬ lW0 xs L h < lKeep xs L := fun z => (Int32.not_le.mpr z) hc
    refine lv_iload_n hx hb (by decide +kernel : decode cL_watch 33 = .ok (.iload_n 2, 1)) rfl (lv_at hl 0 rfl) ?_
    refine lv_bipush (v := 6) hx hb (by decide +kernel : decode cL_watch 34 = .ok (.bipush 6, 2)) (by decide) ?_
    refine lv_icmp_le (tgt := 43) hx hb (by decide +kernel : decode cL_watch 36 = .ok (.if_icmp .le 7, 3)) (by decide) (fun hd => ?_) (fun hd => ?_)
    · replace hd : ¬ 6 < lW0 xs L h := fun z => (Int32.not_le.mpr z) hd
      refine lv_iload_n hx hb (by decide +kernel : decode cL_watch 43 = .ok (.iload_n 2, 1)) rfl (lv_at hl 0 rfl) ?_
      refine lv_aload_n hx hb (by decide +kernel : decode cL_watch 44 = .ok (.aload_n 0, 1)) rfl (lv_at hl 1 rfl) ?_
      refine sq_cs (n := 1) (wr := []) hC (cl_keepers l (b := b) (L := L) (xs := xs) hL) ⟨rfl, rfl⟩ kw_359 kw_360 kw_361 kw_0 (by decide +kernel) rfl [] [] rfl rfl rfl rfl (by decide) (sj_EX b L xs) hK hP hD hS hA (sq_down (sj_EX b L xs) hX hS (va_free hD hS hA [] rfl)) hl.1 rfl (Nat.le_of_ble_eq_true rfl) ⟨Nat.le_of_ble_eq_true rfl, Nat.le_of_ble_eq_true rfl⟩ ⟨Nat.le_of_ble_eq_true rfl, Nat.le_of_ble_eq_true rfl⟩ (by decide +kernel : decode cL_watch 45 = .ok (.invokestatic 61, 3)) (fun v9 w9 H locs h9 hP hD hS => ?_)
      obtain ⟨rfl, rfl⟩ := h9
      have hP : va_P D vwCl [] H := hP
      have hD : va_D A [] := hD
      refine W.eq (g2 := F0 m 48 ls [.int (lKeep xs L), .int (((la xs L (2 + h / 8)) >>> (((3) * ((nI h) - (nI h) / (8) * (8))) &&& 31)) &&& (7))]) rfl ?_
      refine lv_irem hx hb (by decide +kernel : decode cL_watch 48 = .ok (.irem, 1)) (lKeep_ne xs L) ?_
      exact sq_iret hx hb hlocks hr (⟨by rw [eW, if_neg hc, if_neg hd]; rfl, rfl⟩) hP hD hS (by decide +kernel : decode cL_watch 49 = .ok (.ireturn, 1))
    · replace hd : 6 < lW0 xs L h := Int32.not_le.mp hd
      refine lv_iconst (v := -1) hx hb (by decide +kernel : decode cL_watch 39 = .ok (.iconst (-1), 1)) (by decide) ?_
      refine lv_goto (tgt := 49) hx hb (by decide +kernel : decode cL_watch 40 = .ok (.goto 9, 3)) (by decide) ?_
      exact sq_iret hx hb hlocks hr (⟨by rw [eW, if_neg hc, if_pos hd], rfl⟩) hP hD hS (by decide +kernel : decode cL_watch 49 = .ok (.ireturn, 1))
  · replace hc : lW0 xs L h < lKeep xs L := Int32.not_le.mp hc
    refine lv_iload_n hx hb (by decide +kernel : decode cL_watch 29 = .ok (.iload_n 2, 1)) rfl (lv_at hl 0 rfl) ?_
    refine lv_goto (tgt := 49) hx hb (by decide +kernel : decode cL_watch 30 = .ok (.goto 19, 3)) (by decide) ?_
    exact sq_iret hx hb hlocks hr (⟨by rw [eW, if_pos hc]; rfl, rfl⟩) hP hD hS (by decide +kernel : decode cL_watch 49 = .ok (.ireturn, 1))

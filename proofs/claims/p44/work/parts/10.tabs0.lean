def tb_X0_isDueAt : Nat → kx_T := (kx_br 10 (kx_br 5 (kx_br 1 (kx_lf 0 (ki_aload 0 1)) (kx_br 4 (kx_lf 1 (ki_getI 0 0 4)) (kx_lf 4 (ki_ic (-1) 5)))) (kx_br 8 (kx_lf 5 (ki_icmp_eq 20 8)) (kx_br 9 (kx_lf 8 (ki_iload 1 9)) (kx_lf 9 (ki_aload 0 10))))) (kx_br 17 (kx_br 13 (kx_lf 10 (ki_getI 0 0 13)) (kx_br 16 (kx_lf 13 (ki_icmp_lt 20 16)) (kx_lf 16 (ki_ic (1) 17)))) (kx_br 20 (kx_lf 17 (ki_goto 21)) (kx_br 21 (kx_lf 20 (ki_ic (0) 21)) (kx_lf 21 (ki_zret))))))
def sp_X0_isDueAt : kx_Sp := kx_sp tb_X0_isDueAt 2
set_option maxRecDepth 100000 in
set_option maxHeartbeats 4000000 in
theorem kc_X0_isDueAt (l : Launch) : kx_ok1 l yX0_isDueAt (kx_wd yX0_isDueAt cX0_isDueAt 2 (some .boolean)) ({ frames := 0, cells := 0, slots := 0, locals := 0 }) sp_X0_isDueAt 2 0 0 := kx_met (by decide) ⟨rfl, rfl⟩ (fun p e s m args below meth c Q D C4 A cnt0 ad0 P X Z hr hn => by
  have hx := X.1.1
  have hb := X.1.2.1
  have hts := X.1.2.2.2.2
  exact (kx_sB (kx_sB (kx_sB (kx_sL (ks_aload_n hx hb rfl (by decide +kernel : decode cX0_isDueAt 0 = .ok (.aload_n 0, 1))))
    (kx_sB (kx_sL (ks_getI hx hb hts X.1.2.2.2.1 X.2.1 kf_0 (j := 0) rfl kw_441 (by decide +kernel : decode cX0_isDueAt 1 = .ok (.getfield 9, 3))))
    (kx_sL (ks_iconst hx hb (by decide +kernel) (by decide +kernel : decode cX0_isDueAt 4 = .ok (.iconst (-1), 1))))))
    (kx_sB (kx_sL (ks_icmp_eq hx hb (by decide) (by decide +kernel : decode cX0_isDueAt 5 = .ok (.if_icmp .eq 15, 3))))
    (kx_sB (kx_sL (ks_iload_n hx hb rfl (by decide +kernel : decode cX0_isDueAt 8 = .ok (.iload_n 1, 1))))
    (kx_sL (ks_aload_n hx hb rfl (by decide +kernel : decode cX0_isDueAt 9 = .ok (.aload_n 0, 1)))))))
    (kx_sB (kx_sB (kx_sL (ks_getI hx hb hts X.1.2.2.2.1 X.2.1 kf_0 (j := 0) rfl kw_441 (by decide +kernel : decode cX0_isDueAt 10 = .ok (.getfield 9, 3))))
    (kx_sB (kx_sL (ks_icmp_lt hx hb (by decide) (by decide +kernel : decode cX0_isDueAt 13 = .ok (.if_icmp .lt 7, 3))))
    (kx_sL (ks_iconst hx hb (by decide +kernel) (by decide +kernel : decode cX0_isDueAt 16 = .ok (.iconst 1, 1))))))
    (kx_sB (kx_sL (ks_goto hx hb (by decide) (by decide +kernel : decode cX0_isDueAt 17 = .ok (.goto 4, 3))))
    (kx_sB (kx_sL (ks_iconst hx hb (by decide +kernel) (by decide +kernel : decode cX0_isDueAt 20 = .ok (.iconst 0, 1))))
    (kx_sL (ks_zret Z hx hb hr (by decide +kernel : decode cX0_isDueAt 21 = .ok (.ireturn, 1)))))))))
def tb_X0_become : Nat → kx_T := (kx_br 18 (kx_br 9 (kx_br 2 (kx_br 1 (kx_lf 0 (ki_aload 0 1)) (kx_lf 1 (ki_aload 1 2))) (kx_br 5 (kx_lf 2 (ki_getI 0 0 5)) (kx_br 8 (kx_lf 5 (ki_putI 0 0 8)) (kx_lf 8 (ki_aload 0 9))))) (kx_br 13 (kx_br 10 (kx_lf 9 (ki_aload 1 10)) (kx_lf 10 (ki_getI 0 1 13))) (kx_br 16 (kx_lf 13 (ki_putI 0 1 16)) (kx_br 17 (kx_lf 16 (ki_aload 0 17)) (kx_lf 17 (ki_aload 1 18)))))) (kx_br 29 (kx_br 24 (kx_br 21 (kx_lf 18 (ki_getI 0 2 21)) (kx_lf 21 (ki_putI 0 2 24))) (kx_br 25 (kx_lf 24 (ki_aload 0 25)) (kx_br 26 (kx_lf 25 (ki_aload 1 26)) (kx_lf 26 (ki_getI 0 3 29))))) (kx_br 34 (kx_br 32 (kx_lf 29 (ki_putI 0 3 32)) (kx_br 33 (kx_lf 32 (ki_aload 0 33)) (kx_lf 33 (ki_aload 1 34)))) (kx_br 37 (kx_lf 34 (ki_getI 0 4 37)) (kx_br 40 (kx_lf 37 (ki_putI 0 4 40)) (kx_lf 40 (ki_vret)))))))
def sp_X0_become : kx_Sp := kx_sp tb_X0_become 2
set_option maxRecDepth 100000 in
set_option maxHeartbeats 4000000 in
theorem kc_X0_become (l : Launch) : kx_ok1 l yX0_become (kx_wd yX0_become cX0_become 2 none) ({ frames := 0, cells := 0, slots := 0, locals := 0 }) sp_X0_become 2 0 0 := kx_met (by decide) ⟨rfl, rfl⟩ (fun p e s m args below meth c Q D C4 A cnt0 ad0 P X Z hr hn => by
  have hx := X.1.1
  have hb := X.1.2.1
  have hts := X.1.2.2.2.2
  exact (kx_sB (kx_sB (kx_sB (kx_sB (kx_sL (ks_aload_n hx hb rfl (by decide +kernel : decode cX0_become 0 = .ok (.aload_n 0, 1))))
    (kx_sL (ks_aload_n hx hb rfl (by decide +kernel : decode cX0_become 1 = .ok (.aload_n 1, 1)))))
    (kx_sB (kx_sL (ks_getI hx hb hts X.1.2.2.2.1 X.2.1 kf_0 (j := 0) rfl kw_441 (by decide +kernel : decode cX0_become 2 = .ok (.getfield 9, 3))))
    (kx_sB (kx_sL (ks_putI hx hb hts X.1.2.2.2.1 X.2.1 kf_0 (j := 0) rfl kw_441 (by decide +kernel) (by decide +kernel) (by decide +kernel : decode cX0_become 5 = .ok (.putfield 9, 3))))
    (kx_sL (ks_aload_n hx hb rfl (by decide +kernel : decode cX0_become 8 = .ok (.aload_n 0, 1)))))))
    (kx_sB (kx_sB (kx_sL (ks_aload_n hx hb rfl (by decide +kernel : decode cX0_become 9 = .ok (.aload_n 1, 1))))
    (kx_sL (ks_getI hx hb hts X.1.2.2.2.1 X.2.1 kf_0 (j := 1) rfl kw_444 (by decide +kernel : decode cX0_become 10 = .ok (.getfield 15, 3)))))
    (kx_sB (kx_sL (ks_putI hx hb hts X.1.2.2.2.1 X.2.1 kf_0 (j := 1) rfl kw_444 (by decide +kernel) (by decide +kernel) (by decide +kernel : decode cX0_become 13 = .ok (.putfield 15, 3))))
    (kx_sB (kx_sL (ks_aload_n hx hb rfl (by decide +kernel : decode cX0_become 16 = .ok (.aload_n 0, 1))))
    (kx_sL (ks_aload_n hx hb rfl (by decide +kernel : decode cX0_become 17 = .ok (.aload_n 1, 1))))))))
    (kx_sB (kx_sB (kx_sB (kx_sL (ks_getI hx hb hts X.1.2.2.2.1 X.2.1 kf_0 (j := 2) rfl kw_446 (by decide +kernel : decode cX0_become 18 = .ok (.getfield 18, 3))))
    (kx_sL (ks_putI hx hb hts X.1.2.2.2.1 X.2.1 kf_0 (j := 2) rfl kw_446 (by decide +kernel) (by decide +kernel) (by decide +kernel : decode cX0_become 21 = .ok (.putfield 18, 3)))))
    (kx_sB (kx_sL (ks_aload_n hx hb rfl (by decide +kernel : decode cX0_become 24 = .ok (.aload_n 0, 1))))
    (kx_sB (kx_sL (ks_aload_n hx hb rfl (by decide +kernel : decode cX0_become 25 = .ok (.aload_n 1, 1))))
    (kx_sL (ks_getI hx hb hts X.1.2.2.2.1 X.2.1 kf_0 (j := 3) rfl kw_448 (by decide +kernel : decode cX0_become 26 = .ok (.getfield 21, 3)))))))
    (kx_sB (kx_sB (kx_sL (ks_putI hx hb hts X.1.2.2.2.1 X.2.1 kf_0 (j := 3) rfl kw_448 (by decide +kernel) (by decide +kernel) (by decide +kernel : decode cX0_become 29 = .ok (.putfield 21, 3))))
    (kx_sB (kx_sL (ks_aload_n hx hb rfl (by decide +kernel : decode cX0_become 32 = .ok (.aload_n 0, 1))))
    (kx_sL (ks_aload_n hx hb rfl (by decide +kernel : decode cX0_become 33 = .ok (.aload_n 1, 1))))))
    (kx_sB (kx_sL (ks_getI hx hb hts X.1.2.2.2.1 X.2.1 kf_0 (j := 4) rfl kw_450 (by decide +kernel : decode cX0_become 34 = .ok (.getfield 24, 3))))
    (kx_sB (kx_sL (ks_putI hx hb hts X.1.2.2.2.1 X.2.1 kf_0 (j := 4) rfl kw_450 (by decide +kernel) (by decide +kernel) (by decide +kernel : decode cX0_become 37 = .ok (.putfield 24, 3))))
    (kx_sL (ks_vret Z hx hb hr (by decide +kernel : decode cX0_become 40 = .ok (.return_, 1))))))))))
def tb_X1_has : Nat → kx_T := (kx_br 9 (kx_br 4 (kx_br 1 (kx_lf 0 (ki_iload 1 1)) (kx_lf 1 (ki_if_lt 16 4))) (kx_br 5 (kx_lf 4 (ki_iload 1 5)) (kx_br 6 (kx_lf 5 (ki_aload 0 6)) (kx_lf 6 (ki_getI 1 5 9))))) (kx_br 13 (kx_br 12 (kx_lf 9 (ki_icmp_ge 16 12)) (kx_lf 12 (ki_ic (1) 13))) (kx_br 16 (kx_lf 13 (ki_goto 17)) (kx_br 17 (kx_lf 16 (ki_ic (0) 17)) (kx_lf 17 (ki_zret))))))
def sp_X1_has : kx_Sp := kx_sp tb_X1_has 2
set_option maxRecDepth 100000 in
set_option maxHeartbeats 4000000 in
theorem kc_X1_has (l : Launch) : kx_ok1 l yX1_has (kx_wd yX1_has cX1_has 2 (some .boolean)) ({ frames := 0, cells := 0, slots := 0, locals := 0 }) sp_X1_has 2 0 0 := kx_met (by decide) ⟨rfl, rfl⟩ (fun p e s m args below meth c Q D C4 A cnt0 ad0 P X Z hr hn => by
  have hx := X.1.1
  have hb := X.1.2.1
  have hts := X.1.2.2.2.2
  exact (kx_sB (kx_sB (kx_sB (kx_sL (ks_iload_n hx hb rfl (by decide +kernel : decode cX1_has 0 = .ok (.iload_n 1, 1))))
    (kx_sL (ks_if_lt hx hb (by decide) (by decide +kernel : decode cX1_has 1 = .ok (.ifCond .lt 15, 3)))))
    (kx_sB (kx_sL (ks_iload_n hx hb rfl (by decide +kernel : decode cX1_has 4 = .ok (.iload_n 1, 1))))
    (kx_sB (kx_sL (ks_aload_n hx hb rfl (by decide +kernel : decode cX1_has 5 = .ok (.aload_n 0, 1))))
    (kx_sL (ks_getI hx hb hts X.1.2.2.2.1 X.2.1 kf_1 (j := 5) rfl kw_420 (by decide +kernel : decode cX1_has 6 = .ok (.getfield 27, 3)))))))
    (kx_sB (kx_sB (kx_sL (ks_icmp_ge hx hb (by decide) (by decide +kernel : decode cX1_has 9 = .ok (.if_icmp .ge 7, 3))))
    (kx_sL (ks_iconst hx hb (by decide +kernel) (by decide +kernel : decode cX1_has 12 = .ok (.iconst 1, 1)))))
    (kx_sB (kx_sL (ks_goto hx hb (by decide) (by decide +kernel : decode cX1_has 13 = .ok (.goto 4, 3))))
    (kx_sB (kx_sL (ks_iconst hx hb (by decide +kernel) (by decide +kernel : decode cX1_has 16 = .ok (.iconst 0, 1))))
    (kx_sL (ks_zret Z hx hb hr (by decide +kernel : decode cX1_has 17 = .ok (.ireturn, 1)))))))))
def tb_X1_isFull : Nat → kx_T := (kx_br 9 (kx_br 4 (kx_br 1 (kx_lf 0 (ki_aload 0 1)) (kx_lf 1 (ki_getI 1 5 4))) (kx_br 6 (kx_lf 4 (ki_ic (6) 6)) (kx_lf 6 (ki_icmp_lt 13 9)))) (kx_br 13 (kx_br 10 (kx_lf 9 (ki_ic (1) 10)) (kx_lf 10 (ki_goto 14))) (kx_br 14 (kx_lf 13 (ki_ic (0) 14)) (kx_lf 14 (ki_zret)))))
def sp_X1_isFull : kx_Sp := kx_sp tb_X1_isFull 1
set_option maxRecDepth 100000 in
set_option maxHeartbeats 4000000 in
theorem kc_X1_isFull (l : Launch) : kx_ok1 l yX1_isFull (kx_wd yX1_isFull cX1_isFull 1 (some .boolean)) ({ frames := 0, cells := 0, slots := 0, locals := 0 }) sp_X1_isFull 1 0 0 := kx_met (by decide) ⟨rfl, rfl⟩ (fun p e s m args below meth c Q D C4 A cnt0 ad0 P X Z hr hn => by
  have hx := X.1.1
  have hb := X.1.2.1
  have hts := X.1.2.2.2.2
  exact (kx_sB (kx_sB (kx_sB (kx_sL (ks_aload_n hx hb rfl (by decide +kernel : decode cX1_isFull 0 = .ok (.aload_n 0, 1))))
    (kx_sL (ks_getI hx hb hts X.1.2.2.2.1 X.2.1 kf_1 (j := 5) rfl kw_420 (by decide +kernel : decode cX1_isFull 1 = .ok (.getfield 27, 3)))))
    (kx_sB (kx_sL (ks_bipush hx hb (by decide +kernel) (by decide +kernel : decode cX1_isFull 4 = .ok (.bipush 6, 2))))
    (kx_sL (ks_icmp_lt hx hb (by decide) (by decide +kernel : decode cX1_isFull 6 = .ok (.if_icmp .lt 7, 3))))))
    (kx_sB (kx_sB (kx_sL (ks_iconst hx hb (by decide +kernel) (by decide +kernel : decode cX1_isFull 9 = .ok (.iconst 1, 1))))
    (kx_sL (ks_goto hx hb (by decide) (by decide +kernel : decode cX1_isFull 10 = .ok (.goto 4, 3)))))
    (kx_sB (kx_sL (ks_iconst hx hb (by decide +kernel) (by decide +kernel : decode cX1_isFull 13 = .ok (.iconst 0, 1))))
    (kx_sL (ks_zret Z hx hb hr (by decide +kernel : decode cX1_isFull 14 = .ok (.ireturn, 1))))))))
def tb_X1_lastsIn : Nat → kx_T := (kx_br 31 (kx_br 28 (kx_br 1 (kx_lf 0 (ki_iload 0 1)) (kx_lf 1 (ki_sw [((0), 28), ((2), 31)] 34))) (kx_br 30 (kx_lf 28 (ki_ic (12) 30)) (kx_lf 30 (ki_iret)))) (kx_br 34 (kx_br 33 (kx_lf 31 (ki_ic (6) 33)) (kx_lf 33 (ki_iret))) (kx_br 36 (kx_lf 34 (ki_ic (9) 36)) (kx_lf 36 (ki_iret)))))
def sp_X1_lastsIn : kx_Sp := kx_sp tb_X1_lastsIn 1
set_option maxRecDepth 100000 in
set_option maxHeartbeats 4000000 in
theorem kc_X1_lastsIn (l : Launch) : kx_ok1 l yX1_lastsIn (kx_wd yX1_lastsIn cX1_lastsIn 1 (some .int)) ({ frames := 0, cells := 0, slots := 0, locals := 0 }) sp_X1_lastsIn 1 0 0 := kx_met (by decide) ⟨rfl, rfl⟩ (fun p e s m args below meth c Q D C4 A cnt0 ad0 P X Z hr hn => by
  have hx := X.1.1
  have hb := X.1.2.1
  have hts := X.1.2.2.2.2
  exact (kx_sB (kx_sB (kx_sB (kx_sL (ks_iload_n hx hb rfl (by decide +kernel : decode cX1_lastsIn 0 = .ok (.iload_n 0, 1))))
    (kx_sL (ks_lookup hx hb (by decide) (by decide +kernel) (by decide +kernel) (by decide +kernel : decode cX1_lastsIn 1 = .ok (.lookupswitch 33 #[(0, 27), (2, 30)], 27)))))
    (kx_sB (kx_sL (ks_bipush hx hb (by decide +kernel) (by decide +kernel : decode cX1_lastsIn 28 = .ok (.bipush 12, 2))))
    (kx_sL (ks_iret Z hx hb hr (by decide +kernel : decode cX1_lastsIn 30 = .ok (.ireturn, 1))))))
    (kx_sB (kx_sB (kx_sL (ks_bipush hx hb (by decide +kernel) (by decide +kernel : decode cX1_lastsIn 31 = .ok (.bipush 6, 2))))
    (kx_sL (ks_iret Z hx hb hr (by decide +kernel : decode cX1_lastsIn 33 = .ok (.ireturn, 1)))))
    (kx_sB (kx_sL (ks_bipush hx hb (by decide +kernel) (by decide +kernel : decode cX1_lastsIn 34 = .ok (.bipush 9, 2))))
    (kx_sL (ks_iret Z hx hb hr (by decide +kernel : decode cX1_lastsIn 36 = .ok (.ireturn, 1))))))))
def tb_X1_hire : Nat → kx_T := (kx_br 41 (kx_br 19 (kx_br 9 (kx_br 4 (kx_br 1 (kx_lf 0 (ki_aload 0 1)) (kx_lf 1 (ki_cv 1 0 1 sp_X1_isFull 4))) (kx_br 7 (kx_lf 4 (ki_if_eq 9 7)) (kx_br 8 (kx_lf 7 (ki_ic (-1) 8)) (kx_lf 8 (ki_iret))))) (kx_br 14 (kx_br 10 (kx_lf 9 (ki_aload 0 10)) (kx_br 13 (kx_lf 10 (ki_getR 1 0 20 (fun o => o) 13)) (kx_lf 13 (ki_aload 0 14)))) (kx_br 17 (kx_lf 14 (ki_getI 1 5 17)) (kx_br 18 (kx_lf 17 (ki_iload 1 18)) (kx_lf 18 (ki_iast 19)))))) (kx_br 31 (kx_br 24 (kx_br 20 (kx_lf 19 (ki_aload 0 20)) (kx_br 23 (kx_lf 20 (ki_getR 1 1 21 (fun o => o) 23)) (kx_lf 23 (ki_aload 0 24)))) (kx_br 27 (kx_lf 24 (ki_getI 1 5 27)) (kx_br 28 (kx_lf 27 (ki_iload 1 28)) (kx_lf 28 (ki_cs 1 1 sp_X1_lastsIn 31))))) (kx_br 36 (kx_br 32 (kx_lf 31 (ki_iast 32)) (kx_br 33 (kx_lf 32 (ki_aload 0 33)) (kx_lf 33 (ki_getR 1 2 22 (fun o => o) 36)))) (kx_br 37 (kx_lf 36 (ki_aload 0 37)) (kx_br 40 (kx_lf 37 (ki_getI 1 5 40)) (kx_lf 40 (ki_ic (0) 41))))))) (kx_br 61 (kx_br 51 (kx_br 46 (kx_br 42 (kx_lf 41 (ki_iast 42)) (kx_br 43 (kx_lf 42 (ki_aload 0 43)) (kx_lf 43 (ki_getR 1 3 23 (fun o => o) 46)))) (kx_br 47 (kx_lf 46 (ki_aload 0 47)) (kx_br 50 (kx_lf 47 (ki_getI 1 5 50)) (kx_lf 50 (ki_ic (0) 51))))) (kx_br 56 (kx_br 52 (kx_lf 51 (ki_iast 52)) (kx_br 53 (kx_lf 52 (ki_aload 0 53)) (kx_lf 53 (ki_getR 1 4 24 (fun o => o) 56)))) (kx_br 57 (kx_lf 56 (ki_aload 0 57)) (kx_br 60 (kx_lf 57 (ki_getI 1 5 60)) (kx_lf 60 (ki_ic (0) 61)))))) (kx_br 69 (kx_br 64 (kx_br 62 (kx_lf 61 (ki_iast 62)) (kx_br 63 (kx_lf 62 (ki_aload 0 63)) (kx_lf 63 (ki_dup 64)))) (kx_br 67 (kx_lf 64 (ki_getI 1 5 67)) (kx_br 68 (kx_lf 67 (ki_ic (1) 68)) (kx_lf 68 (ki_iadd 69))))) (kx_br 76 (kx_br 72 (kx_lf 69 (ki_putI 1 5 72)) (kx_br 73 (kx_lf 72 (ki_aload 0 73)) (kx_lf 73 (ki_getI 1 5 76)))) (kx_br 77 (kx_lf 76 (ki_ic (1) 77)) (kx_br 78 (kx_lf 77 (ki_isub 78)) (kx_lf 78 (ki_iret))))))))
def sp_X1_hire : kx_Sp := kx_sp tb_X1_hire 2
set_option maxRecDepth 100000 in
set_option maxHeartbeats 4000000 in
theorem kc_X1_hire (l : Launch) : kx_ok1 l yX1_hire (kx_wd yX1_hire cX1_hire 2 (some .int)) ({ frames := 1, cells := 0, slots := 0, locals := 20 }) sp_X1_hire 2 0 0 := kx_met (by decide) ⟨rfl, rfl⟩ (fun p e s m args below meth c Q D C4 A cnt0 ad0 P X Z hr hn => by
  have hx := X.1.1
  have hb := X.1.2.1
  have hts := X.1.2.2.2.2
  exact (kx_sB (kx_sB (kx_sB (kx_sB (kx_sB (kx_sL (ks_aload_n hx hb rfl (by decide +kernel : decode cX1_hire 0 = .ok (.aload_n 0, 1))))
    (kx_sL (ks_cv X (kc_X1_isFull l) ⟨rfl, rfl⟩ kf_1 kw_1061 kw_1054 kw_1055 kw_1056 kw_5 (by decide +kernel) (by decide) (by decide +kernel : decode cX1_hire 1 = .ok (.invokevirtual 31, 3)))))
    (kx_sB (kx_sL (ks_if_eq hx hb (by decide) (by decide +kernel : decode cX1_hire 4 = .ok (.ifCond .eq 5, 3))))
    (kx_sB (kx_sL (ks_iconst hx hb (by decide +kernel) (by decide +kernel : decode cX1_hire 7 = .ok (.iconst (-1), 1))))
    (kx_sL (ks_iret Z hx hb hr (by decide +kernel : decode cX1_hire 8 = .ok (.ireturn, 1)))))))
    (kx_sB (kx_sB (kx_sL (ks_aload_n hx hb rfl (by decide +kernel : decode cX1_hire 9 = .ok (.aload_n 0, 1))))
    (kx_sB (kx_sL (ks_getR hx hb hts X.1.2.2.2.1 X.2.1 kf_1 (j := 0) rfl kw_415 (by decide +kernel : decode cX1_hire 10 = .ok (.getfield 11, 3))))
    (kx_sL (ks_aload_n hx hb rfl (by decide +kernel : decode cX1_hire 13 = .ok (.aload_n 0, 1))))))
    (kx_sB (kx_sL (ks_getI hx hb hts X.1.2.2.2.1 X.2.1 kf_1 (j := 5) rfl kw_420 (by decide +kernel : decode cX1_hire 14 = .ok (.getfield 27, 3))))
    (kx_sB (kx_sL (ks_iload_n hx hb rfl (by decide +kernel : decode cX1_hire 17 = .ok (.iload_n 1, 1))))
    (kx_sL (ks_iast hx hb X.2.1 (by decide +kernel : decode cX1_hire 18 = .ok (.iastore, 1))))))))
    (kx_sB (kx_sB (kx_sB (kx_sL (ks_aload_n hx hb rfl (by decide +kernel : decode cX1_hire 19 = .ok (.aload_n 0, 1))))
    (kx_sB (kx_sL (ks_getR hx hb hts X.1.2.2.2.1 X.2.1 kf_1 (j := 1) rfl kw_416 (by decide +kernel : decode cX1_hire 20 = .ok (.getfield 15, 3))))
    (kx_sL (ks_aload_n hx hb rfl (by decide +kernel : decode cX1_hire 23 = .ok (.aload_n 0, 1))))))
    (kx_sB (kx_sL (ks_getI hx hb hts X.1.2.2.2.1 X.2.1 kf_1 (j := 5) rfl kw_420 (by decide +kernel : decode cX1_hire 24 = .ok (.getfield 27, 3))))
    (kx_sB (kx_sL (ks_iload_n hx hb rfl (by decide +kernel : decode cX1_hire 27 = .ok (.iload_n 1, 1))))
    (kx_sL (ks_cs X (kc_X1_lastsIn l) ⟨rfl, rfl⟩ kw_1062 kw_1063 kw_1064 kw_5 (by decide +kernel) (by decide) (by decide +kernel : decode cX1_hire 28 = .ok (.invokestatic 35, 3)))))))
    (kx_sB (kx_sB (kx_sL (ks_iast hx hb X.2.1 (by decide +kernel : decode cX1_hire 31 = .ok (.iastore, 1))))
    (kx_sB (kx_sL (ks_aload_n hx hb rfl (by decide +kernel : decode cX1_hire 32 = .ok (.aload_n 0, 1))))
    (kx_sL (ks_getR hx hb hts X.1.2.2.2.1 X.2.1 kf_1 (j := 2) rfl kw_417 (by decide +kernel : decode cX1_hire 33 = .ok (.getfield 18, 3))))))
    (kx_sB (kx_sL (ks_aload_n hx hb rfl (by decide +kernel : decode cX1_hire 36 = .ok (.aload_n 0, 1))))
    (kx_sB (kx_sL (ks_getI hx hb hts X.1.2.2.2.1 X.2.1 kf_1 (j := 5) rfl kw_420 (by decide +kernel : decode cX1_hire 37 = .ok (.getfield 27, 3))))
    (kx_sL (ks_iconst hx hb (by decide +kernel) (by decide +kernel : decode cX1_hire 40 = .ok (.iconst 0, 1)))))))))
    (kx_sB (kx_sB (kx_sB (kx_sB (kx_sL (ks_iast hx hb X.2.1 (by decide +kernel : decode cX1_hire 41 = .ok (.iastore, 1))))
    (kx_sB (kx_sL (ks_aload_n hx hb rfl (by decide +kernel : decode cX1_hire 42 = .ok (.aload_n 0, 1))))
    (kx_sL (ks_getR hx hb hts X.1.2.2.2.1 X.2.1 kf_1 (j := 3) rfl kw_418 (by decide +kernel : decode cX1_hire 43 = .ok (.getfield 21, 3))))))
    (kx_sB (kx_sL (ks_aload_n hx hb rfl (by decide +kernel : decode cX1_hire 46 = .ok (.aload_n 0, 1))))
    (kx_sB (kx_sL (ks_getI hx hb hts X.1.2.2.2.1 X.2.1 kf_1 (j := 5) rfl kw_420 (by decide +kernel : decode cX1_hire 47 = .ok (.getfield 27, 3))))
    (kx_sL (ks_iconst hx hb (by decide +kernel) (by decide +kernel : decode cX1_hire 50 = .ok (.iconst 0, 1)))))))
    (kx_sB (kx_sB (kx_sL (ks_iast hx hb X.2.1 (by decide +kernel : decode cX1_hire 51 = .ok (.iastore, 1))))
    (kx_sB (kx_sL (ks_aload_n hx hb rfl (by decide +kernel : decode cX1_hire 52 = .ok (.aload_n 0, 1))))
    (kx_sL (ks_getR hx hb hts X.1.2.2.2.1 X.2.1 kf_1 (j := 4) rfl kw_419 (by decide +kernel : decode cX1_hire 53 = .ok (.getfield 24, 3))))))
    (kx_sB (kx_sL (ks_aload_n hx hb rfl (by decide +kernel : decode cX1_hire 56 = .ok (.aload_n 0, 1))))
    (kx_sB (kx_sL (ks_getI hx hb hts X.1.2.2.2.1 X.2.1 kf_1 (j := 5) rfl kw_420 (by decide +kernel : decode cX1_hire 57 = .ok (.getfield 27, 3))))
    (kx_sL (ks_iconst hx hb (by decide +kernel) (by decide +kernel : decode cX1_hire 60 = .ok (.iconst 0, 1))))))))
    (kx_sB (kx_sB (kx_sB (kx_sL (ks_iast hx hb X.2.1 (by decide +kernel : decode cX1_hire 61 = .ok (.iastore, 1))))
    (kx_sB (kx_sL (ks_aload_n hx hb rfl (by decide +kernel : decode cX1_hire 62 = .ok (.aload_n 0, 1))))
    (kx_sL (ks_dup hx hb (by decide +kernel : decode cX1_hire 63 = .ok (.dup, 1))))))
    (kx_sB (kx_sL (ks_getI hx hb hts X.1.2.2.2.1 X.2.1 kf_1 (j := 5) rfl kw_420 (by decide +kernel : decode cX1_hire 64 = .ok (.getfield 27, 3))))
    (kx_sB (kx_sL (ks_iconst hx hb (by decide +kernel) (by decide +kernel : decode cX1_hire 67 = .ok (.iconst 1, 1))))
    (kx_sL (ks_iadd hx hb (by decide +kernel : decode cX1_hire 68 = .ok (.iadd, 1)))))))
    (kx_sB (kx_sB (kx_sL (ks_putI hx hb hts X.1.2.2.2.1 X.2.1 kf_1 (j := 5) rfl kw_420 (by decide +kernel) (by decide +kernel) (by decide +kernel : decode cX1_hire 69 = .ok (.putfield 27, 3))))
    (kx_sB (kx_sL (ks_aload_n hx hb rfl (by decide +kernel : decode cX1_hire 72 = .ok (.aload_n 0, 1))))
    (kx_sL (ks_getI hx hb hts X.1.2.2.2.1 X.2.1 kf_1 (j := 5) rfl kw_420 (by decide +kernel : decode cX1_hire 73 = .ok (.getfield 27, 3))))))
    (kx_sB (kx_sL (ks_iconst hx hb (by decide +kernel) (by decide +kernel : decode cX1_hire 76 = .ok (.iconst 1, 1))))
    (kx_sB (kx_sL (ks_isub hx hb (by decide +kernel : decode cX1_hire 77 = .ok (.isub, 1))))
    (kx_sL (ks_iret Z hx hb hr (by decide +kernel : decode cX1_hire 78 = .ok (.ireturn, 1)))))))))))
def tb_X1_rankOf : Nat → kx_T := (kx_br 9 (kx_br 2 (kx_br 1 (kx_lf 0 (ki_aload 0 1)) (kx_lf 1 (ki_iload 1 2))) (kx_br 5 (kx_lf 2 (ki_cv 1 1 2 sp_X1_has 5)) (kx_br 8 (kx_lf 5 (ki_if_eq 17 8)) (kx_lf 8 (ki_aload 0 9))))) (kx_br 14 (kx_br 12 (kx_lf 9 (ki_getR 1 0 20 (fun o => o) 12)) (kx_br 13 (kx_lf 12 (ki_iload 1 13)) (kx_lf 13 (ki_iald 14)))) (kx_br 17 (kx_lf 14 (ki_goto 18)) (kx_br 18 (kx_lf 17 (ki_ic (-1) 18)) (kx_lf 18 (ki_iret))))))
def sp_X1_rankOf : kx_Sp := kx_sp tb_X1_rankOf 2
set_option maxRecDepth 100000 in
set_option maxHeartbeats 4000000 in
theorem kc_X1_rankOf (l : Launch) : kx_ok1 l yX1_rankOf (kx_wd yX1_rankOf cX1_rankOf 2 (some .int)) ({ frames := 1, cells := 0, slots := 0, locals := 21 }) sp_X1_rankOf 2 0 0 := kx_met (by decide) ⟨rfl, rfl⟩ (fun p e s m args below meth c Q D C4 A cnt0 ad0 P X Z hr hn => by
  have hx := X.1.1
  have hb := X.1.2.1
  have hts := X.1.2.2.2.2
  exact (kx_sB (kx_sB (kx_sB (kx_sL (ks_aload_n hx hb rfl (by decide +kernel : decode cX1_rankOf 0 = .ok (.aload_n 0, 1))))
    (kx_sL (ks_iload_n hx hb rfl (by decide +kernel : decode cX1_rankOf 1 = .ok (.iload_n 1, 1)))))
    (kx_sB (kx_sL (ks_cv X (kc_X1_has l) ⟨rfl, rfl⟩ kf_1 kw_142 kw_143 kw_144 kw_145 kw_5 (by decide +kernel) (by decide) (by decide +kernel : decode cX1_rankOf 2 = .ok (.invokevirtual 39, 3))))
    (kx_sB (kx_sL (ks_if_eq hx hb (by decide) (by decide +kernel : decode cX1_rankOf 5 = .ok (.ifCond .eq 12, 3))))
    (kx_sL (ks_aload_n hx hb rfl (by decide +kernel : decode cX1_rankOf 8 = .ok (.aload_n 0, 1)))))))
    (kx_sB (kx_sB (kx_sL (ks_getR hx hb hts X.1.2.2.2.1 X.2.1 kf_1 (j := 0) rfl kw_415 (by decide +kernel : decode cX1_rankOf 9 = .ok (.getfield 11, 3))))
    (kx_sB (kx_sL (ks_iload_n hx hb rfl (by decide +kernel : decode cX1_rankOf 12 = .ok (.iload_n 1, 1))))
    (kx_sL (ks_iald hx hb X.2.1 (by decide +kernel : decode cX1_rankOf 13 = .ok (.iaload, 1))))))
    (kx_sB (kx_sL (ks_goto hx hb (by decide) (by decide +kernel : decode cX1_rankOf 14 = .ok (.goto 4, 3))))
    (kx_sB (kx_sL (ks_iconst hx hb (by decide +kernel) (by decide +kernel : decode cX1_rankOf 17 = .ok (.iconst (-1), 1))))
    (kx_sL (ks_iret Z hx hb hr (by decide +kernel : decode cX1_rankOf 18 = .ok (.ireturn, 1)))))))))
def tb_X1_isAwake : Nat → kx_T := (kx_br 14 (kx_br 8 (kx_br 2 (kx_br 1 (kx_lf 0 (ki_aload 0 1)) (kx_lf 1 (ki_iload 1 2))) (kx_br 5 (kx_lf 2 (ki_cv 1 1 2 sp_X1_has 5)) (kx_lf 5 (ki_if_eq 27 8)))) (kx_br 12 (kx_br 9 (kx_lf 8 (ki_aload 0 9)) (kx_lf 9 (ki_getR 1 2 22 (fun o => o) 12))) (kx_br 13 (kx_lf 12 (ki_iload 1 13)) (kx_lf 13 (ki_iald 14))))) (kx_br 20 (kx_br 18 (kx_br 15 (kx_lf 14 (ki_aload 0 15)) (kx_lf 15 (ki_getR 1 1 21 (fun o => o) 18))) (kx_br 19 (kx_lf 18 (ki_iload 1 19)) (kx_lf 19 (ki_iald 20)))) (kx_br 24 (kx_br 23 (kx_lf 20 (ki_icmp_ge 27 23)) (kx_lf 23 (ki_ic (1) 24))) (kx_br 27 (kx_lf 24 (ki_goto 28)) (kx_br 28 (kx_lf 27 (ki_ic (0) 28)) (kx_lf 28 (ki_zret)))))))
def sp_X1_isAwake : kx_Sp := kx_sp tb_X1_isAwake 2
set_option maxRecDepth 100000 in
set_option maxHeartbeats 4000000 in
theorem kc_X1_isAwake (l : Launch) : kx_ok1 l yX1_isAwake (kx_wd yX1_isAwake cX1_isAwake 2 (some .boolean)) ({ frames := 1, cells := 0, slots := 0, locals := 21 }) sp_X1_isAwake 2 0 0 := kx_met (by decide) ⟨rfl, rfl⟩ (fun p e s m args below meth c Q D C4 A cnt0 ad0 P X Z hr hn => by
  have hx := X.1.1
  have hb := X.1.2.1
  have hts := X.1.2.2.2.2
  exact (kx_sB (kx_sB (kx_sB (kx_sB (kx_sL (ks_aload_n hx hb rfl (by decide +kernel : decode cX1_isAwake 0 = .ok (.aload_n 0, 1))))
    (kx_sL (ks_iload_n hx hb rfl (by decide +kernel : decode cX1_isAwake 1 = .ok (.iload_n 1, 1)))))
    (kx_sB (kx_sL (ks_cv X (kc_X1_has l) ⟨rfl, rfl⟩ kf_1 kw_142 kw_143 kw_144 kw_145 kw_5 (by decide +kernel) (by decide) (by decide +kernel : decode cX1_isAwake 2 = .ok (.invokevirtual 39, 3))))
    (kx_sL (ks_if_eq hx hb (by decide) (by decide +kernel : decode cX1_isAwake 5 = .ok (.ifCond .eq 22, 3))))))
    (kx_sB (kx_sB (kx_sL (ks_aload_n hx hb rfl (by decide +kernel : decode cX1_isAwake 8 = .ok (.aload_n 0, 1))))
    (kx_sL (ks_getR hx hb hts X.1.2.2.2.1 X.2.1 kf_1 (j := 2) rfl kw_417 (by decide +kernel : decode cX1_isAwake 9 = .ok (.getfield 18, 3)))))
    (kx_sB (kx_sL (ks_iload_n hx hb rfl (by decide +kernel : decode cX1_isAwake 12 = .ok (.iload_n 1, 1))))
    (kx_sL (ks_iald hx hb X.2.1 (by decide +kernel : decode cX1_isAwake 13 = .ok (.iaload, 1)))))))
    (kx_sB (kx_sB (kx_sB (kx_sL (ks_aload_n hx hb rfl (by decide +kernel : decode cX1_isAwake 14 = .ok (.aload_n 0, 1))))
    (kx_sL (ks_getR hx hb hts X.1.2.2.2.1 X.2.1 kf_1 (j := 1) rfl kw_416 (by decide +kernel : decode cX1_isAwake 15 = .ok (.getfield 15, 3)))))
    (kx_sB (kx_sL (ks_iload_n hx hb rfl (by decide +kernel : decode cX1_isAwake 18 = .ok (.iload_n 1, 1))))
    (kx_sL (ks_iald hx hb X.2.1 (by decide +kernel : decode cX1_isAwake 19 = .ok (.iaload, 1))))))
    (kx_sB (kx_sB (kx_sL (ks_icmp_ge hx hb (by decide) (by decide +kernel : decode cX1_isAwake 20 = .ok (.if_icmp .ge 7, 3))))
    (kx_sL (ks_iconst hx hb (by decide +kernel) (by decide +kernel : decode cX1_isAwake 23 = .ok (.iconst 1, 1)))))
    (kx_sB (kx_sL (ks_goto hx hb (by decide) (by decide +kernel : decode cX1_isAwake 24 = .ok (.goto 4, 3))))
    (kx_sB (kx_sL (ks_iconst hx hb (by decide +kernel) (by decide +kernel : decode cX1_isAwake 27 = .ok (.iconst 0, 1))))
    (kx_sL (ks_zret Z hx hb hr (by decide +kernel : decode cX1_isAwake 28 = .ok (.ireturn, 1))))))))))
def tb_X1_spendHour : Nat → kx_T := (kx_br 47 (kx_br 28 (kx_br 14 (kx_br 5 (kx_br 1 (kx_lf 0 (ki_ic (0) 1)) (kx_br 3 (kx_lf 1 (ki_istore 4 3)) (kx_lf 3 (ki_iload 4 5)))) (kx_br 9 (kx_br 6 (kx_lf 5 (ki_aload 0 6)) (kx_lf 6 (ki_getI 1 5 9))) (kx_br 12 (kx_lf 9 (ki_icmp_ge 94 12)) (kx_lf 12 (ki_iload 4 14))))) (kx_br 19 (kx_br 15 (kx_lf 14 (ki_iload 1 15)) (kx_br 18 (kx_lf 15 (ki_icmp_ne 47 18)) (kx_lf 18 (ki_iload 2 19)))) (kx_br 23 (kx_br 22 (kx_lf 19 (ki_if_eq 47 22)) (kx_lf 22 (ki_aload 0 23))) (kx_br 26 (kx_lf 23 (ki_getR 1 2 22 (fun o => o) 26)) (kx_lf 26 (ki_iload 4 28)))))) (kx_br 37 (kx_br 31 (kx_br 29 (kx_lf 28 (ki_dup2 29)) (kx_br 30 (kx_lf 29 (ki_iald 30)) (kx_lf 30 (ki_iload 3 31)))) (kx_br 33 (kx_br 32 (kx_lf 31 (ki_iadd 32)) (kx_lf 32 (ki_iast 33))) (kx_br 34 (kx_lf 33 (ki_aload 0 34)) (kx_lf 34 (ki_getR 1 3 23 (fun o => o) 37))))) (kx_br 41 (kx_br 39 (kx_lf 37 (ki_iload 4 39)) (kx_br 40 (kx_lf 39 (ki_dup2 40)) (kx_lf 40 (ki_iald 41)))) (kx_br 43 (kx_br 42 (kx_lf 41 (ki_ic (1) 42)) (kx_lf 42 (ki_iadd 43))) (kx_br 44 (kx_lf 43 (ki_iast 44)) (kx_lf 44 (ki_goto 88))))))) (kx_br 71 (kx_br 60 (kx_br 53 (kx_br 48 (kx_lf 47 (ki_aload 0 48)) (kx_br 51 (kx_lf 48 (ki_getR 1 2 22 (fun o => o) 51)) (kx_lf 51 (ki_iload 4 53)))) (kx_br 55 (kx_br 54 (kx_lf 53 (ki_ic (0) 54)) (kx_lf 54 (ki_aload 0 55))) (kx_br 58 (kx_lf 55 (ki_getR 1 2 22 (fun o => o) 58)) (kx_lf 58 (ki_iload 4 60))))) (kx_br 63 (kx_br 61 (kx_lf 60 (ki_iald 61)) (kx_br 62 (kx_lf 61 (ki_ic (2) 62)) (kx_lf 62 (ki_isub 63)))) (kx_br 67 (kx_br 66 (kx_lf 63 (ki_mmax 66)) (kx_lf 66 (ki_iast 67))) (kx_br 68 (kx_lf 67 (ki_aload 0 68)) (kx_lf 68 (ki_getR 1 4 24 (fun o => o) 71)))))) (kx_br 82 (kx_br 75 (kx_br 73 (kx_lf 71 (ki_iload 4 73)) (kx_br 74 (kx_lf 73 (ki_dup2 74)) (kx_lf 74 (ki_iald 75)))) (kx_br 78 (kx_br 77 (kx_lf 75 (ki_iload 4 77)) (kx_lf 77 (ki_iload 1 78))) (kx_br 81 (kx_lf 78 (ki_icmp_ne 85 81)) (kx_lf 81 (ki_ic (1) 82))))) (kx_br 87 (kx_br 85 (kx_lf 82 (ki_goto 86)) (kx_br 86 (kx_lf 85 (ki_ic (0) 86)) (kx_lf 86 (ki_iadd 87)))) (kx_br 91 (kx_br 88 (kx_lf 87 (ki_iast 88)) (kx_lf 88 (ki_iinc 4 (1) 91))) (kx_br 94 (kx_lf 91 (ki_goto 3)) (kx_lf 94 (ki_vret))))))))
def sp_X1_spendHour : kx_Sp := kx_sp tb_X1_spendHour 5
set_option maxRecDepth 100000 in
set_option maxHeartbeats 4000000 in
theorem kc_X1_spendHour (l : Launch) : kx_ok1 l yX1_spendHour (kx_wd yX1_spendHour cX1_spendHour 5 none) ({ frames := 1, cells := 0, slots := 0, locals := 21 }) sp_X1_spendHour 5 0 0 := kx_met (by decide) ⟨rfl, rfl⟩ (fun p e s m args below meth c Q D C4 A cnt0 ad0 P X Z hr hn => by
  have hx := X.1.1
  have hb := X.1.2.1
  have hts := X.1.2.2.2.2
  exact (kx_sB (kx_sB (kx_sB (kx_sB (kx_sB (kx_sL (ks_iconst hx hb (by decide +kernel) (by decide +kernel : decode cX1_spendHour 0 = .ok (.iconst 0, 1))))
    (kx_sB (kx_sL (ks_istore hx hb (by decide) (by decide +kernel : decode cX1_spendHour 1 = .ok (.istore 4, 2))))
    (kx_sL (ks_iload hx hb (by decide +kernel : decode cX1_spendHour 3 = .ok (.iload 4, 2))))))
    (kx_sB (kx_sB (kx_sL (ks_aload_n hx hb rfl (by decide +kernel : decode cX1_spendHour 5 = .ok (.aload_n 0, 1))))
    (kx_sL (ks_getI hx hb hts X.1.2.2.2.1 X.2.1 kf_1 (j := 5) rfl kw_420 (by decide +kernel : decode cX1_spendHour 6 = .ok (.getfield 27, 3)))))
    (kx_sB (kx_sL (ks_icmp_ge hx hb (by decide) (by decide +kernel : decode cX1_spendHour 9 = .ok (.if_icmp .ge 85, 3))))
    (kx_sL (ks_iload hx hb (by decide +kernel : decode cX1_spendHour 12 = .ok (.iload 4, 2)))))))
    (kx_sB (kx_sB (kx_sL (ks_iload_n hx hb rfl (by decide +kernel : decode cX1_spendHour 14 = .ok (.iload_n 1, 1))))
    (kx_sB (kx_sL (ks_icmp_ne hx hb (by decide) (by decide +kernel : decode cX1_spendHour 15 = .ok (.if_icmp .ne 32, 3))))
    (kx_sL (ks_iload_n hx hb rfl (by decide +kernel : decode cX1_spendHour 18 = .ok (.iload_n 2, 1))))))
    (kx_sB (kx_sB (kx_sL (ks_if_eq hx hb (by decide) (by decide +kernel : decode cX1_spendHour 19 = .ok (.ifCond .eq 28, 3))))
    (kx_sL (ks_aload_n hx hb rfl (by decide +kernel : decode cX1_spendHour 22 = .ok (.aload_n 0, 1)))))
    (kx_sB (kx_sL (ks_getR hx hb hts X.1.2.2.2.1 X.2.1 kf_1 (j := 2) rfl kw_417 (by decide +kernel : decode cX1_spendHour 23 = .ok (.getfield 18, 3))))
    (kx_sL (ks_iload hx hb (by decide +kernel : decode cX1_spendHour 26 = .ok (.iload 4, 2))))))))
    (kx_sB (kx_sB (kx_sB (kx_sL (ks_dup2 hx hb (by decide +kernel : decode cX1_spendHour 28 = .ok (.dup2, 1))))
    (kx_sB (kx_sL (ks_iald hx hb X.2.1 (by decide +kernel : decode cX1_spendHour 29 = .ok (.iaload, 1))))
    (kx_sL (ks_iload_n hx hb rfl (by decide +kernel : decode cX1_spendHour 30 = .ok (.iload_n 3, 1))))))
    (kx_sB (kx_sB (kx_sL (ks_iadd hx hb (by decide +kernel : decode cX1_spendHour 31 = .ok (.iadd, 1))))
    (kx_sL (ks_iast hx hb X.2.1 (by decide +kernel : decode cX1_spendHour 32 = .ok (.iastore, 1)))))
    (kx_sB (kx_sL (ks_aload_n hx hb rfl (by decide +kernel : decode cX1_spendHour 33 = .ok (.aload_n 0, 1))))
    (kx_sL (ks_getR hx hb hts X.1.2.2.2.1 X.2.1 kf_1 (j := 3) rfl kw_418 (by decide +kernel : decode cX1_spendHour 34 = .ok (.getfield 21, 3)))))))
    (kx_sB (kx_sB (kx_sL (ks_iload hx hb (by decide +kernel : decode cX1_spendHour 37 = .ok (.iload 4, 2))))
    (kx_sB (kx_sL (ks_dup2 hx hb (by decide +kernel : decode cX1_spendHour 39 = .ok (.dup2, 1))))
    (kx_sL (ks_iald hx hb X.2.1 (by decide +kernel : decode cX1_spendHour 40 = .ok (.iaload, 1))))))
    (kx_sB (kx_sB (kx_sL (ks_iconst hx hb (by decide +kernel) (by decide +kernel : decode cX1_spendHour 41 = .ok (.iconst 1, 1))))
    (kx_sL (ks_iadd hx hb (by decide +kernel : decode cX1_spendHour 42 = .ok (.iadd, 1)))))
    (kx_sB (kx_sL (ks_iast hx hb X.2.1 (by decide +kernel : decode cX1_spendHour 43 = .ok (.iastore, 1))))
    (kx_sL (ks_goto hx hb (by decide) (by decide +kernel : decode cX1_spendHour 44 = .ok (.goto 44, 3)))))))))
    (kx_sB (kx_sB (kx_sB (kx_sB (kx_sL (ks_aload_n hx hb rfl (by decide +kernel : decode cX1_spendHour 47 = .ok (.aload_n 0, 1))))
    (kx_sB (kx_sL (ks_getR hx hb hts X.1.2.2.2.1 X.2.1 kf_1 (j := 2) rfl kw_417 (by decide +kernel : decode cX1_spendHour 48 = .ok (.getfield 18, 3))))
    (kx_sL (ks_iload hx hb (by decide +kernel : decode cX1_spendHour 51 = .ok (.iload 4, 2))))))
    (kx_sB (kx_sB (kx_sL (ks_iconst hx hb (by decide +kernel) (by decide +kernel : decode cX1_spendHour 53 = .ok (.iconst 0, 1))))
    (kx_sL (ks_aload_n hx hb rfl (by decide +kernel : decode cX1_spendHour 54 = .ok (.aload_n 0, 1)))))
    (kx_sB (kx_sL (ks_getR hx hb hts X.1.2.2.2.1 X.2.1 kf_1 (j := 2) rfl kw_417 (by decide +kernel : decode cX1_spendHour 55 = .ok (.getfield 18, 3))))
    (kx_sL (ks_iload hx hb (by decide +kernel : decode cX1_spendHour 58 = .ok (.iload 4, 2)))))))
    (kx_sB (kx_sB (kx_sL (ks_iald hx hb X.2.1 (by decide +kernel : decode cX1_spendHour 60 = .ok (.iaload, 1))))
    (kx_sB (kx_sL (ks_iconst hx hb (by decide +kernel) (by decide +kernel : decode cX1_spendHour 61 = .ok (.iconst 2, 1))))
    (kx_sL (ks_isub hx hb (by decide +kernel : decode cX1_spendHour 62 = .ok (.isub, 1))))))
    (kx_sB (kx_sB (kx_sL (ks_mmax X kw_216 kw_217 kw_18 kw_218 (by decide) (by decide +kernel : decode cX1_spendHour 63 = .ok (.invokestatic 43, 3))))
    (kx_sL (ks_iast hx hb X.2.1 (by decide +kernel : decode cX1_spendHour 66 = .ok (.iastore, 1)))))
    (kx_sB (kx_sL (ks_aload_n hx hb rfl (by decide +kernel : decode cX1_spendHour 67 = .ok (.aload_n 0, 1))))
    (kx_sL (ks_getR hx hb hts X.1.2.2.2.1 X.2.1 kf_1 (j := 4) rfl kw_419 (by decide +kernel : decode cX1_spendHour 68 = .ok (.getfield 24, 3))))))))
    (kx_sB (kx_sB (kx_sB (kx_sL (ks_iload hx hb (by decide +kernel : decode cX1_spendHour 71 = .ok (.iload 4, 2))))
    (kx_sB (kx_sL (ks_dup2 hx hb (by decide +kernel : decode cX1_spendHour 73 = .ok (.dup2, 1))))
    (kx_sL (ks_iald hx hb X.2.1 (by decide +kernel : decode cX1_spendHour 74 = .ok (.iaload, 1))))))
    (kx_sB (kx_sB (kx_sL (ks_iload hx hb (by decide +kernel : decode cX1_spendHour 75 = .ok (.iload 4, 2))))
    (kx_sL (ks_iload_n hx hb rfl (by decide +kernel : decode cX1_spendHour 77 = .ok (.iload_n 1, 1)))))
    (kx_sB (kx_sL (ks_icmp_ne hx hb (by decide) (by decide +kernel : decode cX1_spendHour 78 = .ok (.if_icmp .ne 7, 3))))
    (kx_sL (ks_iconst hx hb (by decide +kernel) (by decide +kernel : decode cX1_spendHour 81 = .ok (.iconst 1, 1)))))))
    (kx_sB (kx_sB (kx_sL (ks_goto hx hb (by decide) (by decide +kernel : decode cX1_spendHour 82 = .ok (.goto 4, 3))))
    (kx_sB (kx_sL (ks_iconst hx hb (by decide +kernel) (by decide +kernel : decode cX1_spendHour 85 = .ok (.iconst 0, 1))))
    (kx_sL (ks_iadd hx hb (by decide +kernel : decode cX1_spendHour 86 = .ok (.iadd, 1))))))
    (kx_sB (kx_sB (kx_sL (ks_iast hx hb X.2.1 (by decide +kernel : decode cX1_spendHour 87 = .ok (.iastore, 1))))
    (kx_sL (ks_iinc hx hb (by decide +kernel) (by decide) (by decide +kernel : decode cX1_spendHour 88 = .ok (.iinc 4 1, 3)))))
    (kx_sB (kx_sL (ks_goto hx hb (by decide) (by decide +kernel : decode cX1_spendHour 91 = .ok (.goto (-88), 3))))
    (kx_sL (ks_vret Z hx hb hr (by decide +kernel : decode cX1_spendHour 94 = .ok (.return_, 1)))))))))))
def tb_X1_restAll : Nat → kx_T := (kx_br 11 (kx_br 3 (kx_br 1 (kx_lf 0 (ki_ic (0) 1)) (kx_br 2 (kx_lf 1 (ki_istore 1 2)) (kx_lf 2 (ki_iload 1 3)))) (kx_br 7 (kx_br 4 (kx_lf 3 (ki_aload 0 4)) (kx_lf 4 (ki_getI 1 5 7))) (kx_br 10 (kx_lf 7 (ki_icmp_ge 23 10)) (kx_lf 10 (ki_aload 0 11))))) (kx_br 16 (kx_br 14 (kx_lf 11 (ki_getR 1 2 22 (fun o => o) 14)) (kx_br 15 (kx_lf 14 (ki_iload 1 15)) (kx_lf 15 (ki_ic (0) 16)))) (kx_br 20 (kx_br 17 (kx_lf 16 (ki_iast 17)) (kx_lf 17 (ki_iinc 1 (1) 20))) (kx_br 23 (kx_lf 20 (ki_goto 2)) (kx_lf 23 (ki_vret))))))
def sp_X1_restAll : kx_Sp := kx_sp tb_X1_restAll 2
set_option maxRecDepth 100000 in
set_option maxHeartbeats 4000000 in
theorem kc_X1_restAll (l : Launch) : kx_ok1 l yX1_restAll (kx_wd yX1_restAll cX1_restAll 2 none) ({ frames := 0, cells := 0, slots := 0, locals := 0 }) sp_X1_restAll 2 0 0 := kx_met (by decide) ⟨rfl, rfl⟩ (fun p e s m args below meth c Q D C4 A cnt0 ad0 P X Z hr hn => by
  have hx := X.1.1
  have hb := X.1.2.1
  have hts := X.1.2.2.2.2
  exact (kx_sB (kx_sB (kx_sB (kx_sL (ks_iconst hx hb (by decide +kernel) (by decide +kernel : decode cX1_restAll 0 = .ok (.iconst 0, 1))))
    (kx_sB (kx_sL (ks_istore_n hx hb rfl (by decide) (by decide +kernel : decode cX1_restAll 1 = .ok (.istore_n 1, 1))))
    (kx_sL (ks_iload_n hx hb rfl (by decide +kernel : decode cX1_restAll 2 = .ok (.iload_n 1, 1))))))
    (kx_sB (kx_sB (kx_sL (ks_aload_n hx hb rfl (by decide +kernel : decode cX1_restAll 3 = .ok (.aload_n 0, 1))))
    (kx_sL (ks_getI hx hb hts X.1.2.2.2.1 X.2.1 kf_1 (j := 5) rfl kw_420 (by decide +kernel : decode cX1_restAll 4 = .ok (.getfield 27, 3)))))
    (kx_sB (kx_sL (ks_icmp_ge hx hb (by decide) (by decide +kernel : decode cX1_restAll 7 = .ok (.if_icmp .ge 16, 3))))
    (kx_sL (ks_aload_n hx hb rfl (by decide +kernel : decode cX1_restAll 10 = .ok (.aload_n 0, 1)))))))
    (kx_sB (kx_sB (kx_sL (ks_getR hx hb hts X.1.2.2.2.1 X.2.1 kf_1 (j := 2) rfl kw_417 (by decide +kernel : decode cX1_restAll 11 = .ok (.getfield 18, 3))))
    (kx_sB (kx_sL (ks_iload_n hx hb rfl (by decide +kernel : decode cX1_restAll 14 = .ok (.iload_n 1, 1))))
    (kx_sL (ks_iconst hx hb (by decide +kernel) (by decide +kernel : decode cX1_restAll 15 = .ok (.iconst 0, 1))))))
    (kx_sB (kx_sB (kx_sL (ks_iast hx hb X.2.1 (by decide +kernel : decode cX1_restAll 16 = .ok (.iastore, 1))))
    (kx_sL (ks_iinc hx hb (by decide +kernel) (by decide) (by decide +kernel : decode cX1_restAll 17 = .ok (.iinc 1 1, 3)))))
    (kx_sB (kx_sL (ks_goto hx hb (by decide) (by decide +kernel : decode cX1_restAll 20 = .ok (.goto (-18), 3))))
    (kx_sL (ks_vret Z hx hb hr (by decide +kernel : decode cX1_restAll 23 = .ok (.return_, 1)))))))))
def tb_X1_become : Nat → kx_T := (kx_br 40 (kx_br 20 (kx_br 9 (kx_br 4 (kx_br 1 (kx_lf 0 (ki_aload 1 1)) (kx_lf 1 (ki_getR 1 0 20 (fun o => o) 4))) (kx_br 5 (kx_lf 4 (ki_ic (0) 5)) (kx_br 6 (kx_lf 5 (ki_aload 0 6)) (kx_lf 6 (ki_getR 1 0 20 (fun o => o) 9))))) (kx_br 15 (kx_br 10 (kx_lf 9 (ki_ic (0) 10)) (kx_br 12 (kx_lf 10 (ki_ic (6) 12)) (kx_lf 12 (ki_acopy 15)))) (kx_br 16 (kx_lf 15 (ki_aload 1 16)) (kx_br 19 (kx_lf 16 (ki_getR 1 1 21 (fun o => o) 19)) (kx_lf 19 (ki_ic (0) 20)))))) (kx_br 30 (kx_br 24 (kx_br 21 (kx_lf 20 (ki_aload 0 21)) (kx_lf 21 (ki_getR 1 1 21 (fun o => o) 24))) (kx_br 25 (kx_lf 24 (ki_ic (0) 25)) (kx_br 27 (kx_lf 25 (ki_ic (6) 27)) (kx_lf 27 (ki_acopy 30))))) (kx_br 35 (kx_br 31 (kx_lf 30 (ki_aload 1 31)) (kx_br 34 (kx_lf 31 (ki_getR 1 2 22 (fun o => o) 34)) (kx_lf 34 (ki_ic (0) 35)))) (kx_br 36 (kx_lf 35 (ki_aload 0 36)) (kx_br 39 (kx_lf 36 (ki_getR 1 2 22 (fun o => o) 39)) (kx_lf 39 (ki_ic (0) 40))))))) (kx_br 61 (kx_br 50 (kx_br 45 (kx_br 42 (kx_lf 40 (ki_ic (6) 42)) (kx_lf 42 (ki_acopy 45))) (kx_br 46 (kx_lf 45 (ki_aload 1 46)) (kx_br 49 (kx_lf 46 (ki_getR 1 3 23 (fun o => o) 49)) (kx_lf 49 (ki_ic (0) 50))))) (kx_br 55 (kx_br 51 (kx_lf 50 (ki_aload 0 51)) (kx_br 54 (kx_lf 51 (ki_getR 1 3 23 (fun o => o) 54)) (kx_lf 54 (ki_ic (0) 55)))) (kx_br 57 (kx_lf 55 (ki_ic (6) 57)) (kx_br 60 (kx_lf 57 (ki_acopy 60)) (kx_lf 60 (ki_aload 1 61)))))) (kx_br 72 (kx_br 66 (kx_br 64 (kx_lf 61 (ki_getR 1 4 24 (fun o => o) 64)) (kx_br 65 (kx_lf 64 (ki_ic (0) 65)) (kx_lf 65 (ki_aload 0 66)))) (kx_br 69 (kx_lf 66 (ki_getR 1 4 24 (fun o => o) 69)) (kx_br 70 (kx_lf 69 (ki_ic (0) 70)) (kx_lf 70 (ki_ic (6) 72))))) (kx_br 77 (kx_br 75 (kx_lf 72 (ki_acopy 75)) (kx_br 76 (kx_lf 75 (ki_aload 0 76)) (kx_lf 76 (ki_aload 1 77)))) (kx_br 80 (kx_lf 77 (ki_getI 1 5 80)) (kx_br 83 (kx_lf 80 (ki_putI 1 5 83)) (kx_lf 83 (ki_vret))))))))
def sp_X1_become : kx_Sp := kx_sp tb_X1_become 2
set_option maxRecDepth 100000 in
set_option maxHeartbeats 4000000 in
theorem kc_X1_become (l : Launch) : kx_ok1 l yX1_become (kx_wd yX1_become cX1_become 2 none) ({ frames := 1, cells := 0, slots := 0, locals := 40 }) sp_X1_become 2 0 0 := kx_met (by decide) ⟨rfl, rfl⟩ (fun p e s m args below meth c Q D C4 A cnt0 ad0 P X Z hr hn => by
  have hx := X.1.1
  have hb := X.1.2.1
  have hts := X.1.2.2.2.2
  exact (kx_sB (kx_sB (kx_sB (kx_sB (kx_sB (kx_sL (ks_aload_n hx hb rfl (by decide +kernel : decode cX1_become 0 = .ok (.aload_n 1, 1))))
    (kx_sL (ks_getR hx hb hts X.1.2.2.2.1 X.2.1 kf_1 (j := 0) rfl kw_415 (by decide +kernel : decode cX1_become 1 = .ok (.getfield 11, 3)))))
    (kx_sB (kx_sL (ks_iconst hx hb (by decide +kernel) (by decide +kernel : decode cX1_become 4 = .ok (.iconst 0, 1))))
    (kx_sB (kx_sL (ks_aload_n hx hb rfl (by decide +kernel : decode cX1_become 5 = .ok (.aload_n 0, 1))))
    (kx_sL (ks_getR hx hb hts X.1.2.2.2.1 X.2.1 kf_1 (j := 0) rfl kw_415 (by decide +kernel : decode cX1_become 6 = .ok (.getfield 11, 3)))))))
    (kx_sB (kx_sB (kx_sL (ks_iconst hx hb (by decide +kernel) (by decide +kernel : decode cX1_become 9 = .ok (.iconst 0, 1))))
    (kx_sB (kx_sL (ks_bipush hx hb (by decide +kernel) (by decide +kernel : decode cX1_become 10 = .ok (.bipush 6, 2))))
    (kx_sL (ks_acopy hx hb X.2.1 hts X.1.2.2.1 X.1.2.2.2.1 kw_311 kw_306 kw_305 kw_19 (by decide) (by decide +kernel) (by decide +kernel : decode cX1_become 12 = .ok (.invokestatic 49, 3))))))
    (kx_sB (kx_sL (ks_aload_n hx hb rfl (by decide +kernel : decode cX1_become 15 = .ok (.aload_n 1, 1))))
    (kx_sB (kx_sL (ks_getR hx hb hts X.1.2.2.2.1 X.2.1 kf_1 (j := 1) rfl kw_416 (by decide +kernel : decode cX1_become 16 = .ok (.getfield 15, 3))))
    (kx_sL (ks_iconst hx hb (by decide +kernel) (by decide +kernel : decode cX1_become 19 = .ok (.iconst 0, 1))))))))
    (kx_sB (kx_sB (kx_sB (kx_sL (ks_aload_n hx hb rfl (by decide +kernel : decode cX1_become 20 = .ok (.aload_n 0, 1))))
    (kx_sL (ks_getR hx hb hts X.1.2.2.2.1 X.2.1 kf_1 (j := 1) rfl kw_416 (by decide +kernel : decode cX1_become 21 = .ok (.getfield 15, 3)))))
    (kx_sB (kx_sL (ks_iconst hx hb (by decide +kernel) (by decide +kernel : decode cX1_become 24 = .ok (.iconst 0, 1))))
    (kx_sB (kx_sL (ks_bipush hx hb (by decide +kernel) (by decide +kernel : decode cX1_become 25 = .ok (.bipush 6, 2))))
    (kx_sL (ks_acopy hx hb X.2.1 hts X.1.2.2.1 X.1.2.2.2.1 kw_311 kw_306 kw_305 kw_19 (by decide) (by decide +kernel) (by decide +kernel : decode cX1_become 27 = .ok (.invokestatic 49, 3)))))))
    (kx_sB (kx_sB (kx_sL (ks_aload_n hx hb rfl (by decide +kernel : decode cX1_become 30 = .ok (.aload_n 1, 1))))
    (kx_sB (kx_sL (ks_getR hx hb hts X.1.2.2.2.1 X.2.1 kf_1 (j := 2) rfl kw_417 (by decide +kernel : decode cX1_become 31 = .ok (.getfield 18, 3))))
    (kx_sL (ks_iconst hx hb (by decide +kernel) (by decide +kernel : decode cX1_become 34 = .ok (.iconst 0, 1))))))
    (kx_sB (kx_sL (ks_aload_n hx hb rfl (by decide +kernel : decode cX1_become 35 = .ok (.aload_n 0, 1))))
    (kx_sB (kx_sL (ks_getR hx hb hts X.1.2.2.2.1 X.2.1 kf_1 (j := 2) rfl kw_417 (by decide +kernel : decode cX1_become 36 = .ok (.getfield 18, 3))))
    (kx_sL (ks_iconst hx hb (by decide +kernel) (by decide +kernel : decode cX1_become 39 = .ok (.iconst 0, 1)))))))))
    (kx_sB (kx_sB (kx_sB (kx_sB (kx_sL (ks_bipush hx hb (by decide +kernel) (by decide +kernel : decode cX1_become 40 = .ok (.bipush 6, 2))))
    (kx_sL (ks_acopy hx hb X.2.1 hts X.1.2.2.1 X.1.2.2.2.1 kw_311 kw_306 kw_305 kw_19 (by decide) (by decide +kernel) (by decide +kernel : decode cX1_become 42 = .ok (.invokestatic 49, 3)))))
    (kx_sB (kx_sL (ks_aload_n hx hb rfl (by decide +kernel : decode cX1_become 45 = .ok (.aload_n 1, 1))))
    (kx_sB (kx_sL (ks_getR hx hb hts X.1.2.2.2.1 X.2.1 kf_1 (j := 3) rfl kw_418 (by decide +kernel : decode cX1_become 46 = .ok (.getfield 21, 3))))
    (kx_sL (ks_iconst hx hb (by decide +kernel) (by decide +kernel : decode cX1_become 49 = .ok (.iconst 0, 1)))))))
    (kx_sB (kx_sB (kx_sL (ks_aload_n hx hb rfl (by decide +kernel : decode cX1_become 50 = .ok (.aload_n 0, 1))))
    (kx_sB (kx_sL (ks_getR hx hb hts X.1.2.2.2.1 X.2.1 kf_1 (j := 3) rfl kw_418 (by decide +kernel : decode cX1_become 51 = .ok (.getfield 21, 3))))
    (kx_sL (ks_iconst hx hb (by decide +kernel) (by decide +kernel : decode cX1_become 54 = .ok (.iconst 0, 1))))))
    (kx_sB (kx_sL (ks_bipush hx hb (by decide +kernel) (by decide +kernel : decode cX1_become 55 = .ok (.bipush 6, 2))))
    (kx_sB (kx_sL (ks_acopy hx hb X.2.1 hts X.1.2.2.1 X.1.2.2.2.1 kw_311 kw_306 kw_305 kw_19 (by decide) (by decide +kernel) (by decide +kernel : decode cX1_become 57 = .ok (.invokestatic 49, 3))))
    (kx_sL (ks_aload_n hx hb rfl (by decide +kernel : decode cX1_become 60 = .ok (.aload_n 1, 1))))))))
    (kx_sB (kx_sB (kx_sB (kx_sL (ks_getR hx hb hts X.1.2.2.2.1 X.2.1 kf_1 (j := 4) rfl kw_419 (by decide +kernel : decode cX1_become 61 = .ok (.getfield 24, 3))))
    (kx_sB (kx_sL (ks_iconst hx hb (by decide +kernel) (by decide +kernel : decode cX1_become 64 = .ok (.iconst 0, 1))))
    (kx_sL (ks_aload_n hx hb rfl (by decide +kernel : decode cX1_become 65 = .ok (.aload_n 0, 1))))))
    (kx_sB (kx_sL (ks_getR hx hb hts X.1.2.2.2.1 X.2.1 kf_1 (j := 4) rfl kw_419 (by decide +kernel : decode cX1_become 66 = .ok (.getfield 24, 3))))
    (kx_sB (kx_sL (ks_iconst hx hb (by decide +kernel) (by decide +kernel : decode cX1_become 69 = .ok (.iconst 0, 1))))
    (kx_sL (ks_bipush hx hb (by decide +kernel) (by decide +kernel : decode cX1_become 70 = .ok (.bipush 6, 2)))))))
    (kx_sB (kx_sB (kx_sL (ks_acopy hx hb X.2.1 hts X.1.2.2.1 X.1.2.2.2.1 kw_311 kw_306 kw_305 kw_19 (by decide) (by decide +kernel) (by decide +kernel : decode cX1_become 72 = .ok (.invokestatic 49, 3))))
    (kx_sB (kx_sL (ks_aload_n hx hb rfl (by decide +kernel : decode cX1_become 75 = .ok (.aload_n 0, 1))))
    (kx_sL (ks_aload_n hx hb rfl (by decide +kernel : decode cX1_become 76 = .ok (.aload_n 1, 1))))))
    (kx_sB (kx_sL (ks_getI hx hb hts X.1.2.2.2.1 X.2.1 kf_1 (j := 5) rfl kw_420 (by decide +kernel : decode cX1_become 77 = .ok (.getfield 27, 3))))
    (kx_sB (kx_sL (ks_putI hx hb hts X.1.2.2.2.1 X.2.1 kf_1 (j := 5) rfl kw_420 (by decide +kernel) (by decide +kernel) (by decide +kernel : decode cX1_become 80 = .ok (.putfield 27, 3))))
    (kx_sL (ks_vret Z hx hb hr (by decide +kernel : decode cX1_become 83 = .ok (.return_, 1)))))))))))
def tb_X2_has : Nat → kx_T := (kx_br 9 (kx_br 4 (kx_br 1 (kx_lf 0 (ki_iload 1 1)) (kx_lf 1 (ki_if_lt 16 4))) (kx_br 5 (kx_lf 4 (ki_iload 1 5)) (kx_br 6 (kx_lf 5 (ki_aload 0 6)) (kx_lf 6 (ki_getI 2 5 9))))) (kx_br 13 (kx_br 12 (kx_lf 9 (ki_icmp_ge 16 12)) (kx_lf 12 (ki_ic (1) 13))) (kx_br 16 (kx_lf 13 (ki_goto 17)) (kx_br 17 (kx_lf 16 (ki_ic (0) 17)) (kx_lf 17 (ki_zret))))))
def sp_X2_has : kx_Sp := kx_sp tb_X2_has 2
set_option maxRecDepth 100000 in
set_option maxHeartbeats 4000000 in
theorem kc_X2_has (l : Launch) : kx_ok1 l yX2_has (kx_wd yX2_has cX2_has 2 (some .boolean)) ({ frames := 0, cells := 0, slots := 0, locals := 0 }) sp_X2_has 2 0 0 := kx_met (by decide) ⟨rfl, rfl⟩ (fun p e s m args below meth c Q D C4 A cnt0 ad0 P X Z hr hn => by
  have hx := X.1.1
  have hb := X.1.2.1
  have hts := X.1.2.2.2.2
  exact (kx_sB (kx_sB (kx_sB (kx_sL (ks_iload_n hx hb rfl (by decide +kernel : decode cX2_has 0 = .ok (.iload_n 1, 1))))
    (kx_sL (ks_if_lt hx hb (by decide) (by decide +kernel : decode cX2_has 1 = .ok (.ifCond .lt 15, 3)))))
    (kx_sB (kx_sL (ks_iload_n hx hb rfl (by decide +kernel : decode cX2_has 4 = .ok (.iload_n 1, 1))))
    (kx_sB (kx_sL (ks_aload_n hx hb rfl (by decide +kernel : decode cX2_has 5 = .ok (.aload_n 0, 1))))
    (kx_sL (ks_getI hx hb hts X.1.2.2.2.1 X.2.1 kf_2 (j := 5) rfl kw_550 (by decide +kernel : decode cX2_has 6 = .ok (.getfield 27, 3)))))))
    (kx_sB (kx_sB (kx_sL (ks_icmp_ge hx hb (by decide) (by decide +kernel : decode cX2_has 9 = .ok (.if_icmp .ge 7, 3))))
    (kx_sL (ks_iconst hx hb (by decide +kernel) (by decide +kernel : decode cX2_has 12 = .ok (.iconst 1, 1)))))
    (kx_sB (kx_sL (ks_goto hx hb (by decide) (by decide +kernel : decode cX2_has 13 = .ok (.goto 4, 3))))
    (kx_sB (kx_sL (ks_iconst hx hb (by decide +kernel) (by decide +kernel : decode cX2_has 16 = .ok (.iconst 0, 1))))
    (kx_sL (ks_zret Z hx hb hr (by decide +kernel : decode cX2_has 17 = .ok (.ireturn, 1)))))))))
def tb_X2_isFull : Nat → kx_T := (kx_br 10 (kx_br 4 (kx_br 1 (kx_lf 0 (ki_aload 0 1)) (kx_lf 1 (ki_getI 2 5 4))) (kx_br 7 (kx_lf 4 (ki_ic (200) 7)) (kx_lf 7 (ki_icmp_lt 14 10)))) (kx_br 14 (kx_br 11 (kx_lf 10 (ki_ic (1) 11)) (kx_lf 11 (ki_goto 15))) (kx_br 15 (kx_lf 14 (ki_ic (0) 15)) (kx_lf 15 (ki_zret)))))
def sp_X2_isFull : kx_Sp := kx_sp tb_X2_isFull 1
set_option maxRecDepth 100000 in
set_option maxHeartbeats 4000000 in
theorem kc_X2_isFull (l : Launch) : kx_ok1 l yX2_isFull (kx_wd yX2_isFull cX2_isFull 1 (some .boolean)) ({ frames := 0, cells := 0, slots := 0, locals := 0 }) sp_X2_isFull 1 0 0 := kx_met (by decide) ⟨rfl, rfl⟩ (fun p e s m args below meth c Q D C4 A cnt0 ad0 P X Z hr hn => by
  have hx := X.1.1
  have hb := X.1.2.1
  have hts := X.1.2.2.2.2
  exact (kx_sB (kx_sB (kx_sB (kx_sL (ks_aload_n hx hb rfl (by decide +kernel : decode cX2_isFull 0 = .ok (.aload_n 0, 1))))
    (kx_sL (ks_getI hx hb hts X.1.2.2.2.1 X.2.1 kf_2 (j := 5) rfl kw_550 (by decide +kernel : decode cX2_isFull 1 = .ok (.getfield 27, 3)))))
    (kx_sB (kx_sL (ks_sipush hx hb (by decide +kernel) (by decide +kernel : decode cX2_isFull 4 = .ok (.sipush 200, 3))))
    (kx_sL (ks_icmp_lt hx hb (by decide) (by decide +kernel : decode cX2_isFull 7 = .ok (.if_icmp .lt 7, 3))))))
    (kx_sB (kx_sB (kx_sL (ks_iconst hx hb (by decide +kernel) (by decide +kernel : decode cX2_isFull 10 = .ok (.iconst 1, 1))))
    (kx_sL (ks_goto hx hb (by decide) (by decide +kernel : decode cX2_isFull 11 = .ok (.goto 4, 3)))))
    (kx_sB (kx_sL (ks_iconst hx hb (by decide +kernel) (by decide +kernel : decode cX2_isFull 14 = .ok (.iconst 0, 1))))
    (kx_sL (ks_zret Z hx hb hr (by decide +kernel : decode cX2_isFull 15 = .ok (.ireturn, 1))))))))
def tb_X2_kindOf : Nat → kx_T := (kx_br 9 (kx_br 2 (kx_br 1 (kx_lf 0 (ki_aload 0 1)) (kx_lf 1 (ki_iload 1 2))) (kx_br 5 (kx_lf 2 (ki_cv 2 1 2 sp_X2_has 5)) (kx_br 8 (kx_lf 5 (ki_if_eq 17 8)) (kx_lf 8 (ki_aload 0 9))))) (kx_br 14 (kx_br 12 (kx_lf 9 (ki_getR 2 0 25 (fun o => o) 12)) (kx_br 13 (kx_lf 12 (ki_iload 1 13)) (kx_lf 13 (ki_iald 14)))) (kx_br 17 (kx_lf 14 (ki_goto 18)) (kx_br 18 (kx_lf 17 (ki_ic (-1) 18)) (kx_lf 18 (ki_iret))))))
def sp_X2_kindOf : kx_Sp := kx_sp tb_X2_kindOf 2
set_option maxRecDepth 100000 in
set_option maxHeartbeats 4000000 in
theorem kc_X2_kindOf (l : Launch) : kx_ok1 l yX2_kindOf (kx_wd yX2_kindOf cX2_kindOf 2 (some .int)) ({ frames := 1, cells := 0, slots := 0, locals := 21 }) sp_X2_kindOf 2 0 0 := kx_met (by decide) ⟨rfl, rfl⟩ (fun p e s m args below meth c Q D C4 A cnt0 ad0 P X Z hr hn => by
  have hx := X.1.1
  have hb := X.1.2.1
  have hts := X.1.2.2.2.2
  exact (kx_sB (kx_sB (kx_sB (kx_sL (ks_aload_n hx hb rfl (by decide +kernel : decode cX2_kindOf 0 = .ok (.aload_n 0, 1))))
    (kx_sL (ks_iload_n hx hb rfl (by decide +kernel : decode cX2_kindOf 1 = .ok (.iload_n 1, 1)))))
    (kx_sB (kx_sL (ks_cv X (kc_X2_has l) ⟨rfl, rfl⟩ kf_2 kw_70 kw_71 kw_72 kw_73 kw_8 (by decide +kernel) (by decide) (by decide +kernel : decode cX2_kindOf 2 = .ok (.invokevirtual 31, 3))))
    (kx_sB (kx_sL (ks_if_eq hx hb (by decide) (by decide +kernel : decode cX2_kindOf 5 = .ok (.ifCond .eq 12, 3))))
    (kx_sL (ks_aload_n hx hb rfl (by decide +kernel : decode cX2_kindOf 8 = .ok (.aload_n 0, 1)))))))
    (kx_sB (kx_sB (kx_sL (ks_getR hx hb hts X.1.2.2.2.1 X.2.1 kf_2 (j := 0) rfl kw_545 (by decide +kernel : decode cX2_kindOf 9 = .ok (.getfield 9, 3))))
    (kx_sB (kx_sL (ks_iload_n hx hb rfl (by decide +kernel : decode cX2_kindOf 12 = .ok (.iload_n 1, 1))))
    (kx_sL (ks_iald hx hb X.2.1 (by decide +kernel : decode cX2_kindOf 13 = .ok (.iaload, 1))))))
    (kx_sB (kx_sL (ks_goto hx hb (by decide) (by decide +kernel : decode cX2_kindOf 14 = .ok (.goto 4, 3))))
    (kx_sB (kx_sL (ks_iconst hx hb (by decide +kernel) (by decide +kernel : decode cX2_kindOf 17 = .ok (.iconst (-1), 1))))
    (kx_sL (ks_iret Z hx hb hr (by decide +kernel : decode cX2_kindOf 18 = .ok (.ireturn, 1)))))))))
def tb_X2_hourOf : Nat → kx_T := (kx_br 9 (kx_br 2 (kx_br 1 (kx_lf 0 (ki_aload 0 1)) (kx_lf 1 (ki_iload 1 2))) (kx_br 5 (kx_lf 2 (ki_cv 2 1 2 sp_X2_has 5)) (kx_br 8 (kx_lf 5 (ki_if_eq 17 8)) (kx_lf 8 (ki_aload 0 9))))) (kx_br 14 (kx_br 12 (kx_lf 9 (ki_getR 2 1 26 (fun o => o) 12)) (kx_br 13 (kx_lf 12 (ki_iload 1 13)) (kx_lf 13 (ki_iald 14)))) (kx_br 17 (kx_lf 14 (ki_goto 18)) (kx_br 18 (kx_lf 17 (ki_ic (-1) 18)) (kx_lf 18 (ki_iret))))))
def sp_X2_hourOf : kx_Sp := kx_sp tb_X2_hourOf 2
set_option maxRecDepth 100000 in
set_option maxHeartbeats 4000000 in
theorem kc_X2_hourOf (l : Launch) : kx_ok1 l yX2_hourOf (kx_wd yX2_hourOf cX2_hourOf 2 (some .int)) ({ frames := 1, cells := 0, slots := 0, locals := 21 }) sp_X2_hourOf 2 0 0 := kx_met (by decide) ⟨rfl, rfl⟩ (fun p e s m args below meth c Q D C4 A cnt0 ad0 P X Z hr hn => by
  have hx := X.1.1
  have hb := X.1.2.1
  have hts := X.1.2.2.2.2
  exact (kx_sB (kx_sB (kx_sB (kx_sL (ks_aload_n hx hb rfl (by decide +kernel : decode cX2_hourOf 0 = .ok (.aload_n 0, 1))))
    (kx_sL (ks_iload_n hx hb rfl (by decide +kernel : decode cX2_hourOf 1 = .ok (.iload_n 1, 1)))))
    (kx_sB (kx_sL (ks_cv X (kc_X2_has l) ⟨rfl, rfl⟩ kf_2 kw_70 kw_71 kw_72 kw_73 kw_8 (by decide +kernel) (by decide) (by decide +kernel : decode cX2_hourOf 2 = .ok (.invokevirtual 31, 3))))
    (kx_sB (kx_sL (ks_if_eq hx hb (by decide) (by decide +kernel : decode cX2_hourOf 5 = .ok (.ifCond .eq 12, 3))))
    (kx_sL (ks_aload_n hx hb rfl (by decide +kernel : decode cX2_hourOf 8 = .ok (.aload_n 0, 1)))))))
    (kx_sB (kx_sB (kx_sL (ks_getR hx hb hts X.1.2.2.2.1 X.2.1 kf_2 (j := 1) rfl kw_546 (by decide +kernel : decode cX2_hourOf 9 = .ok (.getfield 15, 3))))
    (kx_sB (kx_sL (ks_iload_n hx hb rfl (by decide +kernel : decode cX2_hourOf 12 = .ok (.iload_n 1, 1))))
    (kx_sL (ks_iald hx hb X.2.1 (by decide +kernel : decode cX2_hourOf 13 = .ok (.iaload, 1))))))
    (kx_sB (kx_sL (ks_goto hx hb (by decide) (by decide +kernel : decode cX2_hourOf 14 = .ok (.goto 4, 3))))
    (kx_sB (kx_sL (ks_iconst hx hb (by decide +kernel) (by decide +kernel : decode cX2_hourOf 17 = .ok (.iconst (-1), 1))))
    (kx_sL (ks_iret Z hx hb hr (by decide +kernel : decode cX2_hourOf 18 = .ok (.ireturn, 1)))))))))
def tb_X2_fateOf : Nat → kx_T := (kx_br 9 (kx_br 2 (kx_br 1 (kx_lf 0 (ki_aload 0 1)) (kx_lf 1 (ki_iload 1 2))) (kx_br 5 (kx_lf 2 (ki_cv 2 1 2 sp_X2_has 5)) (kx_br 8 (kx_lf 5 (ki_if_eq 17 8)) (kx_lf 8 (ki_aload 0 9))))) (kx_br 14 (kx_br 12 (kx_lf 9 (ki_getR 2 2 27 (fun o => o) 12)) (kx_br 13 (kx_lf 12 (ki_iload 1 13)) (kx_lf 13 (ki_iald 14)))) (kx_br 17 (kx_lf 14 (ki_goto 18)) (kx_br 18 (kx_lf 17 (ki_ic (-1) 18)) (kx_lf 18 (ki_iret))))))
def sp_X2_fateOf : kx_Sp := kx_sp tb_X2_fateOf 2
set_option maxRecDepth 100000 in
set_option maxHeartbeats 4000000 in
theorem kc_X2_fateOf (l : Launch) : kx_ok1 l yX2_fateOf (kx_wd yX2_fateOf cX2_fateOf 2 (some .int)) ({ frames := 1, cells := 0, slots := 0, locals := 21 }) sp_X2_fateOf 2 0 0 := kx_met (by decide) ⟨rfl, rfl⟩ (fun p e s m args below meth c Q D C4 A cnt0 ad0 P X Z hr hn => by
  have hx := X.1.1
  have hb := X.1.2.1
  have hts := X.1.2.2.2.2
  exact (kx_sB (kx_sB (kx_sB (kx_sL (ks_aload_n hx hb rfl (by decide +kernel : decode cX2_fateOf 0 = .ok (.aload_n 0, 1))))
    (kx_sL (ks_iload_n hx hb rfl (by decide +kernel : decode cX2_fateOf 1 = .ok (.iload_n 1, 1)))))
    (kx_sB (kx_sL (ks_cv X (kc_X2_has l) ⟨rfl, rfl⟩ kf_2 kw_70 kw_71 kw_72 kw_73 kw_8 (by decide +kernel) (by decide) (by decide +kernel : decode cX2_fateOf 2 = .ok (.invokevirtual 31, 3))))
    (kx_sB (kx_sL (ks_if_eq hx hb (by decide) (by decide +kernel : decode cX2_fateOf 5 = .ok (.ifCond .eq 12, 3))))
    (kx_sL (ks_aload_n hx hb rfl (by decide +kernel : decode cX2_fateOf 8 = .ok (.aload_n 0, 1)))))))
    (kx_sB (kx_sB (kx_sL (ks_getR hx hb hts X.1.2.2.2.1 X.2.1 kf_2 (j := 2) rfl kw_547 (by decide +kernel : decode cX2_fateOf 9 = .ok (.getfield 18, 3))))
    (kx_sB (kx_sL (ks_iload_n hx hb rfl (by decide +kernel : decode cX2_fateOf 12 = .ok (.iload_n 1, 1))))
    (kx_sL (ks_iald hx hb X.2.1 (by decide +kernel : decode cX2_fateOf 13 = .ok (.iaload, 1))))))
    (kx_sB (kx_sL (ks_goto hx hb (by decide) (by decide +kernel : decode cX2_fateOf 14 = .ok (.goto 4, 3))))
    (kx_sB (kx_sL (ks_iconst hx hb (by decide +kernel) (by decide +kernel : decode cX2_fateOf 17 = .ok (.iconst (-1), 1))))
    (kx_sL (ks_iret Z hx hb hr (by decide +kernel : decode cX2_fateOf 18 = .ok (.ireturn, 1)))))))))
def tb_X2_metOf : Nat → kx_T := (kx_br 9 (kx_br 2 (kx_br 1 (kx_lf 0 (ki_aload 0 1)) (kx_lf 1 (ki_iload 1 2))) (kx_br 5 (kx_lf 2 (ki_cv 2 1 2 sp_X2_has 5)) (kx_br 8 (kx_lf 5 (ki_if_eq 17 8)) (kx_lf 8 (ki_aload 0 9))))) (kx_br 14 (kx_br 12 (kx_lf 9 (ki_getR 2 3 28 (fun o => o) 12)) (kx_br 13 (kx_lf 12 (ki_iload 1 13)) (kx_lf 13 (ki_iald 14)))) (kx_br 17 (kx_lf 14 (ki_goto 18)) (kx_br 18 (kx_lf 17 (ki_ic (-1) 18)) (kx_lf 18 (ki_iret))))))
def sp_X2_metOf : kx_Sp := kx_sp tb_X2_metOf 2
set_option maxRecDepth 100000 in
set_option maxHeartbeats 4000000 in
theorem kc_X2_metOf (l : Launch) : kx_ok1 l yX2_metOf (kx_wd yX2_metOf cX2_metOf 2 (some .int)) ({ frames := 1, cells := 0, slots := 0, locals := 21 }) sp_X2_metOf 2 0 0 := kx_met (by decide) ⟨rfl, rfl⟩ (fun p e s m args below meth c Q D C4 A cnt0 ad0 P X Z hr hn => by
  have hx := X.1.1
  have hb := X.1.2.1
  have hts := X.1.2.2.2.2
  exact (kx_sB (kx_sB (kx_sB (kx_sL (ks_aload_n hx hb rfl (by decide +kernel : decode cX2_metOf 0 = .ok (.aload_n 0, 1))))
    (kx_sL (ks_iload_n hx hb rfl (by decide +kernel : decode cX2_metOf 1 = .ok (.iload_n 1, 1)))))
    (kx_sB (kx_sL (ks_cv X (kc_X2_has l) ⟨rfl, rfl⟩ kf_2 kw_70 kw_71 kw_72 kw_73 kw_8 (by decide +kernel) (by decide) (by decide +kernel : decode cX2_metOf 2 = .ok (.invokevirtual 31, 3))))
    (kx_sB (kx_sL (ks_if_eq hx hb (by decide) (by decide +kernel : decode cX2_metOf 5 = .ok (.ifCond .eq 12, 3))))
    (kx_sL (ks_aload_n hx hb rfl (by decide +kernel : decode cX2_metOf 8 = .ok (.aload_n 0, 1)))))))
    (kx_sB (kx_sB (kx_sL (ks_getR hx hb hts X.1.2.2.2.1 X.2.1 kf_2 (j := 3) rfl kw_548 (by decide +kernel : decode cX2_metOf 9 = .ok (.getfield 21, 3))))
    (kx_sB (kx_sL (ks_iload_n hx hb rfl (by decide +kernel : decode cX2_metOf 12 = .ok (.iload_n 1, 1))))
    (kx_sL (ks_iald hx hb X.2.1 (by decide +kernel : decode cX2_metOf 13 = .ok (.iaload, 1))))))
    (kx_sB (kx_sL (ks_goto hx hb (by decide) (by decide +kernel : decode cX2_metOf 14 = .ok (.goto 4, 3))))
    (kx_sB (kx_sL (ks_iconst hx hb (by decide +kernel) (by decide +kernel : decode cX2_metOf 17 = .ok (.iconst (-1), 1))))
    (kx_sL (ks_iret Z hx hb hr (by decide +kernel : decode cX2_metOf 18 = .ok (.ireturn, 1)))))))))
def tb_X10_isWithin : Nat → kx_T := (kx_br 7 (kx_br 2 (kx_br 1 (kx_lf 0 (ki_iload 0 1)) (kx_lf 1 (ki_iload 1 2))) (kx_br 5 (kx_lf 2 (ki_icmp_lt 14 5)) (kx_br 6 (kx_lf 5 (ki_iload 0 6)) (kx_lf 6 (ki_iload 2 7))))) (kx_br 11 (kx_br 10 (kx_lf 7 (ki_icmp_gt 14 10)) (kx_lf 10 (ki_ic (1) 11))) (kx_br 14 (kx_lf 11 (ki_goto 15)) (kx_br 15 (kx_lf 14 (ki_ic (0) 15)) (kx_lf 15 (ki_zret))))))
def sp_X10_isWithin : kx_Sp := kx_sp tb_X10_isWithin 3
set_option maxRecDepth 100000 in
set_option maxHeartbeats 4000000 in
theorem kc_X10_isWithin (l : Launch) : kx_ok1 l yX10_isWithin (kx_wd yX10_isWithin cX10_isWithin 3 (some .boolean)) ({ frames := 0, cells := 0, slots := 0, locals := 0 }) sp_X10_isWithin 3 0 0 := kx_met (by decide) ⟨rfl, rfl⟩ (fun p e s m args below meth c Q D C4 A cnt0 ad0 P X Z hr hn => by
  have hx := X.1.1
  have hb := X.1.2.1
  have hts := X.1.2.2.2.2
  exact (kx_sB (kx_sB (kx_sB (kx_sL (ks_iload_n hx hb rfl (by decide +kernel : decode cX10_isWithin 0 = .ok (.iload_n 0, 1))))
    (kx_sL (ks_iload_n hx hb rfl (by decide +kernel : decode cX10_isWithin 1 = .ok (.iload_n 1, 1)))))
    (kx_sB (kx_sL (ks_icmp_lt hx hb (by decide) (by decide +kernel : decode cX10_isWithin 2 = .ok (.if_icmp .lt 12, 3))))
    (kx_sB (kx_sL (ks_iload_n hx hb rfl (by decide +kernel : decode cX10_isWithin 5 = .ok (.iload_n 0, 1))))
    (kx_sL (ks_iload_n hx hb rfl (by decide +kernel : decode cX10_isWithin 6 = .ok (.iload_n 2, 1)))))))
    (kx_sB (kx_sB (kx_sL (ks_icmp_gt hx hb (by decide) (by decide +kernel : decode cX10_isWithin 7 = .ok (.if_icmp .gt 7, 3))))
    (kx_sL (ks_iconst hx hb (by decide +kernel) (by decide +kernel : decode cX10_isWithin 10 = .ok (.iconst 1, 1)))))
    (kx_sB (kx_sL (ks_goto hx hb (by decide) (by decide +kernel : decode cX10_isWithin 11 = .ok (.goto 4, 3))))
    (kx_sB (kx_sL (ks_iconst hx hb (by decide +kernel) (by decide +kernel : decode cX10_isWithin 14 = .ok (.iconst 0, 1))))
    (kx_sL (ks_zret Z hx hb hr (by decide +kernel : decode cX10_isWithin 15 = .ok (.ireturn, 1)))))))))
def tb_X2_shipInPlace : Nat → kx_T := (kx_br 11 (kx_br 3 (kx_br 1 (kx_lf 0 (ki_iload 1 1)) (kx_br 2 (kx_lf 1 (ki_ic (0) 2)) (kx_lf 2 (ki_aload 0 3)))) (kx_br 7 (kx_br 6 (kx_lf 3 (ki_getI 2 5 6)) (kx_lf 6 (ki_ic (1) 7))) (kx_br 8 (kx_lf 7 (ki_isub 8)) (kx_lf 8 (ki_cs 3 3 sp_X10_isWithin 11))))) (kx_br 19 (kx_br 15 (kx_br 14 (kx_lf 11 (ki_if_eq 23 14)) (kx_lf 14 (ki_aload 0 15))) (kx_br 18 (kx_lf 15 (ki_getR 2 4 29 (fun o => o) 18)) (kx_lf 18 (ki_iload 1 19)))) (kx_br 23 (kx_br 20 (kx_lf 19 (ki_iald 20)) (kx_lf 20 (ki_goto 24))) (kx_br 24 (kx_lf 23 (ki_ic (-1) 24)) (kx_lf 24 (ki_iret))))))
def sp_X2_shipInPlace : kx_Sp := kx_sp tb_X2_shipInPlace 2
set_option maxRecDepth 100000 in
set_option maxHeartbeats 4000000 in
theorem kc_X2_shipInPlace (l : Launch) : kx_ok1 l yX2_shipInPlace (kx_wd yX2_shipInPlace cX2_shipInPlace 2 (some .int)) ({ frames := 1, cells := 0, slots := 0, locals := 22 }) sp_X2_shipInPlace 2 0 0 := kx_met (by decide) ⟨rfl, rfl⟩ (fun p e s m args below meth c Q D C4 A cnt0 ad0 P X Z hr hn => by
  have hx := X.1.1
  have hb := X.1.2.1
  have hts := X.1.2.2.2.2
  exact (kx_sB (kx_sB (kx_sB (kx_sL (ks_iload_n hx hb rfl (by decide +kernel : decode cX2_shipInPlace 0 = .ok (.iload_n 1, 1))))
    (kx_sB (kx_sL (ks_iconst hx hb (by decide +kernel) (by decide +kernel : decode cX2_shipInPlace 1 = .ok (.iconst 0, 1))))
    (kx_sL (ks_aload_n hx hb rfl (by decide +kernel : decode cX2_shipInPlace 2 = .ok (.aload_n 0, 1))))))
    (kx_sB (kx_sB (kx_sL (ks_getI hx hb hts X.1.2.2.2.1 X.2.1 kf_2 (j := 5) rfl kw_550 (by decide +kernel : decode cX2_shipInPlace 3 = .ok (.getfield 27, 3))))
    (kx_sL (ks_iconst hx hb (by decide +kernel) (by decide +kernel : decode cX2_shipInPlace 6 = .ok (.iconst 1, 1)))))
    (kx_sB (kx_sL (ks_isub hx hb (by decide +kernel : decode cX2_shipInPlace 7 = .ok (.isub, 1))))
    (kx_sL (ks_csN X (kc_X10_isWithin l) ⟨rfl, rfl⟩ (host := "KeptLight") (by decide +kernel) kw_34 kw_35 kw_1 (by decide +kernel) (by decide) (by decide +kernel : decode cX2_shipInPlace 8 = .ok (.invokestatic 53, 3)))))))
    (kx_sB (kx_sB (kx_sB (kx_sL (ks_if_eq hx hb (by decide) (by decide +kernel : decode cX2_shipInPlace 11 = .ok (.ifCond .eq 12, 3))))
    (kx_sL (ks_aload_n hx hb rfl (by decide +kernel : decode cX2_shipInPlace 14 = .ok (.aload_n 0, 1)))))
    (kx_sB (kx_sL (ks_getR hx hb hts X.1.2.2.2.1 X.2.1 kf_2 (j := 4) rfl kw_549 (by decide +kernel : decode cX2_shipInPlace 15 = .ok (.getfield 24, 3))))
    (kx_sL (ks_iload_n hx hb rfl (by decide +kernel : decode cX2_shipInPlace 18 = .ok (.iload_n 1, 1))))))
    (kx_sB (kx_sB (kx_sL (ks_iald hx hb X.2.1 (by decide +kernel : decode cX2_shipInPlace 19 = .ok (.iaload, 1))))
    (kx_sL (ks_goto hx hb (by decide) (by decide +kernel : decode cX2_shipInPlace 20 = .ok (.goto 4, 3)))))
    (kx_sB (kx_sL (ks_iconst hx hb (by decide +kernel) (by decide +kernel : decode cX2_shipInPlace 23 = .ok (.iconst (-1), 1))))
    (kx_sL (ks_iret Z hx hb hr (by decide +kernel : decode cX2_shipInPlace 24 = .ok (.ireturn, 1)))))))))
def tb_X2_isBehind : Nat → kx_T := (kx_br 15 (kx_br 6 (kx_br 2 (kx_br 1 (kx_lf 0 (ki_aload 0 1)) (kx_lf 1 (ki_iload 1 2))) (kx_br 5 (kx_lf 2 (ki_cv 2 1 2 sp_X2_hourOf 5)) (kx_lf 5 (ki_iload 3 6)))) (kx_br 10 (kx_br 9 (kx_lf 6 (ki_icmp_gt 27 9)) (kx_lf 9 (ki_aload 0 10))) (kx_br 11 (kx_lf 10 (ki_iload 1 11)) (kx_br 14 (kx_lf 11 (ki_cv 2 1 2 sp_X2_hourOf 14)) (kx_lf 14 (ki_iload 3 15)))))) (kx_br 24 (kx_br 19 (kx_br 18 (kx_lf 15 (ki_icmp_ne 31 18)) (kx_lf 18 (ki_aload 0 19))) (kx_br 20 (kx_lf 19 (ki_iload 1 20)) (kx_br 23 (kx_lf 20 (ki_cv 2 1 2 sp_X2_kindOf 23)) (kx_lf 23 (ki_iload 2 24))))) (kx_br 28 (kx_br 27 (kx_lf 24 (ki_icmp_ge 31 27)) (kx_lf 27 (ki_ic (1) 28))) (kx_br 31 (kx_lf 28 (ki_goto 32)) (kx_br 32 (kx_lf 31 (ki_ic (0) 32)) (kx_lf 32 (ki_zret)))))))
def sp_X2_isBehind : kx_Sp := kx_sp tb_X2_isBehind 4
set_option maxRecDepth 100000 in
set_option maxHeartbeats 4000000 in
theorem kc_X2_isBehind (l : Launch) : kx_ok1 l yX2_isBehind (kx_wd yX2_isBehind cX2_isBehind 4 (some .boolean)) ({ frames := 2, cells := 0, slots := 0, locals := 42 }) sp_X2_isBehind 4 0 0 := kx_met (by decide) ⟨rfl, rfl⟩ (fun p e s m args below meth c Q D C4 A cnt0 ad0 P X Z hr hn => by
  have hx := X.1.1
  have hb := X.1.2.1
  have hts := X.1.2.2.2.2
  exact (kx_sB (kx_sB (kx_sB (kx_sB (kx_sL (ks_aload_n hx hb rfl (by decide +kernel : decode cX2_isBehind 0 = .ok (.aload_n 0, 1))))
    (kx_sL (ks_iload_n hx hb rfl (by decide +kernel : decode cX2_isBehind 1 = .ok (.iload_n 1, 1)))))
    (kx_sB (kx_sL (ks_cv X (kc_X2_hourOf l) ⟨rfl, rfl⟩ kf_2 kw_66 kw_67 kw_68 kw_69 kw_8 (by decide +kernel) (by decide) (by decide +kernel : decode cX2_isBehind 2 = .ok (.invokevirtual 47, 3))))
    (kx_sL (ks_iload_n hx hb rfl (by decide +kernel : decode cX2_isBehind 5 = .ok (.iload_n 3, 1))))))
    (kx_sB (kx_sB (kx_sL (ks_icmp_gt hx hb (by decide) (by decide +kernel : decode cX2_isBehind 6 = .ok (.if_icmp .gt 21, 3))))
    (kx_sL (ks_aload_n hx hb rfl (by decide +kernel : decode cX2_isBehind 9 = .ok (.aload_n 0, 1)))))
    (kx_sB (kx_sL (ks_iload_n hx hb rfl (by decide +kernel : decode cX2_isBehind 10 = .ok (.iload_n 1, 1))))
    (kx_sB (kx_sL (ks_cv X (kc_X2_hourOf l) ⟨rfl, rfl⟩ kf_2 kw_66 kw_67 kw_68 kw_69 kw_8 (by decide +kernel) (by decide) (by decide +kernel : decode cX2_isBehind 11 = .ok (.invokevirtual 47, 3))))
    (kx_sL (ks_iload_n hx hb rfl (by decide +kernel : decode cX2_isBehind 14 = .ok (.iload_n 3, 1))))))))
    (kx_sB (kx_sB (kx_sB (kx_sL (ks_icmp_ne hx hb (by decide) (by decide +kernel : decode cX2_isBehind 15 = .ok (.if_icmp .ne 16, 3))))
    (kx_sL (ks_aload_n hx hb rfl (by decide +kernel : decode cX2_isBehind 18 = .ok (.aload_n 0, 1)))))
    (kx_sB (kx_sL (ks_iload_n hx hb rfl (by decide +kernel : decode cX2_isBehind 19 = .ok (.iload_n 1, 1))))
    (kx_sB (kx_sL (ks_cv X (kc_X2_kindOf l) ⟨rfl, rfl⟩ kf_2 kw_74 kw_75 kw_76 kw_77 kw_8 (by decide +kernel) (by decide) (by decide +kernel : decode cX2_isBehind 20 = .ok (.invokevirtual 50, 3))))
    (kx_sL (ks_iload_n hx hb rfl (by decide +kernel : decode cX2_isBehind 23 = .ok (.iload_n 2, 1)))))))
    (kx_sB (kx_sB (kx_sL (ks_icmp_ge hx hb (by decide) (by decide +kernel : decode cX2_isBehind 24 = .ok (.if_icmp .ge 7, 3))))
    (kx_sL (ks_iconst hx hb (by decide +kernel) (by decide +kernel : decode cX2_isBehind 27 = .ok (.iconst 1, 1)))))
    (kx_sB (kx_sL (ks_goto hx hb (by decide) (by decide +kernel : decode cX2_isBehind 28 = .ok (.goto 4, 3))))
    (kx_sB (kx_sL (ks_iconst hx hb (by decide +kernel) (by decide +kernel : decode cX2_isBehind 31 = .ok (.iconst 0, 1))))
    (kx_sL (ks_zret Z hx hb hr (by decide +kernel : decode cX2_isBehind 32 = .ok (.ireturn, 1))))))))))
def tb_X2_expect : Nat → kx_T := (kx_br 60 (kx_br 28 (kx_br 15 (kx_br 8 (kx_br 4 (kx_br 1 (kx_lf 0 (ki_aload 0 1)) (kx_lf 1 (ki_cv 2 0 1 sp_X2_isFull 4))) (kx_br 7 (kx_lf 4 (ki_if_eq 9 7)) (kx_lf 7 (ki_ic (-1) 8)))) (kx_br 10 (kx_br 9 (kx_lf 8 (ki_iret)) (kx_lf 9 (ki_aload 0 10))) (kx_br 13 (kx_lf 10 (ki_getI 2 5 13)) (kx_br 14 (kx_lf 13 (ki_istore 3 14)) (kx_lf 14 (ki_iload 3 15)))))) (kx_br 21 (kx_br 19 (kx_br 18 (kx_lf 15 (ki_if_le 54 18)) (kx_lf 18 (ki_aload 0 19))) (kx_br 20 (kx_lf 19 (ki_aload 0 20)) (kx_lf 20 (ki_iload 3 21)))) (kx_br 23 (kx_br 22 (kx_lf 21 (ki_ic (1) 22)) (kx_lf 22 (ki_isub 23))) (kx_br 26 (kx_lf 23 (ki_cv 2 1 2 sp_X2_shipInPlace 26)) (kx_br 27 (kx_lf 26 (ki_iload 1 27)) (kx_lf 27 (ki_iload 2 28))))))) (kx_br 45 (kx_br 38 (kx_br 34 (kx_br 31 (kx_lf 28 (ki_cv 2 3 4 sp_X2_isBehind 31)) (kx_lf 31 (ki_if_eq 54 34))) (kx_br 35 (kx_lf 34 (ki_aload 0 35)) (kx_lf 35 (ki_getR 2 4 29 (fun o => o) 38)))) (kx_br 40 (kx_br 39 (kx_lf 38 (ki_iload 3 39)) (kx_lf 39 (ki_aload 0 40))) (kx_br 43 (kx_lf 40 (ki_getR 2 4 29 (fun o => o) 43)) (kx_br 44 (kx_lf 43 (ki_iload 3 44)) (kx_lf 44 (ki_ic (1) 45)))))) (kx_br 51 (kx_br 47 (kx_br 46 (kx_lf 45 (ki_isub 46)) (kx_lf 46 (ki_iald 47))) (kx_br 48 (kx_lf 47 (ki_iast 48)) (kx_lf 48 (ki_iinc 3 (-1) 51)))) (kx_br 55 (kx_br 54 (kx_lf 51 (ki_goto 14)) (kx_lf 54 (ki_aload 0 55))) (kx_br 58 (kx_lf 55 (ki_getR 2 4 29 (fun o => o) 58)) (kx_br 59 (kx_lf 58 (ki_iload 3 59)) (kx_lf 59 (ki_aload 0 60)))))))) (kx_br 92 (kx_br 75 (kx_br 68 (kx_br 64 (kx_br 63 (kx_lf 60 (ki_getI 2 5 63)) (kx_lf 63 (ki_iast 64))) (kx_br 65 (kx_lf 64 (ki_aload 0 65)) (kx_lf 65 (ki_getR 2 0 25 (fun o => o) 68)))) (kx_br 72 (kx_br 69 (kx_lf 68 (ki_aload 0 69)) (kx_lf 69 (ki_getI 2 5 72))) (kx_br 73 (kx_lf 72 (ki_iload 1 73)) (kx_br 74 (kx_lf 73 (ki_iast 74)) (kx_lf 74 (ki_aload 0 75)))))) (kx_br 83 (kx_br 79 (kx_br 78 (kx_lf 75 (ki_getR 2 1 26 (fun o => o) 78)) (kx_lf 78 (ki_aload 0 79))) (kx_br 82 (kx_lf 79 (ki_getI 2 5 82)) (kx_lf 82 (ki_iload 2 83)))) (kx_br 85 (kx_br 84 (kx_lf 83 (ki_iast 84)) (kx_lf 84 (ki_aload 0 85))) (kx_br 88 (kx_lf 85 (ki_getR 2 2 27 (fun o => o) 88)) (kx_br 89 (kx_lf 88 (ki_aload 0 89)) (kx_lf 89 (ki_getI 2 5 92))))))) (kx_br 105 (kx_br 98 (kx_br 94 (kx_br 93 (kx_lf 92 (ki_ic (-1) 93)) (kx_lf 93 (ki_iast 94))) (kx_br 95 (kx_lf 94 (ki_aload 0 95)) (kx_lf 95 (ki_getR 2 3 28 (fun o => o) 98)))) (kx_br 102 (kx_br 99 (kx_lf 98 (ki_aload 0 99)) (kx_lf 99 (ki_getI 2 5 102))) (kx_br 103 (kx_lf 102 (ki_ic (-1) 103)) (kx_br 104 (kx_lf 103 (ki_iast 104)) (kx_lf 104 (ki_aload 0 105)))))) (kx_br 114 (kx_br 109 (kx_br 106 (kx_lf 105 (ki_dup 106)) (kx_lf 106 (ki_getI 2 5 109))) (kx_br 110 (kx_lf 109 (ki_ic (1) 110)) (kx_br 111 (kx_lf 110 (ki_iadd 111)) (kx_lf 111 (ki_putI 2 5 114))))) (kx_br 118 (kx_br 115 (kx_lf 114 (ki_aload 0 115)) (kx_lf 115 (ki_getI 2 5 118))) (kx_br 119 (kx_lf 118 (ki_ic (1) 119)) (kx_br 120 (kx_lf 119 (ki_isub 120)) (kx_lf 120 (ki_iret)))))))))
def sp_X2_expect : kx_Sp := kx_sp tb_X2_expect 4
set_option maxRecDepth 100000 in
set_option maxHeartbeats 4000000 in
theorem kc_X2_expect (l : Launch) : kx_ok1 l yX2_expect (kx_wd yX2_expect cX2_expect 4 (some .int)) ({ frames := 3, cells := 0, slots := 0, locals := 65 }) sp_X2_expect 4 0 0 := kx_met (by decide) ⟨rfl, rfl⟩ (fun p e s m args below meth c Q D C4 A cnt0 ad0 P X Z hr hn => by
  have hx := X.1.1
  have hb := X.1.2.1
  have hts := X.1.2.2.2.2
  exact (kx_sB (kx_sB (kx_sB (kx_sB (kx_sB (kx_sB (kx_sL (ks_aload_n hx hb rfl (by decide +kernel : decode cX2_expect 0 = .ok (.aload_n 0, 1))))
    (kx_sL (ks_cv X (kc_X2_isFull l) ⟨rfl, rfl⟩ kf_2 kw_55 kw_48 kw_49 kw_50 kw_8 (by decide +kernel) (by decide) (by decide +kernel : decode cX2_expect 1 = .ok (.invokevirtual 35, 3)))))
    (kx_sB (kx_sL (ks_if_eq hx hb (by decide) (by decide +kernel : decode cX2_expect 4 = .ok (.ifCond .eq 5, 3))))
    (kx_sL (ks_iconst hx hb (by decide +kernel) (by decide +kernel : decode cX2_expect 7 = .ok (.iconst (-1), 1))))))
    (kx_sB (kx_sB (kx_sL (ks_iret Z hx hb hr (by decide +kernel : decode cX2_expect 8 = .ok (.ireturn, 1))))
    (kx_sL (ks_aload_n hx hb rfl (by decide +kernel : decode cX2_expect 9 = .ok (.aload_n 0, 1)))))
    (kx_sB (kx_sL (ks_getI hx hb hts X.1.2.2.2.1 X.2.1 kf_2 (j := 5) rfl kw_550 (by decide +kernel : decode cX2_expect 10 = .ok (.getfield 27, 3))))
    (kx_sB (kx_sL (ks_istore_n hx hb rfl (by decide) (by decide +kernel : decode cX2_expect 13 = .ok (.istore_n 3, 1))))
    (kx_sL (ks_iload_n hx hb rfl (by decide +kernel : decode cX2_expect 14 = .ok (.iload_n 3, 1))))))))
    (kx_sB (kx_sB (kx_sB (kx_sL (ks_if_le hx hb (by decide) (by decide +kernel : decode cX2_expect 15 = .ok (.ifCond .le 39, 3))))
    (kx_sL (ks_aload_n hx hb rfl (by decide +kernel : decode cX2_expect 18 = .ok (.aload_n 0, 1)))))
    (kx_sB (kx_sL (ks_aload_n hx hb rfl (by decide +kernel : decode cX2_expect 19 = .ok (.aload_n 0, 1))))
    (kx_sL (ks_iload_n hx hb rfl (by decide +kernel : decode cX2_expect 20 = .ok (.iload_n 3, 1))))))
    (kx_sB (kx_sB (kx_sL (ks_iconst hx hb (by decide +kernel) (by decide +kernel : decode cX2_expect 21 = .ok (.iconst 1, 1))))
    (kx_sL (ks_isub hx hb (by decide +kernel : decode cX2_expect 22 = .ok (.isub, 1)))))
    (kx_sB (kx_sL (ks_cv X (kc_X2_shipInPlace l) ⟨rfl, rfl⟩ kf_2 kw_56 kw_57 kw_58 kw_59 kw_8 (by decide +kernel) (by decide) (by decide +kernel : decode cX2_expect 23 = .ok (.invokevirtual 39, 3))))
    (kx_sB (kx_sL (ks_iload_n hx hb rfl (by decide +kernel : decode cX2_expect 26 = .ok (.iload_n 1, 1))))
    (kx_sL (ks_iload_n hx hb rfl (by decide +kernel : decode cX2_expect 27 = .ok (.iload_n 2, 1)))))))))
    (kx_sB (kx_sB (kx_sB (kx_sB (kx_sL (ks_cv X (kc_X2_isBehind l) ⟨rfl, rfl⟩ kf_2 kw_61 kw_63 kv_1 kw_65 kw_8 (by decide +kernel) (by decide) (by decide +kernel : decode cX2_expect 28 = .ok (.invokevirtual 43, 3))))
    (kx_sL (ks_if_eq hx hb (by decide) (by decide +kernel : decode cX2_expect 31 = .ok (.ifCond .eq 23, 3)))))
    (kx_sB (kx_sL (ks_aload_n hx hb rfl (by decide +kernel : decode cX2_expect 34 = .ok (.aload_n 0, 1))))
    (kx_sL (ks_getR hx hb hts X.1.2.2.2.1 X.2.1 kf_2 (j := 4) rfl kw_549 (by decide +kernel : decode cX2_expect 35 = .ok (.getfield 24, 3))))))
    (kx_sB (kx_sB (kx_sL (ks_iload_n hx hb rfl (by decide +kernel : decode cX2_expect 38 = .ok (.iload_n 3, 1))))
    (kx_sL (ks_aload_n hx hb rfl (by decide +kernel : decode cX2_expect 39 = .ok (.aload_n 0, 1)))))
    (kx_sB (kx_sL (ks_getR hx hb hts X.1.2.2.2.1 X.2.1 kf_2 (j := 4) rfl kw_549 (by decide +kernel : decode cX2_expect 40 = .ok (.getfield 24, 3))))
    (kx_sB (kx_sL (ks_iload_n hx hb rfl (by decide +kernel : decode cX2_expect 43 = .ok (.iload_n 3, 1))))
    (kx_sL (ks_iconst hx hb (by decide +kernel) (by decide +kernel : decode cX2_expect 44 = .ok (.iconst 1, 1))))))))
    (kx_sB (kx_sB (kx_sB (kx_sL (ks_isub hx hb (by decide +kernel : decode cX2_expect 45 = .ok (.isub, 1))))
    (kx_sL (ks_iald hx hb X.2.1 (by decide +kernel : decode cX2_expect 46 = .ok (.iaload, 1)))))
    (kx_sB (kx_sL (ks_iast hx hb X.2.1 (by decide +kernel : decode cX2_expect 47 = .ok (.iastore, 1))))
    (kx_sL (ks_iinc hx hb (by decide +kernel) (by decide) (by decide +kernel : decode cX2_expect 48 = .ok (.iinc 3 (-1), 3))))))
    (kx_sB (kx_sB (kx_sL (ks_goto hx hb (by decide) (by decide +kernel : decode cX2_expect 51 = .ok (.goto (-37), 3))))
    (kx_sL (ks_aload_n hx hb rfl (by decide +kernel : decode cX2_expect 54 = .ok (.aload_n 0, 1)))))
    (kx_sB (kx_sL (ks_getR hx hb hts X.1.2.2.2.1 X.2.1 kf_2 (j := 4) rfl kw_549 (by decide +kernel : decode cX2_expect 55 = .ok (.getfield 24, 3))))
    (kx_sB (kx_sL (ks_iload_n hx hb rfl (by decide +kernel : decode cX2_expect 58 = .ok (.iload_n 3, 1))))
    (kx_sL (ks_aload_n hx hb rfl (by decide +kernel : decode cX2_expect 59 = .ok (.aload_n 0, 1))))))))))
    (kx_sB (kx_sB (kx_sB (kx_sB (kx_sB (kx_sL (ks_getI hx hb hts X.1.2.2.2.1 X.2.1 kf_2 (j := 5) rfl kw_550 (by decide +kernel : decode cX2_expect 60 = .ok (.getfield 27, 3))))
    (kx_sL (ks_iast hx hb X.2.1 (by decide +kernel : decode cX2_expect 63 = .ok (.iastore, 1)))))
    (kx_sB (kx_sL (ks_aload_n hx hb rfl (by decide +kernel : decode cX2_expect 64 = .ok (.aload_n 0, 1))))
    (kx_sL (ks_getR hx hb hts X.1.2.2.2.1 X.2.1 kf_2 (j := 0) rfl kw_545 (by decide +kernel : decode cX2_expect 65 = .ok (.getfield 9, 3))))))
    (kx_sB (kx_sB (kx_sL (ks_aload_n hx hb rfl (by decide +kernel : decode cX2_expect 68 = .ok (.aload_n 0, 1))))
    (kx_sL (ks_getI hx hb hts X.1.2.2.2.1 X.2.1 kf_2 (j := 5) rfl kw_550 (by decide +kernel : decode cX2_expect 69 = .ok (.getfield 27, 3)))))
    (kx_sB (kx_sL (ks_iload_n hx hb rfl (by decide +kernel : decode cX2_expect 72 = .ok (.iload_n 1, 1))))
    (kx_sB (kx_sL (ks_iast hx hb X.2.1 (by decide +kernel : decode cX2_expect 73 = .ok (.iastore, 1))))
    (kx_sL (ks_aload_n hx hb rfl (by decide +kernel : decode cX2_expect 74 = .ok (.aload_n 0, 1))))))))
    (kx_sB (kx_sB (kx_sB (kx_sL (ks_getR hx hb hts X.1.2.2.2.1 X.2.1 kf_2 (j := 1) rfl kw_546 (by decide +kernel : decode cX2_expect 75 = .ok (.getfield 15, 3))))
    (kx_sL (ks_aload_n hx hb rfl (by decide +kernel : decode cX2_expect 78 = .ok (.aload_n 0, 1)))))
    (kx_sB (kx_sL (ks_getI hx hb hts X.1.2.2.2.1 X.2.1 kf_2 (j := 5) rfl kw_550 (by decide +kernel : decode cX2_expect 79 = .ok (.getfield 27, 3))))
    (kx_sL (ks_iload_n hx hb rfl (by decide +kernel : decode cX2_expect 82 = .ok (.iload_n 2, 1))))))
    (kx_sB (kx_sB (kx_sL (ks_iast hx hb X.2.1 (by decide +kernel : decode cX2_expect 83 = .ok (.iastore, 1))))
    (kx_sL (ks_aload_n hx hb rfl (by decide +kernel : decode cX2_expect 84 = .ok (.aload_n 0, 1)))))
    (kx_sB (kx_sL (ks_getR hx hb hts X.1.2.2.2.1 X.2.1 kf_2 (j := 2) rfl kw_547 (by decide +kernel : decode cX2_expect 85 = .ok (.getfield 18, 3))))
    (kx_sB (kx_sL (ks_aload_n hx hb rfl (by decide +kernel : decode cX2_expect 88 = .ok (.aload_n 0, 1))))
    (kx_sL (ks_getI hx hb hts X.1.2.2.2.1 X.2.1 kf_2 (j := 5) rfl kw_550 (by decide +kernel : decode cX2_expect 89 = .ok (.getfield 27, 3)))))))))
    (kx_sB (kx_sB (kx_sB (kx_sB (kx_sL (ks_iconst hx hb (by decide +kernel) (by decide +kernel : decode cX2_expect 92 = .ok (.iconst (-1), 1))))
    (kx_sL (ks_iast hx hb X.2.1 (by decide +kernel : decode cX2_expect 93 = .ok (.iastore, 1)))))
    (kx_sB (kx_sL (ks_aload_n hx hb rfl (by decide +kernel : decode cX2_expect 94 = .ok (.aload_n 0, 1))))
    (kx_sL (ks_getR hx hb hts X.1.2.2.2.1 X.2.1 kf_2 (j := 3) rfl kw_548 (by decide +kernel : decode cX2_expect 95 = .ok (.getfield 21, 3))))))
    (kx_sB (kx_sB (kx_sL (ks_aload_n hx hb rfl (by decide +kernel : decode cX2_expect 98 = .ok (.aload_n 0, 1))))
    (kx_sL (ks_getI hx hb hts X.1.2.2.2.1 X.2.1 kf_2 (j := 5) rfl kw_550 (by decide +kernel : decode cX2_expect 99 = .ok (.getfield 27, 3)))))
    (kx_sB (kx_sL (ks_iconst hx hb (by decide +kernel) (by decide +kernel : decode cX2_expect 102 = .ok (.iconst (-1), 1))))
    (kx_sB (kx_sL (ks_iast hx hb X.2.1 (by decide +kernel : decode cX2_expect 103 = .ok (.iastore, 1))))
    (kx_sL (ks_aload_n hx hb rfl (by decide +kernel : decode cX2_expect 104 = .ok (.aload_n 0, 1))))))))
    (kx_sB (kx_sB (kx_sB (kx_sL (ks_dup hx hb (by decide +kernel : decode cX2_expect 105 = .ok (.dup, 1))))
    (kx_sL (ks_getI hx hb hts X.1.2.2.2.1 X.2.1 kf_2 (j := 5) rfl kw_550 (by decide +kernel : decode cX2_expect 106 = .ok (.getfield 27, 3)))))
    (kx_sB (kx_sL (ks_iconst hx hb (by decide +kernel) (by decide +kernel : decode cX2_expect 109 = .ok (.iconst 1, 1))))
    (kx_sB (kx_sL (ks_iadd hx hb (by decide +kernel : decode cX2_expect 110 = .ok (.iadd, 1))))
    (kx_sL (ks_putI hx hb hts X.1.2.2.2.1 X.2.1 kf_2 (j := 5) rfl kw_550 (by decide +kernel) (by decide +kernel) (by decide +kernel : decode cX2_expect 111 = .ok (.putfield 27, 3)))))))
    (kx_sB (kx_sB (kx_sL (ks_aload_n hx hb rfl (by decide +kernel : decode cX2_expect 114 = .ok (.aload_n 0, 1))))
    (kx_sL (ks_getI hx hb hts X.1.2.2.2.1 X.2.1 kf_2 (j := 5) rfl kw_550 (by decide +kernel : decode cX2_expect 115 = .ok (.getfield 27, 3)))))
    (kx_sB (kx_sL (ks_iconst hx hb (by decide +kernel) (by decide +kernel : decode cX2_expect 118 = .ok (.iconst 1, 1))))
    (kx_sB (kx_sL (ks_isub hx hb (by decide +kernel : decode cX2_expect 119 = .ok (.isub, 1))))
    (kx_sL (ks_iret Z hx hb hr (by decide +kernel : decode cX2_expect 120 = .ok (.ireturn, 1))))))))))))
def tb_X2_firstPlaceOf : Nat → kx_T := (kx_br 27 (kx_br 14 (kx_br 6 (kx_br 2 (kx_br 1 (kx_lf 0 (ki_ic (0) 1)) (kx_lf 1 (ki_istore 2 2))) (kx_br 3 (kx_lf 2 (ki_aload 0 3)) (kx_lf 3 (ki_getI 2 5 6)))) (kx_br 8 (kx_br 7 (kx_lf 6 (ki_istore 3 7)) (kx_lf 7 (ki_ic (0) 8))) (kx_br 10 (kx_lf 8 (ki_istore 4 10)) (kx_br 12 (kx_lf 10 (ki_iload 4 12)) (kx_lf 12 (ki_ic (32) 14)))))) (kx_br 22 (kx_br 18 (kx_br 17 (kx_lf 14 (ki_icmp_ge 60 17)) (kx_lf 17 (ki_iload 2 18))) (kx_br 19 (kx_lf 18 (ki_iload 3 19)) (kx_lf 19 (ki_icmp_ge 60 22)))) (kx_br 24 (kx_br 23 (kx_lf 22 (ki_iload 2 23)) (kx_lf 23 (ki_iload 3 24))) (kx_br 25 (kx_lf 24 (ki_iadd 25)) (kx_br 26 (kx_lf 25 (ki_ic (2) 26)) (kx_lf 26 (ki_idiv 27))))))) (kx_br 45 (kx_br 33 (kx_br 30 (kx_br 29 (kx_lf 27 (ki_istore 5 29)) (kx_lf 29 (ki_aload 0 30))) (kx_br 31 (kx_lf 30 (ki_aload 0 31)) (kx_lf 31 (ki_iload 5 33)))) (kx_br 39 (kx_br 36 (kx_lf 33 (ki_cv 2 1 2 sp_X2_shipInPlace 36)) (kx_lf 36 (ki_cv 2 1 2 sp_X2_hourOf 39))) (kx_br 40 (kx_lf 39 (ki_iload 1 40)) (kx_br 43 (kx_lf 40 (ki_icmp_ge 51 43)) (kx_lf 43 (ki_iload 5 45)))))) (kx_br 53 (kx_br 47 (kx_br 46 (kx_lf 45 (ki_ic (1) 46)) (kx_lf 46 (ki_iadd 47))) (kx_br 48 (kx_lf 47 (ki_istore 2 48)) (kx_br 51 (kx_lf 48 (ki_goto 54)) (kx_lf 51 (ki_iload 5 53))))) (kx_br 57 (kx_br 54 (kx_lf 53 (ki_istore 3 54)) (kx_lf 54 (ki_iinc 4 (1) 57))) (kx_br 60 (kx_lf 57 (ki_goto 10)) (kx_br 61 (kx_lf 60 (ki_iload 2 61)) (kx_lf 61 (ki_iret))))))))
def sp_X2_firstPlaceOf : kx_Sp := kx_sp tb_X2_firstPlaceOf 6
set_option maxRecDepth 100000 in
set_option maxHeartbeats 4000000 in
theorem kc_X2_firstPlaceOf (l : Launch) : kx_ok1 l yX2_firstPlaceOf (kx_wd yX2_firstPlaceOf cX2_firstPlaceOf 6 (some .int)) ({ frames := 2, cells := 0, slots := 0, locals := 43 }) sp_X2_firstPlaceOf 6 0 0 := kx_met (by decide) ⟨rfl, rfl⟩ (fun p e s m args below meth c Q D C4 A cnt0 ad0 P X Z hr hn => by
  have hx := X.1.1
  have hb := X.1.2.1
  have hts := X.1.2.2.2.2
  exact (kx_sB (kx_sB (kx_sB (kx_sB (kx_sB (kx_sL (ks_iconst hx hb (by decide +kernel) (by decide +kernel : decode cX2_firstPlaceOf 0 = .ok (.iconst 0, 1))))
    (kx_sL (ks_istore_n hx hb rfl (by decide) (by decide +kernel : decode cX2_firstPlaceOf 1 = .ok (.istore_n 2, 1)))))
    (kx_sB (kx_sL (ks_aload_n hx hb rfl (by decide +kernel : decode cX2_firstPlaceOf 2 = .ok (.aload_n 0, 1))))
    (kx_sL (ks_getI hx hb hts X.1.2.2.2.1 X.2.1 kf_2 (j := 5) rfl kw_550 (by decide +kernel : decode cX2_firstPlaceOf 3 = .ok (.getfield 27, 3))))))
    (kx_sB (kx_sB (kx_sL (ks_istore_n hx hb rfl (by decide) (by decide +kernel : decode cX2_firstPlaceOf 6 = .ok (.istore_n 3, 1))))
    (kx_sL (ks_iconst hx hb (by decide +kernel) (by decide +kernel : decode cX2_firstPlaceOf 7 = .ok (.iconst 0, 1)))))
    (kx_sB (kx_sL (ks_istore hx hb (by decide) (by decide +kernel : decode cX2_firstPlaceOf 8 = .ok (.istore 4, 2))))
    (kx_sB (kx_sL (ks_iload hx hb (by decide +kernel : decode cX2_firstPlaceOf 10 = .ok (.iload 4, 2))))
    (kx_sL (ks_bipush hx hb (by decide +kernel) (by decide +kernel : decode cX2_firstPlaceOf 12 = .ok (.bipush 32, 2))))))))
    (kx_sB (kx_sB (kx_sB (kx_sL (ks_icmp_ge hx hb (by decide) (by decide +kernel : decode cX2_firstPlaceOf 14 = .ok (.if_icmp .ge 46, 3))))
    (kx_sL (ks_iload_n hx hb rfl (by decide +kernel : decode cX2_firstPlaceOf 17 = .ok (.iload_n 2, 1)))))
    (kx_sB (kx_sL (ks_iload_n hx hb rfl (by decide +kernel : decode cX2_firstPlaceOf 18 = .ok (.iload_n 3, 1))))
    (kx_sL (ks_icmp_ge hx hb (by decide) (by decide +kernel : decode cX2_firstPlaceOf 19 = .ok (.if_icmp .ge 41, 3))))))
    (kx_sB (kx_sB (kx_sL (ks_iload_n hx hb rfl (by decide +kernel : decode cX2_firstPlaceOf 22 = .ok (.iload_n 2, 1))))
    (kx_sL (ks_iload_n hx hb rfl (by decide +kernel : decode cX2_firstPlaceOf 23 = .ok (.iload_n 3, 1)))))
    (kx_sB (kx_sL (ks_iadd hx hb (by decide +kernel : decode cX2_firstPlaceOf 24 = .ok (.iadd, 1))))
    (kx_sB (kx_sL (ks_iconst hx hb (by decide +kernel) (by decide +kernel : decode cX2_firstPlaceOf 25 = .ok (.iconst 2, 1))))
    (kx_sL (ks_idiv hx hb (by decide +kernel : decode cX2_firstPlaceOf 26 = .ok (.idiv, 1)))))))))
    (kx_sB (kx_sB (kx_sB (kx_sB (kx_sL (ks_istore hx hb (by decide) (by decide +kernel : decode cX2_firstPlaceOf 27 = .ok (.istore 5, 2))))
    (kx_sL (ks_aload_n hx hb rfl (by decide +kernel : decode cX2_firstPlaceOf 29 = .ok (.aload_n 0, 1)))))
    (kx_sB (kx_sL (ks_aload_n hx hb rfl (by decide +kernel : decode cX2_firstPlaceOf 30 = .ok (.aload_n 0, 1))))
    (kx_sL (ks_iload hx hb (by decide +kernel : decode cX2_firstPlaceOf 31 = .ok (.iload 5, 2))))))
    (kx_sB (kx_sB (kx_sL (ks_cv X (kc_X2_shipInPlace l) ⟨rfl, rfl⟩ kf_2 kw_56 kw_57 kw_58 kw_59 kw_8 (by decide +kernel) (by decide) (by decide +kernel : decode cX2_firstPlaceOf 33 = .ok (.invokevirtual 39, 3))))
    (kx_sL (ks_cv X (kc_X2_hourOf l) ⟨rfl, rfl⟩ kf_2 kw_66 kw_67 kw_68 kw_69 kw_8 (by decide +kernel) (by decide) (by decide +kernel : decode cX2_firstPlaceOf 36 = .ok (.invokevirtual 47, 3)))))
    (kx_sB (kx_sL (ks_iload_n hx hb rfl (by decide +kernel : decode cX2_firstPlaceOf 39 = .ok (.iload_n 1, 1))))
    (kx_sB (kx_sL (ks_icmp_ge hx hb (by decide) (by decide +kernel : decode cX2_firstPlaceOf 40 = .ok (.if_icmp .ge 11, 3))))
    (kx_sL (ks_iload hx hb (by decide +kernel : decode cX2_firstPlaceOf 43 = .ok (.iload 5, 2))))))))
    (kx_sB (kx_sB (kx_sB (kx_sL (ks_iconst hx hb (by decide +kernel) (by decide +kernel : decode cX2_firstPlaceOf 45 = .ok (.iconst 1, 1))))
    (kx_sL (ks_iadd hx hb (by decide +kernel : decode cX2_firstPlaceOf 46 = .ok (.iadd, 1)))))
    (kx_sB (kx_sL (ks_istore_n hx hb rfl (by decide) (by decide +kernel : decode cX2_firstPlaceOf 47 = .ok (.istore_n 2, 1))))
    (kx_sB (kx_sL (ks_goto hx hb (by decide) (by decide +kernel : decode cX2_firstPlaceOf 48 = .ok (.goto 6, 3))))
    (kx_sL (ks_iload hx hb (by decide +kernel : decode cX2_firstPlaceOf 51 = .ok (.iload 5, 2)))))))
    (kx_sB (kx_sB (kx_sL (ks_istore_n hx hb rfl (by decide) (by decide +kernel : decode cX2_firstPlaceOf 53 = .ok (.istore_n 3, 1))))
    (kx_sL (ks_iinc hx hb (by decide +kernel) (by decide) (by decide +kernel : decode cX2_firstPlaceOf 54 = .ok (.iinc 4 1, 3)))))
    (kx_sB (kx_sL (ks_goto hx hb (by decide) (by decide +kernel : decode cX2_firstPlaceOf 57 = .ok (.goto (-47), 3))))
    (kx_sB (kx_sL (ks_iload_n hx hb rfl (by decide +kernel : decode cX2_firstPlaceOf 60 = .ok (.iload_n 2, 1))))
    (kx_sL (ks_iret Z hx hb hr (by decide +kernel : decode cX2_firstPlaceOf 61 = .ok (.ireturn, 1)))))))))))
def tb_X2_isPlaceOf : Nat → kx_T := (kx_br 14 (kx_br 6 (kx_br 2 (kx_br 1 (kx_lf 0 (ki_aload 0 1)) (kx_lf 1 (ki_aload 0 2))) (kx_br 3 (kx_lf 2 (ki_iload 2 3)) (kx_lf 3 (ki_cv 2 1 2 sp_X2_shipInPlace 6)))) (kx_br 12 (kx_br 9 (kx_lf 6 (ki_cv 2 1 2 sp_X2_has 9)) (kx_lf 9 (ki_if_eq 29 12))) (kx_br 13 (kx_lf 12 (ki_aload 0 13)) (kx_lf 13 (ki_aload 0 14))))) (kx_br 22 (kx_br 18 (kx_br 15 (kx_lf 14 (ki_iload 2 15)) (kx_lf 15 (ki_cv 2 1 2 sp_X2_shipInPlace 18))) (kx_br 21 (kx_lf 18 (ki_cv 2 1 2 sp_X2_hourOf 21)) (kx_lf 21 (ki_iload 1 22)))) (kx_br 26 (kx_br 25 (kx_lf 22 (ki_icmp_ne 29 25)) (kx_lf 25 (ki_ic (1) 26))) (kx_br 29 (kx_lf 26 (ki_goto 30)) (kx_br 30 (kx_lf 29 (ki_ic (0) 30)) (kx_lf 30 (ki_zret)))))))
def sp_X2_isPlaceOf : kx_Sp := kx_sp tb_X2_isPlaceOf 3
set_option maxRecDepth 100000 in
set_option maxHeartbeats 4000000 in
theorem kc_X2_isPlaceOf (l : Launch) : kx_ok1 l yX2_isPlaceOf (kx_wd yX2_isPlaceOf cX2_isPlaceOf 3 (some .boolean)) ({ frames := 2, cells := 0, slots := 0, locals := 43 }) sp_X2_isPlaceOf 3 0 0 := kx_met (by decide) ⟨rfl, rfl⟩ (fun p e s m args below meth c Q D C4 A cnt0 ad0 P X Z hr hn => by
  have hx := X.1.1
  have hb := X.1.2.1
  have hts := X.1.2.2.2.2
  exact (kx_sB (kx_sB (kx_sB (kx_sB (kx_sL (ks_aload_n hx hb rfl (by decide +kernel : decode cX2_isPlaceOf 0 = .ok (.aload_n 0, 1))))
    (kx_sL (ks_aload_n hx hb rfl (by decide +kernel : decode cX2_isPlaceOf 1 = .ok (.aload_n 0, 1)))))
    (kx_sB (kx_sL (ks_iload_n hx hb rfl (by decide +kernel : decode cX2_isPlaceOf 2 = .ok (.iload_n 2, 1))))
    (kx_sL (ks_cv X (kc_X2_shipInPlace l) ⟨rfl, rfl⟩ kf_2 kw_56 kw_57 kw_58 kw_59 kw_8 (by decide +kernel) (by decide) (by decide +kernel : decode cX2_isPlaceOf 3 = .ok (.invokevirtual 39, 3))))))
    (kx_sB (kx_sB (kx_sL (ks_cv X (kc_X2_has l) ⟨rfl, rfl⟩ kf_2 kw_70 kw_71 kw_72 kw_73 kw_8 (by decide +kernel) (by decide) (by decide +kernel : decode cX2_isPlaceOf 6 = .ok (.invokevirtual 31, 3))))
    (kx_sL (ks_if_eq hx hb (by decide) (by decide +kernel : decode cX2_isPlaceOf 9 = .ok (.ifCond .eq 20, 3)))))
    (kx_sB (kx_sL (ks_aload_n hx hb rfl (by decide +kernel : decode cX2_isPlaceOf 12 = .ok (.aload_n 0, 1))))
    (kx_sL (ks_aload_n hx hb rfl (by decide +kernel : decode cX2_isPlaceOf 13 = .ok (.aload_n 0, 1)))))))
    (kx_sB (kx_sB (kx_sB (kx_sL (ks_iload_n hx hb rfl (by decide +kernel : decode cX2_isPlaceOf 14 = .ok (.iload_n 2, 1))))
    (kx_sL (ks_cv X (kc_X2_shipInPlace l) ⟨rfl, rfl⟩ kf_2 kw_56 kw_57 kw_58 kw_59 kw_8 (by decide +kernel) (by decide) (by decide +kernel : decode cX2_isPlaceOf 15 = .ok (.invokevirtual 39, 3)))))
    (kx_sB (kx_sL (ks_cv X (kc_X2_hourOf l) ⟨rfl, rfl⟩ kf_2 kw_66 kw_67 kw_68 kw_69 kw_8 (by decide +kernel) (by decide) (by decide +kernel : decode cX2_isPlaceOf 18 = .ok (.invokevirtual 47, 3))))
    (kx_sL (ks_iload_n hx hb rfl (by decide +kernel : decode cX2_isPlaceOf 21 = .ok (.iload_n 1, 1))))))
    (kx_sB (kx_sB (kx_sL (ks_icmp_ne hx hb (by decide) (by decide +kernel : decode cX2_isPlaceOf 22 = .ok (.if_icmp .ne 7, 3))))
    (kx_sL (ks_iconst hx hb (by decide +kernel) (by decide +kernel : decode cX2_isPlaceOf 25 = .ok (.iconst 1, 1)))))
    (kx_sB (kx_sL (ks_goto hx hb (by decide) (by decide +kernel : decode cX2_isPlaceOf 26 = .ok (.goto 4, 3))))
    (kx_sB (kx_sL (ks_iconst hx hb (by decide +kernel) (by decide +kernel : decode cX2_isPlaceOf 29 = .ok (.iconst 0, 1))))
    (kx_sL (ks_zret Z hx hb hr (by decide +kernel : decode cX2_isPlaceOf 30 = .ok (.ireturn, 1))))))))))
def tb_X2_becameOf : Nat → kx_T := (kx_br 13 (kx_br 5 (kx_br 1 (kx_lf 0 (ki_aload 0 1)) (kx_br 2 (kx_lf 1 (ki_iload 1 2)) (kx_lf 2 (ki_cv 2 1 2 sp_X2_has 5)))) (kx_br 9 (kx_br 8 (kx_lf 5 (ki_if_eq 22 8)) (kx_lf 8 (ki_aload 0 9))) (kx_br 12 (kx_lf 9 (ki_getR 2 2 27 (fun o => o) 12)) (kx_lf 12 (ki_iload 1 13))))) (kx_br 19 (kx_br 15 (kx_br 14 (kx_lf 13 (ki_iload 2 14)) (kx_lf 14 (ki_iast 15))) (kx_br 16 (kx_lf 15 (ki_aload 0 16)) (kx_lf 16 (ki_getR 2 3 28 (fun o => o) 19)))) (kx_br 21 (kx_br 20 (kx_lf 19 (ki_iload 1 20)) (kx_lf 20 (ki_iload 3 21))) (kx_br 22 (kx_lf 21 (ki_iast 22)) (kx_lf 22 (ki_vret))))))
def sp_X2_becameOf : kx_Sp := kx_sp tb_X2_becameOf 4
set_option maxRecDepth 100000 in
set_option maxHeartbeats 4000000 in
theorem kc_X2_becameOf (l : Launch) : kx_ok1 l yX2_becameOf (kx_wd yX2_becameOf cX2_becameOf 4 none) ({ frames := 1, cells := 0, slots := 0, locals := 21 }) sp_X2_becameOf 4 0 0 := kx_met (by decide) ⟨rfl, rfl⟩ (fun p e s m args below meth c Q D C4 A cnt0 ad0 P X Z hr hn => by
  have hx := X.1.1
  have hb := X.1.2.1
  have hts := X.1.2.2.2.2
  exact (kx_sB (kx_sB (kx_sB (kx_sL (ks_aload_n hx hb rfl (by decide +kernel : decode cX2_becameOf 0 = .ok (.aload_n 0, 1))))
    (kx_sB (kx_sL (ks_iload_n hx hb rfl (by decide +kernel : decode cX2_becameOf 1 = .ok (.iload_n 1, 1))))
    (kx_sL (ks_cv X (kc_X2_has l) ⟨rfl, rfl⟩ kf_2 kw_70 kw_71 kw_72 kw_73 kw_8 (by decide +kernel) (by decide) (by decide +kernel : decode cX2_becameOf 2 = .ok (.invokevirtual 31, 3))))))
    (kx_sB (kx_sB (kx_sL (ks_if_eq hx hb (by decide) (by decide +kernel : decode cX2_becameOf 5 = .ok (.ifCond .eq 17, 3))))
    (kx_sL (ks_aload_n hx hb rfl (by decide +kernel : decode cX2_becameOf 8 = .ok (.aload_n 0, 1)))))
    (kx_sB (kx_sL (ks_getR hx hb hts X.1.2.2.2.1 X.2.1 kf_2 (j := 2) rfl kw_547 (by decide +kernel : decode cX2_becameOf 9 = .ok (.getfield 18, 3))))
    (kx_sL (ks_iload_n hx hb rfl (by decide +kernel : decode cX2_becameOf 12 = .ok (.iload_n 1, 1)))))))
    (kx_sB (kx_sB (kx_sB (kx_sL (ks_iload_n hx hb rfl (by decide +kernel : decode cX2_becameOf 13 = .ok (.iload_n 2, 1))))
    (kx_sL (ks_iast hx hb X.2.1 (by decide +kernel : decode cX2_becameOf 14 = .ok (.iastore, 1)))))
    (kx_sB (kx_sL (ks_aload_n hx hb rfl (by decide +kernel : decode cX2_becameOf 15 = .ok (.aload_n 0, 1))))
    (kx_sL (ks_getR hx hb hts X.1.2.2.2.1 X.2.1 kf_2 (j := 3) rfl kw_548 (by decide +kernel : decode cX2_becameOf 16 = .ok (.getfield 21, 3))))))
    (kx_sB (kx_sB (kx_sL (ks_iload_n hx hb rfl (by decide +kernel : decode cX2_becameOf 19 = .ok (.iload_n 1, 1))))
    (kx_sL (ks_iload_n hx hb rfl (by decide +kernel : decode cX2_becameOf 20 = .ok (.iload_n 3, 1)))))
    (kx_sB (kx_sL (ks_iast hx hb X.2.1 (by decide +kernel : decode cX2_becameOf 21 = .ok (.iastore, 1))))
    (kx_sL (ks_vret Z hx hb hr (by decide +kernel : decode cX2_becameOf 22 = .ok (.return_, 1)))))))))
def tb_X10_kindAbove : Nat → kx_T := (kx_br 48 (kx_br 45 (kx_br 1 (kx_lf 0 (ki_iload 0 1)) (kx_br 44 (kx_lf 1 (ki_sw [((1), 44), ((2), 44), ((3), 46), ((4), 46), ((5), 48), ((6), 48), ((7), 50)] 53)) (kx_lf 44 (ki_ic (0) 45)))) (kx_br 46 (kx_lf 45 (ki_iret)) (kx_br 47 (kx_lf 46 (ki_ic (1) 47)) (kx_lf 47 (ki_iret))))) (kx_br 52 (kx_br 49 (kx_lf 48 (ki_ic (2) 49)) (kx_br 50 (kx_lf 49 (ki_iret)) (kx_lf 50 (ki_ic (6) 52)))) (kx_br 53 (kx_lf 52 (ki_iret)) (kx_br 54 (kx_lf 53 (ki_ic (-1) 54)) (kx_lf 54 (ki_iret))))))
def sp_X10_kindAbove : kx_Sp := kx_sp tb_X10_kindAbove 1
set_option maxRecDepth 100000 in
set_option maxHeartbeats 4000000 in
theorem kc_X10_kindAbove (l : Launch) : kx_ok1 l yX10_kindAbove (kx_wd yX10_kindAbove cX10_kindAbove 1 (some .int)) ({ frames := 0, cells := 0, slots := 0, locals := 0 }) sp_X10_kindAbove 1 0 0 := kx_met (by decide) ⟨rfl, rfl⟩ (fun p e s m args below meth c Q D C4 A cnt0 ad0 P X Z hr hn => by
  have hx := X.1.1
  have hb := X.1.2.1
  have hts := X.1.2.2.2.2
  exact (kx_sB (kx_sB (kx_sB (kx_sL (ks_iload_n hx hb rfl (by decide +kernel : decode cX10_kindAbove 0 = .ok (.iload_n 0, 1))))
    (kx_sB (kx_sL (ks_tab hx hb (by decide) (by decide +kernel) (by decide +kernel) (by decide +kernel : decode cX10_kindAbove 1 = .ok (.tableswitch 52 1 7 #[43, 43, 45, 45, 47, 47, 49], 43))))
    (kx_sL (ks_iconst hx hb (by decide +kernel) (by decide +kernel : decode cX10_kindAbove 44 = .ok (.iconst 0, 1))))))
    (kx_sB (kx_sL (ks_iret Z hx hb hr (by decide +kernel : decode cX10_kindAbove 45 = .ok (.ireturn, 1))))
    (kx_sB (kx_sL (ks_iconst hx hb (by decide +kernel) (by decide +kernel : decode cX10_kindAbove 46 = .ok (.iconst 1, 1))))
    (kx_sL (ks_iret Z hx hb hr (by decide +kernel : decode cX10_kindAbove 47 = .ok (.ireturn, 1)))))))
    (kx_sB (kx_sB (kx_sL (ks_iconst hx hb (by decide +kernel) (by decide +kernel : decode cX10_kindAbove 48 = .ok (.iconst 2, 1))))
    (kx_sB (kx_sL (ks_iret Z hx hb hr (by decide +kernel : decode cX10_kindAbove 49 = .ok (.ireturn, 1))))
    (kx_sL (ks_bipush hx hb (by decide +kernel) (by decide +kernel : decode cX10_kindAbove 50 = .ok (.bipush 6, 2))))))
    (kx_sB (kx_sL (ks_iret Z hx hb hr (by decide +kernel : decode cX10_kindAbove 52 = .ok (.ireturn, 1))))
    (kx_sB (kx_sL (ks_iconst hx hb (by decide +kernel) (by decide +kernel : decode cX10_kindAbove 53 = .ok (.iconst (-1), 1))))
    (kx_sL (ks_iret Z hx hb hr (by decide +kernel : decode cX10_kindAbove 54 = .ok (.ireturn, 1)))))))))
def tb_X10_isUnder : Nat → kx_T := (kx_br 16 (kx_br 5 (kx_br 2 (kx_br 1 (kx_lf 0 (ki_iload 0 1)) (kx_lf 1 (ki_istore 2 2))) (kx_br 3 (kx_lf 2 (ki_ic (0) 3)) (kx_br 4 (kx_lf 3 (ki_istore 3 4)) (kx_lf 4 (ki_iload 3 5))))) (kx_br 11 (kx_br 7 (kx_lf 5 (ki_ic (7) 7)) (kx_br 10 (kx_lf 7 (ki_icmp_gt 33 10)) (kx_lf 10 (ki_iload 2 11)))) (kx_br 12 (kx_lf 11 (ki_ic (-1) 12)) (kx_br 15 (kx_lf 12 (ki_icmp_eq 33 15)) (kx_lf 15 (ki_iload 2 16)))))) (kx_br 23 (kx_br 20 (kx_br 17 (kx_lf 16 (ki_iload 1 17)) (kx_lf 17 (ki_icmp_ne 22 20))) (kx_br 21 (kx_lf 20 (ki_ic (1) 21)) (kx_br 22 (kx_lf 21 (ki_zret)) (kx_lf 22 (ki_iload 2 23))))) (kx_br 30 (kx_br 26 (kx_lf 23 (ki_cs 1 1 sp_X10_kindAbove 26)) (kx_br 27 (kx_lf 26 (ki_istore 2 27)) (kx_lf 27 (ki_iinc 3 (1) 30)))) (kx_br 33 (kx_lf 30 (ki_goto 4)) (kx_br 34 (kx_lf 33 (ki_ic (0) 34)) (kx_lf 34 (ki_zret)))))))
def sp_X10_isUnder : kx_Sp := kx_sp tb_X10_isUnder 4
set_option maxRecDepth 100000 in
set_option maxHeartbeats 4000000 in
theorem kc_X10_isUnder (l : Launch) : kx_ok1 l yX10_isUnder (kx_wd yX10_isUnder cX10_isUnder 4 (some .boolean)) ({ frames := 1, cells := 0, slots := 0, locals := 20 }) sp_X10_isUnder 4 0 0 := kx_met (by decide) ⟨rfl, rfl⟩ (fun p e s m args below meth c Q D C4 A cnt0 ad0 P X Z hr hn => by
  have hx := X.1.1
  have hb := X.1.2.1
  have hts := X.1.2.2.2.2
  exact (kx_sB (kx_sB (kx_sB (kx_sB (kx_sL (ks_iload_n hx hb rfl (by decide +kernel : decode cX10_isUnder 0 = .ok (.iload_n 0, 1))))
    (kx_sL (ks_istore_n hx hb rfl (by decide) (by decide +kernel : decode cX10_isUnder 1 = .ok (.istore_n 2, 1)))))
    (kx_sB (kx_sL (ks_iconst hx hb (by decide +kernel) (by decide +kernel : decode cX10_isUnder 2 = .ok (.iconst 0, 1))))
    (kx_sB (kx_sL (ks_istore_n hx hb rfl (by decide) (by decide +kernel : decode cX10_isUnder 3 = .ok (.istore_n 3, 1))))
    (kx_sL (ks_iload_n hx hb rfl (by decide +kernel : decode cX10_isUnder 4 = .ok (.iload_n 3, 1)))))))
    (kx_sB (kx_sB (kx_sL (ks_bipush hx hb (by decide +kernel) (by decide +kernel : decode cX10_isUnder 5 = .ok (.bipush 7, 2))))
    (kx_sB (kx_sL (ks_icmp_gt hx hb (by decide) (by decide +kernel : decode cX10_isUnder 7 = .ok (.if_icmp .gt 26, 3))))
    (kx_sL (ks_iload_n hx hb rfl (by decide +kernel : decode cX10_isUnder 10 = .ok (.iload_n 2, 1))))))
    (kx_sB (kx_sL (ks_iconst hx hb (by decide +kernel) (by decide +kernel : decode cX10_isUnder 11 = .ok (.iconst (-1), 1))))
    (kx_sB (kx_sL (ks_icmp_eq hx hb (by decide) (by decide +kernel : decode cX10_isUnder 12 = .ok (.if_icmp .eq 21, 3))))
    (kx_sL (ks_iload_n hx hb rfl (by decide +kernel : decode cX10_isUnder 15 = .ok (.iload_n 2, 1))))))))
    (kx_sB (kx_sB (kx_sB (kx_sL (ks_iload_n hx hb rfl (by decide +kernel : decode cX10_isUnder 16 = .ok (.iload_n 1, 1))))
    (kx_sL (ks_icmp_ne hx hb (by decide) (by decide +kernel : decode cX10_isUnder 17 = .ok (.if_icmp .ne 5, 3)))))
    (kx_sB (kx_sL (ks_iconst hx hb (by decide +kernel) (by decide +kernel : decode cX10_isUnder 20 = .ok (.iconst 1, 1))))
    (kx_sB (kx_sL (ks_zret Z hx hb hr (by decide +kernel : decode cX10_isUnder 21 = .ok (.ireturn, 1))))
    (kx_sL (ks_iload_n hx hb rfl (by decide +kernel : decode cX10_isUnder 22 = .ok (.iload_n 2, 1)))))))
    (kx_sB (kx_sB (kx_sL (ks_cs X (kc_X10_kindAbove l) ⟨rfl, rfl⟩ kw_107 kw_108 kw_109 kw_1 (by decide +kernel) (by decide) (by decide +kernel : decode cX10_isUnder 23 = .ok (.invokestatic 395, 3))))
    (kx_sB (kx_sL (ks_istore_n hx hb rfl (by decide) (by decide +kernel : decode cX10_isUnder 26 = .ok (.istore_n 2, 1))))
    (kx_sL (ks_iinc hx hb (by decide +kernel) (by decide) (by decide +kernel : decode cX10_isUnder 27 = .ok (.iinc 3 1, 3))))))
    (kx_sB (kx_sL (ks_goto hx hb (by decide) (by decide +kernel : decode cX10_isUnder 30 = .ok (.goto (-26), 3))))
    (kx_sB (kx_sL (ks_iconst hx hb (by decide +kernel) (by decide +kernel : decode cX10_isUnder 33 = .ok (.iconst 0, 1))))
    (kx_sL (ks_zret Z hx hb hr (by decide +kernel : decode cX10_isUnder 34 = .ok (.ireturn, 1))))))))))
def tb_X2_countFates : Nat → kx_T := (kx_br 22 (kx_br 8 (kx_br 3 (kx_br 1 (kx_lf 0 (ki_ic (0) 1)) (kx_br 2 (kx_lf 1 (ki_istore 3 2)) (kx_lf 2 (ki_ic (0) 3)))) (kx_br 5 (kx_lf 3 (ki_istore 4 5)) (kx_br 7 (kx_lf 5 (ki_iload 4 7)) (kx_lf 7 (ki_aload 0 8))))) (kx_br 15 (kx_br 11 (kx_lf 8 (ki_getI 2 5 11)) (kx_br 14 (kx_lf 11 (ki_icmp_ge 48 14)) (kx_lf 14 (ki_aload 0 15)))) (kx_br 20 (kx_br 18 (kx_lf 15 (ki_getR 2 2 27 (fun o => o) 18)) (kx_lf 18 (ki_iload 4 20))) (kx_br 21 (kx_lf 20 (ki_iald 21)) (kx_lf 21 (ki_iload 2 22)))))) (kx_br 33 (kx_br 29 (kx_br 25 (kx_lf 22 (ki_icmp_ne 42 25)) (kx_br 26 (kx_lf 25 (ki_aload 0 26)) (kx_lf 26 (ki_getR 2 0 25 (fun o => o) 29)))) (kx_br 31 (kx_lf 29 (ki_iload 4 31)) (kx_br 32 (kx_lf 31 (ki_iald 32)) (kx_lf 32 (ki_iload 1 33))))) (kx_br 42 (kx_br 36 (kx_lf 33 (ki_cs 2 4 sp_X10_isUnder 36)) (kx_br 39 (kx_lf 36 (ki_if_eq 42 39)) (kx_lf 39 (ki_iinc 3 (1) 42)))) (kx_br 48 (kx_br 45 (kx_lf 42 (ki_iinc 4 (1) 45)) (kx_lf 45 (ki_goto 5))) (kx_br 49 (kx_lf 48 (ki_iload 3 49)) (kx_lf 49 (ki_iret)))))))
def sp_X2_countFates : kx_Sp := kx_sp tb_X2_countFates 5
set_option maxRecDepth 100000 in
set_option maxHeartbeats 4000000 in
theorem kc_X2_countFates (l : Launch) : kx_ok1 l yX2_countFates (kx_wd yX2_countFates cX2_countFates 5 (some .int)) ({ frames := 2, cells := 0, slots := 0, locals := 43 }) sp_X2_countFates 5 0 0 := kx_met (by decide) ⟨rfl, rfl⟩ (fun p e s m args below meth c Q D C4 A cnt0 ad0 P X Z hr hn => by
  have hx := X.1.1
  have hb := X.1.2.1
  have hts := X.1.2.2.2.2
  exact (kx_sB (kx_sB (kx_sB (kx_sB (kx_sL (ks_iconst hx hb (by decide +kernel) (by decide +kernel : decode cX2_countFates 0 = .ok (.iconst 0, 1))))
    (kx_sB (kx_sL (ks_istore_n hx hb rfl (by decide) (by decide +kernel : decode cX2_countFates 1 = .ok (.istore_n 3, 1))))
    (kx_sL (ks_iconst hx hb (by decide +kernel) (by decide +kernel : decode cX2_countFates 2 = .ok (.iconst 0, 1))))))
    (kx_sB (kx_sL (ks_istore hx hb (by decide) (by decide +kernel : decode cX2_countFates 3 = .ok (.istore 4, 2))))
    (kx_sB (kx_sL (ks_iload hx hb (by decide +kernel : decode cX2_countFates 5 = .ok (.iload 4, 2))))
    (kx_sL (ks_aload_n hx hb rfl (by decide +kernel : decode cX2_countFates 7 = .ok (.aload_n 0, 1)))))))
    (kx_sB (kx_sB (kx_sL (ks_getI hx hb hts X.1.2.2.2.1 X.2.1 kf_2 (j := 5) rfl kw_550 (by decide +kernel : decode cX2_countFates 8 = .ok (.getfield 27, 3))))
    (kx_sB (kx_sL (ks_icmp_ge hx hb (by decide) (by decide +kernel : decode cX2_countFates 11 = .ok (.if_icmp .ge 37, 3))))
    (kx_sL (ks_aload_n hx hb rfl (by decide +kernel : decode cX2_countFates 14 = .ok (.aload_n 0, 1))))))
    (kx_sB (kx_sB (kx_sL (ks_getR hx hb hts X.1.2.2.2.1 X.2.1 kf_2 (j := 2) rfl kw_547 (by decide +kernel : decode cX2_countFates 15 = .ok (.getfield 18, 3))))
    (kx_sL (ks_iload hx hb (by decide +kernel : decode cX2_countFates 18 = .ok (.iload 4, 2)))))
    (kx_sB (kx_sL (ks_iald hx hb X.2.1 (by decide +kernel : decode cX2_countFates 20 = .ok (.iaload, 1))))
    (kx_sL (ks_iload_n hx hb rfl (by decide +kernel : decode cX2_countFates 21 = .ok (.iload_n 2, 1))))))))
    (kx_sB (kx_sB (kx_sB (kx_sL (ks_icmp_ne hx hb (by decide) (by decide +kernel : decode cX2_countFates 22 = .ok (.if_icmp .ne 20, 3))))
    (kx_sB (kx_sL (ks_aload_n hx hb rfl (by decide +kernel : decode cX2_countFates 25 = .ok (.aload_n 0, 1))))
    (kx_sL (ks_getR hx hb hts X.1.2.2.2.1 X.2.1 kf_2 (j := 0) rfl kw_545 (by decide +kernel : decode cX2_countFates 26 = .ok (.getfield 9, 3))))))
    (kx_sB (kx_sL (ks_iload hx hb (by decide +kernel : decode cX2_countFates 29 = .ok (.iload 4, 2))))
    (kx_sB (kx_sL (ks_iald hx hb X.2.1 (by decide +kernel : decode cX2_countFates 31 = .ok (.iaload, 1))))
    (kx_sL (ks_iload_n hx hb rfl (by decide +kernel : decode cX2_countFates 32 = .ok (.iload_n 1, 1)))))))
    (kx_sB (kx_sB (kx_sL (ks_csN X (kc_X10_isUnder l) ⟨rfl, rfl⟩ (host := "KeptLight") (by decide +kernel) kw_105 kw_106 kw_1 (by decide +kernel) (by decide) (by decide +kernel : decode cX2_countFates 33 = .ok (.invokestatic 56, 3))))
    (kx_sB (kx_sL (ks_if_eq hx hb (by decide) (by decide +kernel : decode cX2_countFates 36 = .ok (.ifCond .eq 6, 3))))
    (kx_sL (ks_iinc hx hb (by decide +kernel) (by decide) (by decide +kernel : decode cX2_countFates 39 = .ok (.iinc 3 1, 3))))))
    (kx_sB (kx_sB (kx_sL (ks_iinc hx hb (by decide +kernel) (by decide) (by decide +kernel : decode cX2_countFates 42 = .ok (.iinc 4 1, 3))))
    (kx_sL (ks_goto hx hb (by decide) (by decide +kernel : decode cX2_countFates 45 = .ok (.goto (-40), 3)))))
    (kx_sB (kx_sL (ks_iload_n hx hb rfl (by decide +kernel : decode cX2_countFates 48 = .ok (.iload_n 3, 1))))
    (kx_sL (ks_iret Z hx hb hr (by decide +kernel : decode cX2_countFates 49 = .ok (.ireturn, 1))))))))))
def tb_X3_has : Nat → kx_T := (kx_br 9 (kx_br 4 (kx_br 1 (kx_lf 0 (ki_iload 1 1)) (kx_lf 1 (ki_if_lt 16 4))) (kx_br 5 (kx_lf 4 (ki_iload 1 5)) (kx_br 6 (kx_lf 5 (ki_aload 0 6)) (kx_lf 6 (ki_getI 3 4 9))))) (kx_br 13 (kx_br 12 (kx_lf 9 (ki_icmp_ge 16 12)) (kx_lf 12 (ki_ic (1) 13))) (kx_br 16 (kx_lf 13 (ki_goto 17)) (kx_br 17 (kx_lf 16 (ki_ic (0) 17)) (kx_lf 17 (ki_zret))))))
def sp_X3_has : kx_Sp := kx_sp tb_X3_has 2
set_option maxRecDepth 100000 in
set_option maxHeartbeats 4000000 in
theorem kc_X3_has (l : Launch) : kx_ok1 l yX3_has (kx_wd yX3_has cX3_has 2 (some .boolean)) ({ frames := 0, cells := 0, slots := 0, locals := 0 }) sp_X3_has 2 0 0 := kx_met (by decide) ⟨rfl, rfl⟩ (fun p e s m args below meth c Q D C4 A cnt0 ad0 P X Z hr hn => by
  have hx := X.1.1
  have hb := X.1.2.1
  have hts := X.1.2.2.2.2
  exact (kx_sB (kx_sB (kx_sB (kx_sL (ks_iload_n hx hb rfl (by decide +kernel : decode cX3_has 0 = .ok (.iload_n 1, 1))))
    (kx_sL (ks_if_lt hx hb (by decide) (by decide +kernel : decode cX3_has 1 = .ok (.ifCond .lt 15, 3)))))
    (kx_sB (kx_sL (ks_iload_n hx hb rfl (by decide +kernel : decode cX3_has 4 = .ok (.iload_n 1, 1))))
    (kx_sB (kx_sL (ks_aload_n hx hb rfl (by decide +kernel : decode cX3_has 5 = .ok (.aload_n 0, 1))))
    (kx_sL (ks_getI hx hb hts X.1.2.2.2.1 X.2.1 kf_3 (j := 4) rfl kw_577 (by decide +kernel : decode cX3_has 6 = .ok (.getfield 24, 3)))))))
    (kx_sB (kx_sB (kx_sL (ks_icmp_ge hx hb (by decide) (by decide +kernel : decode cX3_has 9 = .ok (.if_icmp .ge 7, 3))))
    (kx_sL (ks_iconst hx hb (by decide +kernel) (by decide +kernel : decode cX3_has 12 = .ok (.iconst 1, 1)))))
    (kx_sB (kx_sL (ks_goto hx hb (by decide) (by decide +kernel : decode cX3_has 13 = .ok (.goto 4, 3))))
    (kx_sB (kx_sL (ks_iconst hx hb (by decide +kernel) (by decide +kernel : decode cX3_has 16 = .ok (.iconst 0, 1))))
    (kx_sL (ks_zret Z hx hb hr (by decide +kernel : decode cX3_has 17 = .ok (.ireturn, 1)))))))))
def tb_X3_write : Nat → kx_T := (kx_br 31 (kx_br 18 (kx_br 10 (kx_br 4 (kx_br 1 (kx_lf 0 (ki_aload 0 1)) (kx_lf 1 (ki_getI 3 4 4))) (kx_br 7 (kx_lf 4 (ki_ic (400) 7)) (kx_lf 7 (ki_icmp_ge 61 10)))) (kx_br 14 (kx_br 11 (kx_lf 10 (ki_aload 0 11)) (kx_lf 11 (ki_getR 3 0 30 (fun o => o) 14))) (kx_br 15 (kx_lf 14 (ki_aload 0 15)) (kx_lf 15 (ki_getI 3 4 18))))) (kx_br 24 (kx_br 20 (kx_br 19 (kx_lf 18 (ki_iload 1 19)) (kx_lf 19 (ki_iast 20))) (kx_br 21 (kx_lf 20 (ki_aload 0 21)) (kx_lf 21 (ki_getR 3 1 31 (fun o => o) 24)))) (kx_br 28 (kx_br 25 (kx_lf 24 (ki_aload 0 25)) (kx_lf 25 (ki_getI 3 4 28))) (kx_br 29 (kx_lf 28 (ki_iload 2 29)) (kx_br 30 (kx_lf 29 (ki_iast 30)) (kx_lf 30 (ki_aload 0 31))))))) (kx_br 48 (kx_br 39 (kx_br 35 (kx_br 34 (kx_lf 31 (ki_getR 3 2 32 (fun o => o) 34)) (kx_lf 34 (ki_aload 0 35))) (kx_br 38 (kx_lf 35 (ki_getI 3 4 38)) (kx_lf 38 (ki_iload 3 39)))) (kx_br 41 (kx_br 40 (kx_lf 39 (ki_iast 40)) (kx_lf 40 (ki_aload 0 41))) (kx_br 44 (kx_lf 41 (ki_getR 3 3 33 (fun o => o) 44)) (kx_br 45 (kx_lf 44 (ki_aload 0 45)) (kx_lf 45 (ki_getI 3 4 48)))))) (kx_br 53 (kx_br 51 (kx_br 50 (kx_lf 48 (ki_iload 4 50)) (kx_lf 50 (ki_iast 51))) (kx_br 52 (kx_lf 51 (ki_aload 0 52)) (kx_lf 52 (ki_dup 53)))) (kx_br 57 (kx_br 56 (kx_lf 53 (ki_getI 3 4 56)) (kx_lf 56 (ki_ic (1) 57))) (kx_br 58 (kx_lf 57 (ki_iadd 58)) (kx_br 61 (kx_lf 58 (ki_putI 3 4 61)) (kx_lf 61 (ki_vret))))))))
def sp_X3_write : kx_Sp := kx_sp tb_X3_write 5
set_option maxRecDepth 100000 in
set_option maxHeartbeats 4000000 in
theorem kc_X3_write (l : Launch) : kx_ok1 l yX3_write (kx_wd yX3_write cX3_write 5 none) ({ frames := 0, cells := 0, slots := 0, locals := 0 }) sp_X3_write 5 0 0 := kx_met (by decide) ⟨rfl, rfl⟩ (fun p e s m args below meth c Q D C4 A cnt0 ad0 P X Z hr hn => by
  have hx := X.1.1
  have hb := X.1.2.1
  have hts := X.1.2.2.2.2
  exact (kx_sB (kx_sB (kx_sB (kx_sB (kx_sB (kx_sL (ks_aload_n hx hb rfl (by decide +kernel : decode cX3_write 0 = .ok (.aload_n 0, 1))))
    (kx_sL (ks_getI hx hb hts X.1.2.2.2.1 X.2.1 kf_3 (j := 4) rfl kw_577 (by decide +kernel : decode cX3_write 1 = .ok (.getfield 24, 3)))))
    (kx_sB (kx_sL (ks_sipush hx hb (by decide +kernel) (by decide +kernel : decode cX3_write 4 = .ok (.sipush 400, 3))))
    (kx_sL (ks_icmp_ge hx hb (by decide) (by decide +kernel : decode cX3_write 7 = .ok (.if_icmp .ge 54, 3))))))
    (kx_sB (kx_sB (kx_sL (ks_aload_n hx hb rfl (by decide +kernel : decode cX3_write 10 = .ok (.aload_n 0, 1))))
    (kx_sL (ks_getR hx hb hts X.1.2.2.2.1 X.2.1 kf_3 (j := 0) rfl kw_573 (by decide +kernel : decode cX3_write 11 = .ok (.getfield 11, 3)))))
    (kx_sB (kx_sL (ks_aload_n hx hb rfl (by decide +kernel : decode cX3_write 14 = .ok (.aload_n 0, 1))))
    (kx_sL (ks_getI hx hb hts X.1.2.2.2.1 X.2.1 kf_3 (j := 4) rfl kw_577 (by decide +kernel : decode cX3_write 15 = .ok (.getfield 24, 3)))))))
    (kx_sB (kx_sB (kx_sB (kx_sL (ks_iload_n hx hb rfl (by decide +kernel : decode cX3_write 18 = .ok (.iload_n 1, 1))))
    (kx_sL (ks_iast hx hb X.2.1 (by decide +kernel : decode cX3_write 19 = .ok (.iastore, 1)))))
    (kx_sB (kx_sL (ks_aload_n hx hb rfl (by decide +kernel : decode cX3_write 20 = .ok (.aload_n 0, 1))))
    (kx_sL (ks_getR hx hb hts X.1.2.2.2.1 X.2.1 kf_3 (j := 1) rfl kw_574 (by decide +kernel : decode cX3_write 21 = .ok (.getfield 15, 3))))))
    (kx_sB (kx_sB (kx_sL (ks_aload_n hx hb rfl (by decide +kernel : decode cX3_write 24 = .ok (.aload_n 0, 1))))
    (kx_sL (ks_getI hx hb hts X.1.2.2.2.1 X.2.1 kf_3 (j := 4) rfl kw_577 (by decide +kernel : decode cX3_write 25 = .ok (.getfield 24, 3)))))
    (kx_sB (kx_sL (ks_iload_n hx hb rfl (by decide +kernel : decode cX3_write 28 = .ok (.iload_n 2, 1))))
    (kx_sB (kx_sL (ks_iast hx hb X.2.1 (by decide +kernel : decode cX3_write 29 = .ok (.iastore, 1))))
    (kx_sL (ks_aload_n hx hb rfl (by decide +kernel : decode cX3_write 30 = .ok (.aload_n 0, 1)))))))))
    (kx_sB (kx_sB (kx_sB (kx_sB (kx_sL (ks_getR hx hb hts X.1.2.2.2.1 X.2.1 kf_3 (j := 2) rfl kw_575 (by decide +kernel : decode cX3_write 31 = .ok (.getfield 18, 3))))
    (kx_sL (ks_aload_n hx hb rfl (by decide +kernel : decode cX3_write 34 = .ok (.aload_n 0, 1)))))
    (kx_sB (kx_sL (ks_getI hx hb hts X.1.2.2.2.1 X.2.1 kf_3 (j := 4) rfl kw_577 (by decide +kernel : decode cX3_write 35 = .ok (.getfield 24, 3))))
    (kx_sL (ks_iload_n hx hb rfl (by decide +kernel : decode cX3_write 38 = .ok (.iload_n 3, 1))))))
    (kx_sB (kx_sB (kx_sL (ks_iast hx hb X.2.1 (by decide +kernel : decode cX3_write 39 = .ok (.iastore, 1))))
    (kx_sL (ks_aload_n hx hb rfl (by decide +kernel : decode cX3_write 40 = .ok (.aload_n 0, 1)))))
    (kx_sB (kx_sL (ks_getR hx hb hts X.1.2.2.2.1 X.2.1 kf_3 (j := 3) rfl kw_576 (by decide +kernel : decode cX3_write 41 = .ok (.getfield 21, 3))))
    (kx_sB (kx_sL (ks_aload_n hx hb rfl (by decide +kernel : decode cX3_write 44 = .ok (.aload_n 0, 1))))
    (kx_sL (ks_getI hx hb hts X.1.2.2.2.1 X.2.1 kf_3 (j := 4) rfl kw_577 (by decide +kernel : decode cX3_write 45 = .ok (.getfield 24, 3))))))))
    (kx_sB (kx_sB (kx_sB (kx_sL (ks_iload hx hb (by decide +kernel : decode cX3_write 48 = .ok (.iload 4, 2))))
    (kx_sL (ks_iast hx hb X.2.1 (by decide +kernel : decode cX3_write 50 = .ok (.iastore, 1)))))
    (kx_sB (kx_sL (ks_aload_n hx hb rfl (by decide +kernel : decode cX3_write 51 = .ok (.aload_n 0, 1))))
    (kx_sL (ks_dup hx hb (by decide +kernel : decode cX3_write 52 = .ok (.dup, 1))))))
    (kx_sB (kx_sB (kx_sL (ks_getI hx hb hts X.1.2.2.2.1 X.2.1 kf_3 (j := 4) rfl kw_577 (by decide +kernel : decode cX3_write 53 = .ok (.getfield 24, 3))))
    (kx_sL (ks_iconst hx hb (by decide +kernel) (by decide +kernel : decode cX3_write 56 = .ok (.iconst 1, 1)))))
    (kx_sB (kx_sL (ks_iadd hx hb (by decide +kernel : decode cX3_write 57 = .ok (.iadd, 1))))
    (kx_sB (kx_sL (ks_putI hx hb hts X.1.2.2.2.1 X.2.1 kf_3 (j := 4) rfl kw_577 (by decide +kernel) (by decide +kernel) (by decide +kernel : decode cX3_write 58 = .ok (.putfield 24, 3))))
    (kx_sL (ks_vret Z hx hb hr (by decide +kernel : decode cX3_write 61 = .ok (.return_, 1)))))))))))
def tb_X3_hourOf : Nat → kx_T := (kx_br 9 (kx_br 2 (kx_br 1 (kx_lf 0 (ki_aload 0 1)) (kx_lf 1 (ki_iload 1 2))) (kx_br 5 (kx_lf 2 (ki_cv 3 1 2 sp_X3_has 5)) (kx_br 8 (kx_lf 5 (ki_if_eq 17 8)) (kx_lf 8 (ki_aload 0 9))))) (kx_br 14 (kx_br 12 (kx_lf 9 (ki_getR 3 0 30 (fun o => o) 12)) (kx_br 13 (kx_lf 12 (ki_iload 1 13)) (kx_lf 13 (ki_iald 14)))) (kx_br 17 (kx_lf 14 (ki_goto 18)) (kx_br 18 (kx_lf 17 (ki_ic (-1) 18)) (kx_lf 18 (ki_iret))))))
def sp_X3_hourOf : kx_Sp := kx_sp tb_X3_hourOf 2
set_option maxRecDepth 100000 in
set_option maxHeartbeats 4000000 in
theorem kc_X3_hourOf (l : Launch) : kx_ok1 l yX3_hourOf (kx_wd yX3_hourOf cX3_hourOf 2 (some .int)) ({ frames := 1, cells := 0, slots := 0, locals := 21 }) sp_X3_hourOf 2 0 0 := kx_met (by decide) ⟨rfl, rfl⟩ (fun p e s m args below meth c Q D C4 A cnt0 ad0 P X Z hr hn => by
  have hx := X.1.1
  have hb := X.1.2.1
  have hts := X.1.2.2.2.2
  exact (kx_sB (kx_sB (kx_sB (kx_sL (ks_aload_n hx hb rfl (by decide +kernel : decode cX3_hourOf 0 = .ok (.aload_n 0, 1))))
    (kx_sL (ks_iload_n hx hb rfl (by decide +kernel : decode cX3_hourOf 1 = .ok (.iload_n 1, 1)))))
    (kx_sB (kx_sL (ks_cv X (kc_X3_has l) ⟨rfl, rfl⟩ kf_3 kw_258 kw_259 kw_260 kw_261 kw_9 (by decide +kernel) (by decide) (by decide +kernel : decode cX3_hourOf 2 = .ok (.invokevirtual 28, 3))))
    (kx_sB (kx_sL (ks_if_eq hx hb (by decide) (by decide +kernel : decode cX3_hourOf 5 = .ok (.ifCond .eq 12, 3))))
    (kx_sL (ks_aload_n hx hb rfl (by decide +kernel : decode cX3_hourOf 8 = .ok (.aload_n 0, 1)))))))
    (kx_sB (kx_sB (kx_sL (ks_getR hx hb hts X.1.2.2.2.1 X.2.1 kf_3 (j := 0) rfl kw_573 (by decide +kernel : decode cX3_hourOf 9 = .ok (.getfield 11, 3))))
    (kx_sB (kx_sL (ks_iload_n hx hb rfl (by decide +kernel : decode cX3_hourOf 12 = .ok (.iload_n 1, 1))))
    (kx_sL (ks_iald hx hb X.2.1 (by decide +kernel : decode cX3_hourOf 13 = .ok (.iaload, 1))))))
    (kx_sB (kx_sL (ks_goto hx hb (by decide) (by decide +kernel : decode cX3_hourOf 14 = .ok (.goto 4, 3))))
    (kx_sB (kx_sL (ks_iconst hx hb (by decide +kernel) (by decide +kernel : decode cX3_hourOf 17 = .ok (.iconst (-1), 1))))
    (kx_sL (ks_iret Z hx hb hr (by decide +kernel : decode cX3_hourOf 18 = .ok (.ireturn, 1)))))))))
def tb_X3_sortOf : Nat → kx_T := (kx_br 9 (kx_br 2 (kx_br 1 (kx_lf 0 (ki_aload 0 1)) (kx_lf 1 (ki_iload 1 2))) (kx_br 5 (kx_lf 2 (ki_cv 3 1 2 sp_X3_has 5)) (kx_br 8 (kx_lf 5 (ki_if_eq 17 8)) (kx_lf 8 (ki_aload 0 9))))) (kx_br 14 (kx_br 12 (kx_lf 9 (ki_getR 3 1 31 (fun o => o) 12)) (kx_br 13 (kx_lf 12 (ki_iload 1 13)) (kx_lf 13 (ki_iald 14)))) (kx_br 17 (kx_lf 14 (ki_goto 18)) (kx_br 18 (kx_lf 17 (ki_ic (-1) 18)) (kx_lf 18 (ki_iret))))))
def sp_X3_sortOf : kx_Sp := kx_sp tb_X3_sortOf 2
set_option maxRecDepth 100000 in
set_option maxHeartbeats 4000000 in
theorem kc_X3_sortOf (l : Launch) : kx_ok1 l yX3_sortOf (kx_wd yX3_sortOf cX3_sortOf 2 (some .int)) ({ frames := 1, cells := 0, slots := 0, locals := 21 }) sp_X3_sortOf 2 0 0 := kx_met (by decide) ⟨rfl, rfl⟩ (fun p e s m args below meth c Q D C4 A cnt0 ad0 P X Z hr hn => by
  have hx := X.1.1
  have hb := X.1.2.1
  have hts := X.1.2.2.2.2
  exact (kx_sB (kx_sB (kx_sB (kx_sL (ks_aload_n hx hb rfl (by decide +kernel : decode cX3_sortOf 0 = .ok (.aload_n 0, 1))))
    (kx_sL (ks_iload_n hx hb rfl (by decide +kernel : decode cX3_sortOf 1 = .ok (.iload_n 1, 1)))))
    (kx_sB (kx_sL (ks_cv X (kc_X3_has l) ⟨rfl, rfl⟩ kf_3 kw_258 kw_259 kw_260 kw_261 kw_9 (by decide +kernel) (by decide) (by decide +kernel : decode cX3_sortOf 2 = .ok (.invokevirtual 28, 3))))
    (kx_sB (kx_sL (ks_if_eq hx hb (by decide) (by decide +kernel : decode cX3_sortOf 5 = .ok (.ifCond .eq 12, 3))))
    (kx_sL (ks_aload_n hx hb rfl (by decide +kernel : decode cX3_sortOf 8 = .ok (.aload_n 0, 1)))))))
    (kx_sB (kx_sB (kx_sL (ks_getR hx hb hts X.1.2.2.2.1 X.2.1 kf_3 (j := 1) rfl kw_574 (by decide +kernel : decode cX3_sortOf 9 = .ok (.getfield 15, 3))))
    (kx_sB (kx_sL (ks_iload_n hx hb rfl (by decide +kernel : decode cX3_sortOf 12 = .ok (.iload_n 1, 1))))
    (kx_sL (ks_iald hx hb X.2.1 (by decide +kernel : decode cX3_sortOf 13 = .ok (.iaload, 1))))))
    (kx_sB (kx_sL (ks_goto hx hb (by decide) (by decide +kernel : decode cX3_sortOf 14 = .ok (.goto 4, 3))))
    (kx_sB (kx_sL (ks_iconst hx hb (by decide +kernel) (by decide +kernel : decode cX3_sortOf 17 = .ok (.iconst (-1), 1))))
    (kx_sL (ks_iret Z hx hb hr (by decide +kernel : decode cX3_sortOf 18 = .ok (.ireturn, 1)))))))))
def tb_X3_writerOf : Nat → kx_T := (kx_br 9 (kx_br 2 (kx_br 1 (kx_lf 0 (ki_aload 0 1)) (kx_lf 1 (ki_iload 1 2))) (kx_br 5 (kx_lf 2 (ki_cv 3 1 2 sp_X3_has 5)) (kx_br 8 (kx_lf 5 (ki_if_eq 17 8)) (kx_lf 8 (ki_aload 0 9))))) (kx_br 14 (kx_br 12 (kx_lf 9 (ki_getR 3 3 33 (fun o => o) 12)) (kx_br 13 (kx_lf 12 (ki_iload 1 13)) (kx_lf 13 (ki_iald 14)))) (kx_br 17 (kx_lf 14 (ki_goto 18)) (kx_br 18 (kx_lf 17 (ki_ic (-1) 18)) (kx_lf 18 (ki_iret))))))
def sp_X3_writerOf : kx_Sp := kx_sp tb_X3_writerOf 2
set_option maxRecDepth 100000 in
set_option maxHeartbeats 4000000 in
theorem kc_X3_writerOf (l : Launch) : kx_ok1 l yX3_writerOf (kx_wd yX3_writerOf cX3_writerOf 2 (some .int)) ({ frames := 1, cells := 0, slots := 0, locals := 21 }) sp_X3_writerOf 2 0 0 := kx_met (by decide) ⟨rfl, rfl⟩ (fun p e s m args below meth c Q D C4 A cnt0 ad0 P X Z hr hn => by
  have hx := X.1.1
  have hb := X.1.2.1
  have hts := X.1.2.2.2.2
  exact (kx_sB (kx_sB (kx_sB (kx_sL (ks_aload_n hx hb rfl (by decide +kernel : decode cX3_writerOf 0 = .ok (.aload_n 0, 1))))
    (kx_sL (ks_iload_n hx hb rfl (by decide +kernel : decode cX3_writerOf 1 = .ok (.iload_n 1, 1)))))
    (kx_sB (kx_sL (ks_cv X (kc_X3_has l) ⟨rfl, rfl⟩ kf_3 kw_258 kw_259 kw_260 kw_261 kw_9 (by decide +kernel) (by decide) (by decide +kernel : decode cX3_writerOf 2 = .ok (.invokevirtual 28, 3))))
    (kx_sB (kx_sL (ks_if_eq hx hb (by decide) (by decide +kernel : decode cX3_writerOf 5 = .ok (.ifCond .eq 12, 3))))
    (kx_sL (ks_aload_n hx hb rfl (by decide +kernel : decode cX3_writerOf 8 = .ok (.aload_n 0, 1)))))))
    (kx_sB (kx_sB (kx_sL (ks_getR hx hb hts X.1.2.2.2.1 X.2.1 kf_3 (j := 3) rfl kw_576 (by decide +kernel : decode cX3_writerOf 9 = .ok (.getfield 21, 3))))
    (kx_sB (kx_sL (ks_iload_n hx hb rfl (by decide +kernel : decode cX3_writerOf 12 = .ok (.iload_n 1, 1))))
    (kx_sL (ks_iald hx hb X.2.1 (by decide +kernel : decode cX3_writerOf 13 = .ok (.iaload, 1))))))
    (kx_sB (kx_sL (ks_goto hx hb (by decide) (by decide +kernel : decode cX3_writerOf 14 = .ok (.goto 4, 3))))
    (kx_sB (kx_sL (ks_iconst hx hb (by decide +kernel) (by decide +kernel : decode cX3_writerOf 17 = .ok (.iconst (-1), 1))))
    (kx_sL (ks_iret Z hx hb hr (by decide +kernel : decode cX3_writerOf 18 = .ok (.ireturn, 1)))))))))
def tb_X3_countOf : Nat → kx_T := (kx_br 18 (kx_br 6 (kx_br 3 (kx_br 1 (kx_lf 0 (ki_ic (0) 1)) (kx_br 2 (kx_lf 1 (ki_istore 2 2)) (kx_lf 2 (ki_ic (0) 3)))) (kx_br 4 (kx_lf 3 (ki_istore 3 4)) (kx_br 5 (kx_lf 4 (ki_iload 3 5)) (kx_lf 5 (ki_aload 0 6))))) (kx_br 13 (kx_br 9 (kx_lf 6 (ki_getI 3 4 9)) (kx_br 12 (kx_lf 9 (ki_icmp_ge 36 12)) (kx_lf 12 (ki_iload 2 13)))) (kx_br 14 (kx_lf 13 (ki_aload 0 14)) (kx_br 17 (kx_lf 14 (ki_getR 3 1 31 (fun o => o) 17)) (kx_lf 17 (ki_iload 3 18)))))) (kx_br 28 (kx_br 23 (kx_br 19 (kx_lf 18 (ki_iald 19)) (kx_br 20 (kx_lf 19 (ki_iload 1 20)) (kx_lf 20 (ki_icmp_ne 27 23)))) (kx_br 24 (kx_lf 23 (ki_ic (1) 24)) (kx_br 27 (kx_lf 24 (ki_goto 28)) (kx_lf 27 (ki_ic (0) 28))))) (kx_br 33 (kx_br 29 (kx_lf 28 (ki_iadd 29)) (kx_br 30 (kx_lf 29 (ki_istore 2 30)) (kx_lf 30 (ki_iinc 3 (1) 33)))) (kx_br 36 (kx_lf 33 (ki_goto 4)) (kx_br 37 (kx_lf 36 (ki_iload 2 37)) (kx_lf 37 (ki_iret)))))))
def sp_X3_countOf : kx_Sp := kx_sp tb_X3_countOf 4
set_option maxRecDepth 100000 in
set_option maxHeartbeats 4000000 in
theorem kc_X3_countOf (l : Launch) : kx_ok1 l yX3_countOf (kx_wd yX3_countOf cX3_countOf 4 (some .int)) ({ frames := 0, cells := 0, slots := 0, locals := 0 }) sp_X3_countOf 4 0 0 := kx_met (by decide) ⟨rfl, rfl⟩ (fun p e s m args below meth c Q D C4 A cnt0 ad0 P X Z hr hn => by
  have hx := X.1.1
  have hb := X.1.2.1
  have hts := X.1.2.2.2.2
  exact (kx_sB (kx_sB (kx_sB (kx_sB (kx_sL (ks_iconst hx hb (by decide +kernel) (by decide +kernel : decode cX3_countOf 0 = .ok (.iconst 0, 1))))
    (kx_sB (kx_sL (ks_istore_n hx hb rfl (by decide) (by decide +kernel : decode cX3_countOf 1 = .ok (.istore_n 2, 1))))
    (kx_sL (ks_iconst hx hb (by decide +kernel) (by decide +kernel : decode cX3_countOf 2 = .ok (.iconst 0, 1))))))
    (kx_sB (kx_sL (ks_istore_n hx hb rfl (by decide) (by decide +kernel : decode cX3_countOf 3 = .ok (.istore_n 3, 1))))
    (kx_sB (kx_sL (ks_iload_n hx hb rfl (by decide +kernel : decode cX3_countOf 4 = .ok (.iload_n 3, 1))))
    (kx_sL (ks_aload_n hx hb rfl (by decide +kernel : decode cX3_countOf 5 = .ok (.aload_n 0, 1)))))))
    (kx_sB (kx_sB (kx_sL (ks_getI hx hb hts X.1.2.2.2.1 X.2.1 kf_3 (j := 4) rfl kw_577 (by decide +kernel : decode cX3_countOf 6 = .ok (.getfield 24, 3))))
    (kx_sB (kx_sL (ks_icmp_ge hx hb (by decide) (by decide +kernel : decode cX3_countOf 9 = .ok (.if_icmp .ge 27, 3))))
    (kx_sL (ks_iload_n hx hb rfl (by decide +kernel : decode cX3_countOf 12 = .ok (.iload_n 2, 1))))))
    (kx_sB (kx_sL (ks_aload_n hx hb rfl (by decide +kernel : decode cX3_countOf 13 = .ok (.aload_n 0, 1))))
    (kx_sB (kx_sL (ks_getR hx hb hts X.1.2.2.2.1 X.2.1 kf_3 (j := 1) rfl kw_574 (by decide +kernel : decode cX3_countOf 14 = .ok (.getfield 15, 3))))
    (kx_sL (ks_iload_n hx hb rfl (by decide +kernel : decode cX3_countOf 17 = .ok (.iload_n 3, 1))))))))
    (kx_sB (kx_sB (kx_sB (kx_sL (ks_iald hx hb X.2.1 (by decide +kernel : decode cX3_countOf 18 = .ok (.iaload, 1))))
    (kx_sB (kx_sL (ks_iload_n hx hb rfl (by decide +kernel : decode cX3_countOf 19 = .ok (.iload_n 1, 1))))
    (kx_sL (ks_icmp_ne hx hb (by decide) (by decide +kernel : decode cX3_countOf 20 = .ok (.if_icmp .ne 7, 3))))))
    (kx_sB (kx_sL (ks_iconst hx hb (by decide +kernel) (by decide +kernel : decode cX3_countOf 23 = .ok (.iconst 1, 1))))
    (kx_sB (kx_sL (ks_goto hx hb (by decide) (by decide +kernel : decode cX3_countOf 24 = .ok (.goto 4, 3))))
    (kx_sL (ks_iconst hx hb (by decide +kernel) (by decide +kernel : decode cX3_countOf 27 = .ok (.iconst 0, 1)))))))
    (kx_sB (kx_sB (kx_sL (ks_iadd hx hb (by decide +kernel : decode cX3_countOf 28 = .ok (.iadd, 1))))
    (kx_sB (kx_sL (ks_istore_n hx hb rfl (by decide) (by decide +kernel : decode cX3_countOf 29 = .ok (.istore_n 2, 1))))
    (kx_sL (ks_iinc hx hb (by decide +kernel) (by decide) (by decide +kernel : decode cX3_countOf 30 = .ok (.iinc 3 1, 3))))))
    (kx_sB (kx_sL (ks_goto hx hb (by decide) (by decide +kernel : decode cX3_countOf 33 = .ok (.goto (-29), 3))))
    (kx_sB (kx_sL (ks_iload_n hx hb rfl (by decide +kernel : decode cX3_countOf 36 = .ok (.iload_n 2, 1))))
    (kx_sL (ks_iret Z hx hb hr (by decide +kernel : decode cX3_countOf 37 = .ok (.ireturn, 1))))))))))
def tb_X4_isEmpty : Nat → kx_T := (kx_br 8 (kx_br 4 (kx_br 1 (kx_lf 0 (ki_aload 0 1)) (kx_lf 1 (ki_getI 4 2 4))) (kx_br 5 (kx_lf 4 (ki_ic (-1) 5)) (kx_lf 5 (ki_icmp_ne 12 8)))) (kx_br 12 (kx_br 9 (kx_lf 8 (ki_ic (1) 9)) (kx_lf 9 (ki_goto 13))) (kx_br 13 (kx_lf 12 (ki_ic (0) 13)) (kx_lf 13 (ki_zret)))))
def sp_X4_isEmpty : kx_Sp := kx_sp tb_X4_isEmpty 1
set_option maxRecDepth 100000 in
set_option maxHeartbeats 4000000 in
theorem kc_X4_isEmpty (l : Launch) : kx_ok1 l yX4_isEmpty (kx_wd yX4_isEmpty cX4_isEmpty 1 (some .boolean)) ({ frames := 0, cells := 0, slots := 0, locals := 0 }) sp_X4_isEmpty 1 0 0 := kx_met (by decide) ⟨rfl, rfl⟩ (fun p e s m args below meth c Q D C4 A cnt0 ad0 P X Z hr hn => by
  have hx := X.1.1
  have hb := X.1.2.1
  have hts := X.1.2.2.2.2
  exact (kx_sB (kx_sB (kx_sB (kx_sL (ks_aload_n hx hb rfl (by decide +kernel : decode cX4_isEmpty 0 = .ok (.aload_n 0, 1))))
    (kx_sL (ks_getI hx hb hts X.1.2.2.2.1 X.2.1 kf_4 (j := 2) rfl kw_674 (by decide +kernel : decode cX4_isEmpty 1 = .ok (.getfield 19, 3)))))
    (kx_sB (kx_sL (ks_iconst hx hb (by decide +kernel) (by decide +kernel : decode cX4_isEmpty 4 = .ok (.iconst (-1), 1))))
    (kx_sL (ks_icmp_ne hx hb (by decide) (by decide +kernel : decode cX4_isEmpty 5 = .ok (.if_icmp .ne 7, 3))))))
    (kx_sB (kx_sB (kx_sL (ks_iconst hx hb (by decide +kernel) (by decide +kernel : decode cX4_isEmpty 8 = .ok (.iconst 1, 1))))
    (kx_sL (ks_goto hx hb (by decide) (by decide +kernel : decode cX4_isEmpty 9 = .ok (.goto 4, 3)))))
    (kx_sB (kx_sL (ks_iconst hx hb (by decide +kernel) (by decide +kernel : decode cX4_isEmpty 12 = .ok (.iconst 0, 1))))
    (kx_sL (ks_zret Z hx hb hr (by decide +kernel : decode cX4_isEmpty 13 = .ok (.ireturn, 1))))))))
def tb_X5_isFull : Nat → kx_T := (kx_br 9 (kx_br 4 (kx_br 1 (kx_lf 0 (ki_aload 0 1)) (kx_lf 1 (ki_getI 5 2 4))) (kx_br 6 (kx_lf 4 (ki_ic (20) 6)) (kx_lf 6 (ki_icmp_lt 13 9)))) (kx_br 13 (kx_br 10 (kx_lf 9 (ki_ic (1) 10)) (kx_lf 10 (ki_goto 14))) (kx_br 14 (kx_lf 13 (ki_ic (0) 14)) (kx_lf 14 (ki_zret)))))
def sp_X5_isFull : kx_Sp := kx_sp tb_X5_isFull 1
set_option maxRecDepth 100000 in
set_option maxHeartbeats 4000000 in
theorem kc_X5_isFull (l : Launch) : kx_ok1 l yX5_isFull (kx_wd yX5_isFull cX5_isFull 1 (some .boolean)) ({ frames := 0, cells := 0, slots := 0, locals := 0 }) sp_X5_isFull 1 0 0 := kx_met (by decide) ⟨rfl, rfl⟩ (fun p e s m args below meth c Q D C4 A cnt0 ad0 P X Z hr hn => by
  have hx := X.1.1
  have hb := X.1.2.1
  have hts := X.1.2.2.2.2
  exact (kx_sB (kx_sB (kx_sB (kx_sL (ks_aload_n hx hb rfl (by decide +kernel : decode cX5_isFull 0 = .ok (.aload_n 0, 1))))
    (kx_sL (ks_getI hx hb hts X.1.2.2.2.1 X.2.1 kf_5 (j := 2) rfl kw_396 (by decide +kernel : decode cX5_isFull 1 = .ok (.getfield 18, 3)))))
    (kx_sB (kx_sL (ks_bipush hx hb (by decide +kernel) (by decide +kernel : decode cX5_isFull 4 = .ok (.bipush 20, 2))))
    (kx_sL (ks_icmp_lt hx hb (by decide) (by decide +kernel : decode cX5_isFull 6 = .ok (.if_icmp .lt 7, 3))))))
    (kx_sB (kx_sB (kx_sL (ks_iconst hx hb (by decide +kernel) (by decide +kernel : decode cX5_isFull 9 = .ok (.iconst 1, 1))))
    (kx_sL (ks_goto hx hb (by decide) (by decide +kernel : decode cX5_isFull 10 = .ok (.goto 4, 3)))))
    (kx_sB (kx_sL (ks_iconst hx hb (by decide +kernel) (by decide +kernel : decode cX5_isFull 13 = .ok (.iconst 0, 1))))
    (kx_sL (ks_zret Z hx hb hr (by decide +kernel : decode cX5_isFull 14 = .ok (.ireturn, 1))))))))
def tb_X5_clear : Nat → kx_T := (kx_br 5 (kx_br 1 (kx_lf 0 (ki_aload 0 1)) (kx_br 2 (kx_lf 1 (ki_ic (0) 2)) (kx_lf 2 (ki_putI 5 2 5)))) (kx_br 7 (kx_br 6 (kx_lf 5 (ki_aload 0 6)) (kx_lf 6 (ki_ic (0) 7))) (kx_br 10 (kx_lf 7 (ki_putI 5 3 10)) (kx_lf 10 (ki_vret)))))
def sp_X5_clear : kx_Sp := kx_sp tb_X5_clear 1
set_option maxRecDepth 100000 in
set_option maxHeartbeats 4000000 in
theorem kc_X5_clear (l : Launch) : kx_ok1 l yX5_clear (kx_wd yX5_clear cX5_clear 1 none) ({ frames := 0, cells := 0, slots := 0, locals := 0 }) sp_X5_clear 1 0 0 := kx_met (by decide) ⟨rfl, rfl⟩ (fun p e s m args below meth c Q D C4 A cnt0 ad0 P X Z hr hn => by
  have hx := X.1.1
  have hb := X.1.2.1
  have hts := X.1.2.2.2.2
  exact (kx_sB (kx_sB (kx_sL (ks_aload_n hx hb rfl (by decide +kernel : decode cX5_clear 0 = .ok (.aload_n 0, 1))))
    (kx_sB (kx_sL (ks_iconst hx hb (by decide +kernel) (by decide +kernel : decode cX5_clear 1 = .ok (.iconst 0, 1))))
    (kx_sL (ks_putI hx hb hts X.1.2.2.2.1 X.2.1 kf_5 (j := 2) rfl kw_396 (by decide +kernel) (by decide +kernel) (by decide +kernel : decode cX5_clear 2 = .ok (.putfield 18, 3))))))
    (kx_sB (kx_sB (kx_sL (ks_aload_n hx hb rfl (by decide +kernel : decode cX5_clear 5 = .ok (.aload_n 0, 1))))
    (kx_sL (ks_iconst hx hb (by decide +kernel) (by decide +kernel : decode cX5_clear 6 = .ok (.iconst 0, 1)))))
    (kx_sB (kx_sL (ks_putI hx hb hts X.1.2.2.2.1 X.2.1 kf_5 (j := 3) rfl kw_398 (by decide +kernel) (by decide +kernel) (by decide +kernel : decode cX5_clear 7 = .ok (.putfield 22, 3))))
    (kx_sL (ks_vret Z hx hb hr (by decide +kernel : decode cX5_clear 10 = .ok (.return_, 1))))))))
def tb_X5_append : Nat → kx_T := (kx_br 26 (kx_br 15 (kx_br 7 (kx_br 1 (kx_lf 0 (ki_aload 0 1)) (kx_br 4 (kx_lf 1 (ki_cv 5 0 1 sp_X5_isFull 4)) (kx_lf 4 (ki_if_ne 47 7)))) (kx_br 11 (kx_br 8 (kx_lf 7 (ki_aload 0 8)) (kx_lf 8 (ki_getR 5 0 35 (fun o => o) 11))) (kx_br 12 (kx_lf 11 (ki_aload 0 12)) (kx_lf 12 (ki_getI 5 2 15))))) (kx_br 18 (kx_br 16 (kx_lf 15 (ki_iload 1 16)) (kx_br 17 (kx_lf 16 (ki_iast 17)) (kx_lf 17 (ki_aload 0 18)))) (kx_br 22 (kx_br 21 (kx_lf 18 (ki_getR 5 1 36 (fun o => o) 21)) (kx_lf 21 (ki_aload 0 22))) (kx_br 25 (kx_lf 22 (ki_getI 5 2 25)) (kx_lf 25 (ki_iload 2 26)))))) (kx_br 37 (kx_br 29 (kx_br 27 (kx_lf 26 (ki_iast 27)) (kx_br 28 (kx_lf 27 (ki_aload 0 28)) (kx_lf 28 (ki_dup 29)))) (kx_br 33 (kx_br 32 (kx_lf 29 (ki_getI 5 2 32)) (kx_lf 32 (ki_ic (1) 33))) (kx_br 34 (kx_lf 33 (ki_iadd 34)) (kx_lf 34 (ki_putI 5 2 37))))) (kx_br 42 (kx_br 38 (kx_lf 37 (ki_aload 0 38)) (kx_br 39 (kx_lf 38 (ki_dup 39)) (kx_lf 39 (ki_getI 5 3 42)))) (kx_br 44 (kx_br 43 (kx_lf 42 (ki_iload 2 43)) (kx_lf 43 (ki_iadd 44))) (kx_br 47 (kx_lf 44 (ki_putI 5 3 47)) (kx_lf 47 (ki_vret)))))))
def sp_X5_append : kx_Sp := kx_sp tb_X5_append 3
set_option maxRecDepth 100000 in
set_option maxHeartbeats 4000000 in
theorem kc_X5_append (l : Launch) : kx_ok1 l yX5_append (kx_wd yX5_append cX5_append 3 none) ({ frames := 1, cells := 0, slots := 0, locals := 20 }) sp_X5_append 3 0 0 := kx_met (by decide) ⟨rfl, rfl⟩ (fun p e s m args below meth c Q D C4 A cnt0 ad0 P X Z hr hn => by
  have hx := X.1.1
  have hb := X.1.2.1
  have hts := X.1.2.2.2.2
  exact (kx_sB (kx_sB (kx_sB (kx_sB (kx_sL (ks_aload_n hx hb rfl (by decide +kernel : decode cX5_append 0 = .ok (.aload_n 0, 1))))
    (kx_sB (kx_sL (ks_cv X (kc_X5_isFull l) ⟨rfl, rfl⟩ kf_5 kw_1047 kw_1029 kw_1030 kw_1031 kw_4 (by decide +kernel) (by decide) (by decide +kernel : decode cX5_append 1 = .ok (.invokevirtual 25, 3))))
    (kx_sL (ks_if_ne hx hb (by decide) (by decide +kernel : decode cX5_append 4 = .ok (.ifCond .ne 43, 3))))))
    (kx_sB (kx_sB (kx_sL (ks_aload_n hx hb rfl (by decide +kernel : decode cX5_append 7 = .ok (.aload_n 0, 1))))
    (kx_sL (ks_getR hx hb hts X.1.2.2.2.1 X.2.1 kf_5 (j := 0) rfl kw_394 (by decide +kernel : decode cX5_append 8 = .ok (.getfield 11, 3)))))
    (kx_sB (kx_sL (ks_aload_n hx hb rfl (by decide +kernel : decode cX5_append 11 = .ok (.aload_n 0, 1))))
    (kx_sL (ks_getI hx hb hts X.1.2.2.2.1 X.2.1 kf_5 (j := 2) rfl kw_396 (by decide +kernel : decode cX5_append 12 = .ok (.getfield 18, 3)))))))
    (kx_sB (kx_sB (kx_sL (ks_iload_n hx hb rfl (by decide +kernel : decode cX5_append 15 = .ok (.iload_n 1, 1))))
    (kx_sB (kx_sL (ks_iast hx hb X.2.1 (by decide +kernel : decode cX5_append 16 = .ok (.iastore, 1))))
    (kx_sL (ks_aload_n hx hb rfl (by decide +kernel : decode cX5_append 17 = .ok (.aload_n 0, 1))))))
    (kx_sB (kx_sB (kx_sL (ks_getR hx hb hts X.1.2.2.2.1 X.2.1 kf_5 (j := 1) rfl kw_395 (by decide +kernel : decode cX5_append 18 = .ok (.getfield 15, 3))))
    (kx_sL (ks_aload_n hx hb rfl (by decide +kernel : decode cX5_append 21 = .ok (.aload_n 0, 1)))))
    (kx_sB (kx_sL (ks_getI hx hb hts X.1.2.2.2.1 X.2.1 kf_5 (j := 2) rfl kw_396 (by decide +kernel : decode cX5_append 22 = .ok (.getfield 18, 3))))
    (kx_sL (ks_iload_n hx hb rfl (by decide +kernel : decode cX5_append 25 = .ok (.iload_n 2, 1))))))))
    (kx_sB (kx_sB (kx_sB (kx_sL (ks_iast hx hb X.2.1 (by decide +kernel : decode cX5_append 26 = .ok (.iastore, 1))))
    (kx_sB (kx_sL (ks_aload_n hx hb rfl (by decide +kernel : decode cX5_append 27 = .ok (.aload_n 0, 1))))
    (kx_sL (ks_dup hx hb (by decide +kernel : decode cX5_append 28 = .ok (.dup, 1))))))
    (kx_sB (kx_sB (kx_sL (ks_getI hx hb hts X.1.2.2.2.1 X.2.1 kf_5 (j := 2) rfl kw_396 (by decide +kernel : decode cX5_append 29 = .ok (.getfield 18, 3))))
    (kx_sL (ks_iconst hx hb (by decide +kernel) (by decide +kernel : decode cX5_append 32 = .ok (.iconst 1, 1)))))
    (kx_sB (kx_sL (ks_iadd hx hb (by decide +kernel : decode cX5_append 33 = .ok (.iadd, 1))))
    (kx_sL (ks_putI hx hb hts X.1.2.2.2.1 X.2.1 kf_5 (j := 2) rfl kw_396 (by decide +kernel) (by decide +kernel) (by decide +kernel : decode cX5_append 34 = .ok (.putfield 18, 3)))))))
    (kx_sB (kx_sB (kx_sL (ks_aload_n hx hb rfl (by decide +kernel : decode cX5_append 37 = .ok (.aload_n 0, 1))))
    (kx_sB (kx_sL (ks_dup hx hb (by decide +kernel : decode cX5_append 38 = .ok (.dup, 1))))
    (kx_sL (ks_getI hx hb hts X.1.2.2.2.1 X.2.1 kf_5 (j := 3) rfl kw_398 (by decide +kernel : decode cX5_append 39 = .ok (.getfield 22, 3))))))
    (kx_sB (kx_sB (kx_sL (ks_iload_n hx hb rfl (by decide +kernel : decode cX5_append 42 = .ok (.iload_n 2, 1))))
    (kx_sL (ks_iadd hx hb (by decide +kernel : decode cX5_append 43 = .ok (.iadd, 1)))))
    (kx_sB (kx_sL (ks_putI hx hb hts X.1.2.2.2.1 X.2.1 kf_5 (j := 3) rfl kw_398 (by decide +kernel) (by decide +kernel) (by decide +kernel : decode cX5_append 44 = .ok (.putfield 22, 3))))
    (kx_sL (ks_vret Z hx hb hr (by decide +kernel : decode cX5_append 47 = .ok (.return_, 1))))))))))
def tb_J9_floorMod_7cf53 : Nat → kx_T := (kx_br 10 (kx_br 4 (kx_br 2 (kx_br 1 (kx_lf 0 (ki_iload 0 1)) (kx_lf 1 (ki_iload 1 2))) (kx_br 3 (kx_lf 2 (ki_irem 3)) (kx_lf 3 (ki_istore 2 4)))) (kx_br 6 (kx_br 5 (kx_lf 4 (ki_iload 0 5)) (kx_lf 5 (ki_iload 1 6))) (kx_br 7 (kx_lf 6 (ki_ixor 7)) (kx_lf 7 (ki_if_ge 18 10))))) (kx_br 16 (kx_br 14 (kx_br 11 (kx_lf 10 (ki_iload 2 11)) (kx_lf 11 (ki_if_eq 18 14))) (kx_br 15 (kx_lf 14 (ki_iload 2 15)) (kx_lf 15 (ki_iload 1 16)))) (kx_br 18 (kx_br 17 (kx_lf 16 (ki_iadd 17)) (kx_lf 17 (ki_iret))) (kx_br 19 (kx_lf 18 (ki_iload 2 19)) (kx_lf 19 (ki_iret))))))
def sp_J9_floorMod_7cf53 : kx_Sp := kx_sp tb_J9_floorMod_7cf53 3
set_option maxRecDepth 100000 in
set_option maxHeartbeats 4000000 in
theorem kc_J9_floorMod_7cf53 (l : Launch) : kx_ok1 l yJ9_floorMod_7cf53 (kx_wd yJ9_floorMod_7cf53 cJ9_floorMod_7cf53 3 (some .int)) ({ frames := 0, cells := 0, slots := 0, locals := 0 }) sp_J9_floorMod_7cf53 3 0 0 := kx_metF (by decide +kernel) ⟨rfl, rfl⟩ (fun p e s m args below meth c Q D C4 A cnt0 ad0 P X Z hr hn => by
  have hx := X.1.1
  have hb := X.1.2.1
  have hts := X.1.2.2.2.2
  exact (kx_sB (kx_sB (kx_sB (kx_sB (kx_sL (ks_iload_n hx hb rfl (by decide +kernel : decode cJ9_floorMod_7cf53 0 = .ok (.iload_n 0, 1))))
    (kx_sL (ks_iload_n hx hb rfl (by decide +kernel : decode cJ9_floorMod_7cf53 1 = .ok (.iload_n 1, 1)))))
    (kx_sB (kx_sL (ks_irem hx hb (by decide +kernel : decode cJ9_floorMod_7cf53 2 = .ok (.irem, 1))))
    (kx_sL (ks_istore_n hx hb rfl (by decide) (by decide +kernel : decode cJ9_floorMod_7cf53 3 = .ok (.istore_n 2, 1))))))
    (kx_sB (kx_sB (kx_sL (ks_iload_n hx hb rfl (by decide +kernel : decode cJ9_floorMod_7cf53 4 = .ok (.iload_n 0, 1))))
    (kx_sL (ks_iload_n hx hb rfl (by decide +kernel : decode cJ9_floorMod_7cf53 5 = .ok (.iload_n 1, 1)))))
    (kx_sB (kx_sL (ks_ixor hx hb (by decide +kernel : decode cJ9_floorMod_7cf53 6 = .ok (.ixor, 1))))
    (kx_sL (ks_if_ge hx hb (by decide) (by decide +kernel : decode cJ9_floorMod_7cf53 7 = .ok (.ifCond .ge 11, 3)))))))
    (kx_sB (kx_sB (kx_sB (kx_sL (ks_iload_n hx hb rfl (by decide +kernel : decode cJ9_floorMod_7cf53 10 = .ok (.iload_n 2, 1))))
    (kx_sL (ks_if_eq hx hb (by decide) (by decide +kernel : decode cJ9_floorMod_7cf53 11 = .ok (.ifCond .eq 7, 3)))))
    (kx_sB (kx_sL (ks_iload_n hx hb rfl (by decide +kernel : decode cJ9_floorMod_7cf53 14 = .ok (.iload_n 2, 1))))
    (kx_sL (ks_iload_n hx hb rfl (by decide +kernel : decode cJ9_floorMod_7cf53 15 = .ok (.iload_n 1, 1))))))
    (kx_sB (kx_sB (kx_sL (ks_iadd hx hb (by decide +kernel : decode cJ9_floorMod_7cf53 16 = .ok (.iadd, 1))))
    (kx_sL (ks_iret Z hx hb hr (by decide +kernel : decode cJ9_floorMod_7cf53 17 = .ok (.ireturn, 1)))))
    (kx_sB (kx_sL (ks_iload_n hx hb rfl (by decide +kernel : decode cJ9_floorMod_7cf53 18 = .ok (.iload_n 2, 1))))
    (kx_sL (ks_iret Z hx hb hr (by decide +kernel : decode cJ9_floorMod_7cf53 19 = .ok (.ireturn, 1)))))))))
def tb_X5_weatherAt : Nat → kx_T := (kx_br 33 (kx_br 17 (kx_br 8 (kx_br 4 (kx_br 1 (kx_lf 0 (ki_aload 0 1)) (kx_lf 1 (ki_getI 5 3 4))) (kx_br 7 (kx_lf 4 (ki_if_gt 9 7)) (kx_lf 7 (ki_ic (0) 8)))) (kx_br 10 (kx_br 9 (kx_lf 8 (ki_iret)) (kx_lf 9 (ki_iload 1 10))) (kx_br 11 (kx_lf 10 (ki_aload 0 11)) (kx_br 14 (kx_lf 11 (ki_getI 5 3 14)) (kx_lf 14 (ki_cs 2 3 sp_J9_floorMod_7cf53 17)))))) (kx_br 22 (kx_br 19 (kx_br 18 (kx_lf 17 (ki_istore 2 18)) (kx_lf 18 (ki_ic (0) 19))) (kx_br 20 (kx_lf 19 (ki_istore 3 20)) (kx_br 21 (kx_lf 20 (ki_iload 3 21)) (kx_lf 21 (ki_aload 0 22))))) (kx_br 28 (kx_br 25 (kx_lf 22 (ki_getI 5 2 25)) (kx_lf 25 (ki_icmp_ge 60 28))) (kx_br 29 (kx_lf 28 (ki_iload 2 29)) (kx_br 30 (kx_lf 29 (ki_aload 0 30)) (kx_lf 30 (ki_getR 5 1 36 (fun o => o) 33))))))) (kx_br 46 (kx_br 39 (kx_br 35 (kx_br 34 (kx_lf 33 (ki_iload 3 34)) (kx_lf 34 (ki_iald 35))) (kx_br 38 (kx_lf 35 (ki_icmp_ge 45 38)) (kx_lf 38 (ki_aload 0 39)))) (kx_br 43 (kx_br 42 (kx_lf 39 (ki_getR 5 0 35 (fun o => o) 42)) (kx_lf 42 (ki_iload 3 43))) (kx_br 44 (kx_lf 43 (ki_iald 44)) (kx_br 45 (kx_lf 44 (ki_iret)) (kx_lf 45 (ki_iload 2 46)))))) (kx_br 53 (kx_br 50 (kx_br 47 (kx_lf 46 (ki_aload 0 47)) (kx_lf 47 (ki_getR 5 1 36 (fun o => o) 50))) (kx_br 51 (kx_lf 50 (ki_iload 3 51)) (kx_br 52 (kx_lf 51 (ki_iald 52)) (kx_lf 52 (ki_isub 53))))) (kx_br 57 (kx_br 54 (kx_lf 53 (ki_istore 2 54)) (kx_lf 54 (ki_iinc 3 (1) 57))) (kx_br 60 (kx_lf 57 (ki_goto 20)) (kx_br 61 (kx_lf 60 (ki_ic (0) 61)) (kx_lf 61 (ki_iret))))))))
def sp_X5_weatherAt : kx_Sp := kx_sp tb_X5_weatherAt 4
set_option maxRecDepth 100000 in
set_option maxHeartbeats 4000000 in
theorem kc_X5_weatherAt (l : Launch) : kx_ok1 l yX5_weatherAt (kx_wd yX5_weatherAt cX5_weatherAt 4 (some .int)) ({ frames := 1, cells := 0, slots := 0, locals := 22 }) sp_X5_weatherAt 4 0 0 := kx_met (by decide) ⟨rfl, rfl⟩ (fun p e s m args below meth c Q D C4 A cnt0 ad0 P X Z hr hn => by
  have hx := X.1.1
  have hb := X.1.2.1
  have hts := X.1.2.2.2.2
  exact (kx_sB (kx_sB (kx_sB (kx_sB (kx_sB (kx_sL (ks_aload_n hx hb rfl (by decide +kernel : decode cX5_weatherAt 0 = .ok (.aload_n 0, 1))))
    (kx_sL (ks_getI hx hb hts X.1.2.2.2.1 X.2.1 kf_5 (j := 3) rfl kw_398 (by decide +kernel : decode cX5_weatherAt 1 = .ok (.getfield 22, 3)))))
    (kx_sB (kx_sL (ks_if_gt hx hb (by decide) (by decide +kernel : decode cX5_weatherAt 4 = .ok (.ifCond .gt 5, 3))))
    (kx_sL (ks_iconst hx hb (by decide +kernel) (by decide +kernel : decode cX5_weatherAt 7 = .ok (.iconst 0, 1))))))
    (kx_sB (kx_sB (kx_sL (ks_iret Z hx hb hr (by decide +kernel : decode cX5_weatherAt 8 = .ok (.ireturn, 1))))
    (kx_sL (ks_iload_n hx hb rfl (by decide +kernel : decode cX5_weatherAt 9 = .ok (.iload_n 1, 1)))))
    (kx_sB (kx_sL (ks_aload_n hx hb rfl (by decide +kernel : decode cX5_weatherAt 10 = .ok (.aload_n 0, 1))))
    (kx_sB (kx_sL (ks_getI hx hb hts X.1.2.2.2.1 X.2.1 kf_5 (j := 3) rfl kw_398 (by decide +kernel : decode cX5_weatherAt 11 = .ok (.getfield 22, 3))))
    (kx_sL (ks_cs X (kc_J9_floorMod_7cf53 l) ⟨rfl, rfl⟩ kw_129 kw_41 kw_42 kw_18 (by decide +kernel) (by decide) (by decide +kernel : decode cX5_weatherAt 14 = .ok (.invokestatic 29, 3))))))))
    (kx_sB (kx_sB (kx_sB (kx_sL (ks_istore_n hx hb rfl (by decide) (by decide +kernel : decode cX5_weatherAt 17 = .ok (.istore_n 2, 1))))
    (kx_sL (ks_iconst hx hb (by decide +kernel) (by decide +kernel : decode cX5_weatherAt 18 = .ok (.iconst 0, 1)))))
    (kx_sB (kx_sL (ks_istore_n hx hb rfl (by decide) (by decide +kernel : decode cX5_weatherAt 19 = .ok (.istore_n 3, 1))))
    (kx_sB (kx_sL (ks_iload_n hx hb rfl (by decide +kernel : decode cX5_weatherAt 20 = .ok (.iload_n 3, 1))))
    (kx_sL (ks_aload_n hx hb rfl (by decide +kernel : decode cX5_weatherAt 21 = .ok (.aload_n 0, 1)))))))
    (kx_sB (kx_sB (kx_sL (ks_getI hx hb hts X.1.2.2.2.1 X.2.1 kf_5 (j := 2) rfl kw_396 (by decide +kernel : decode cX5_weatherAt 22 = .ok (.getfield 18, 3))))
    (kx_sL (ks_icmp_ge hx hb (by decide) (by decide +kernel : decode cX5_weatherAt 25 = .ok (.if_icmp .ge 35, 3)))))
    (kx_sB (kx_sL (ks_iload_n hx hb rfl (by decide +kernel : decode cX5_weatherAt 28 = .ok (.iload_n 2, 1))))
    (kx_sB (kx_sL (ks_aload_n hx hb rfl (by decide +kernel : decode cX5_weatherAt 29 = .ok (.aload_n 0, 1))))
    (kx_sL (ks_getR hx hb hts X.1.2.2.2.1 X.2.1 kf_5 (j := 1) rfl kw_395 (by decide +kernel : decode cX5_weatherAt 30 = .ok (.getfield 15, 3)))))))))
    (kx_sB (kx_sB (kx_sB (kx_sB (kx_sL (ks_iload_n hx hb rfl (by decide +kernel : decode cX5_weatherAt 33 = .ok (.iload_n 3, 1))))
    (kx_sL (ks_iald hx hb X.2.1 (by decide +kernel : decode cX5_weatherAt 34 = .ok (.iaload, 1)))))
    (kx_sB (kx_sL (ks_icmp_ge hx hb (by decide) (by decide +kernel : decode cX5_weatherAt 35 = .ok (.if_icmp .ge 10, 3))))
    (kx_sL (ks_aload_n hx hb rfl (by decide +kernel : decode cX5_weatherAt 38 = .ok (.aload_n 0, 1))))))
    (kx_sB (kx_sB (kx_sL (ks_getR hx hb hts X.1.2.2.2.1 X.2.1 kf_5 (j := 0) rfl kw_394 (by decide +kernel : decode cX5_weatherAt 39 = .ok (.getfield 11, 3))))
    (kx_sL (ks_iload_n hx hb rfl (by decide +kernel : decode cX5_weatherAt 42 = .ok (.iload_n 3, 1)))))
    (kx_sB (kx_sL (ks_iald hx hb X.2.1 (by decide +kernel : decode cX5_weatherAt 43 = .ok (.iaload, 1))))
    (kx_sB (kx_sL (ks_iret Z hx hb hr (by decide +kernel : decode cX5_weatherAt 44 = .ok (.ireturn, 1))))
    (kx_sL (ks_iload_n hx hb rfl (by decide +kernel : decode cX5_weatherAt 45 = .ok (.iload_n 2, 1))))))))
    (kx_sB (kx_sB (kx_sB (kx_sL (ks_aload_n hx hb rfl (by decide +kernel : decode cX5_weatherAt 46 = .ok (.aload_n 0, 1))))
    (kx_sL (ks_getR hx hb hts X.1.2.2.2.1 X.2.1 kf_5 (j := 1) rfl kw_395 (by decide +kernel : decode cX5_weatherAt 47 = .ok (.getfield 15, 3)))))
    (kx_sB (kx_sL (ks_iload_n hx hb rfl (by decide +kernel : decode cX5_weatherAt 50 = .ok (.iload_n 3, 1))))
    (kx_sB (kx_sL (ks_iald hx hb X.2.1 (by decide +kernel : decode cX5_weatherAt 51 = .ok (.iaload, 1))))
    (kx_sL (ks_isub hx hb (by decide +kernel : decode cX5_weatherAt 52 = .ok (.isub, 1)))))))
    (kx_sB (kx_sB (kx_sL (ks_istore_n hx hb rfl (by decide) (by decide +kernel : decode cX5_weatherAt 53 = .ok (.istore_n 2, 1))))
    (kx_sL (ks_iinc hx hb (by decide +kernel) (by decide) (by decide +kernel : decode cX5_weatherAt 54 = .ok (.iinc 3 1, 3)))))
    (kx_sB (kx_sL (ks_goto hx hb (by decide) (by decide +kernel : decode cX5_weatherAt 57 = .ok (.goto (-37), 3))))
    (kx_sB (kx_sL (ks_iconst hx hb (by decide +kernel) (by decide +kernel : decode cX5_weatherAt 60 = .ok (.iconst 0, 1))))
    (kx_sL (ks_iret Z hx hb hr (by decide +kernel : decode cX5_weatherAt 61 = .ok (.ireturn, 1)))))))))))
def tb_X5_become : Nat → kx_T := (kx_br 21 (kx_br 10 (kx_br 5 (kx_br 1 (kx_lf 0 (ki_aload 1 1)) (kx_br 4 (kx_lf 1 (ki_getR 5 0 35 (fun o => o) 4)) (kx_lf 4 (ki_ic (0) 5)))) (kx_br 6 (kx_lf 5 (ki_aload 0 6)) (kx_br 9 (kx_lf 6 (ki_getR 5 0 35 (fun o => o) 9)) (kx_lf 9 (ki_ic (0) 10))))) (kx_br 16 (kx_br 12 (kx_lf 10 (ki_ic (20) 12)) (kx_br 15 (kx_lf 12 (ki_acopy 15)) (kx_lf 15 (ki_aload 1 16)))) (kx_br 19 (kx_lf 16 (ki_getR 5 1 36 (fun o => o) 19)) (kx_br 20 (kx_lf 19 (ki_ic (0) 20)) (kx_lf 20 (ki_aload 0 21)))))) (kx_br 32 (kx_br 27 (kx_br 24 (kx_lf 21 (ki_getR 5 1 36 (fun o => o) 24)) (kx_br 25 (kx_lf 24 (ki_ic (0) 25)) (kx_lf 25 (ki_ic (20) 27)))) (kx_br 30 (kx_lf 27 (ki_acopy 30)) (kx_br 31 (kx_lf 30 (ki_aload 0 31)) (kx_lf 31 (ki_aload 1 32))))) (kx_br 39 (kx_br 35 (kx_lf 32 (ki_getI 5 2 35)) (kx_br 38 (kx_lf 35 (ki_putI 5 2 38)) (kx_lf 38 (ki_aload 0 39)))) (kx_br 43 (kx_br 40 (kx_lf 39 (ki_aload 1 40)) (kx_lf 40 (ki_getI 5 3 43))) (kx_br 46 (kx_lf 43 (ki_putI 5 3 46)) (kx_lf 46 (ki_vret)))))))
def sp_X5_become : kx_Sp := kx_sp tb_X5_become 2
set_option maxRecDepth 100000 in
set_option maxHeartbeats 4000000 in
theorem kc_X5_become (l : Launch) : kx_ok1 l yX5_become (kx_wd yX5_become cX5_become 2 none) ({ frames := 1, cells := 0, slots := 0, locals := 40 }) sp_X5_become 2 0 0 := kx_met (by decide) ⟨rfl, rfl⟩ (fun p e s m args below meth c Q D C4 A cnt0 ad0 P X Z hr hn => by
  have hx := X.1.1
  have hb := X.1.2.1
  have hts := X.1.2.2.2.2
  exact (kx_sB (kx_sB (kx_sB (kx_sB (kx_sL (ks_aload_n hx hb rfl (by decide +kernel : decode cX5_become 0 = .ok (.aload_n 1, 1))))
    (kx_sB (kx_sL (ks_getR hx hb hts X.1.2.2.2.1 X.2.1 kf_5 (j := 0) rfl kw_394 (by decide +kernel : decode cX5_become 1 = .ok (.getfield 11, 3))))
    (kx_sL (ks_iconst hx hb (by decide +kernel) (by decide +kernel : decode cX5_become 4 = .ok (.iconst 0, 1))))))
    (kx_sB (kx_sL (ks_aload_n hx hb rfl (by decide +kernel : decode cX5_become 5 = .ok (.aload_n 0, 1))))
    (kx_sB (kx_sL (ks_getR hx hb hts X.1.2.2.2.1 X.2.1 kf_5 (j := 0) rfl kw_394 (by decide +kernel : decode cX5_become 6 = .ok (.getfield 11, 3))))
    (kx_sL (ks_iconst hx hb (by decide +kernel) (by decide +kernel : decode cX5_become 9 = .ok (.iconst 0, 1)))))))
    (kx_sB (kx_sB (kx_sL (ks_bipush hx hb (by decide +kernel) (by decide +kernel : decode cX5_become 10 = .ok (.bipush 20, 2))))
    (kx_sB (kx_sL (ks_acopy hx hb X.2.1 hts X.1.2.2.1 X.1.2.2.2.1 kw_304 kw_306 kw_305 kw_19 (by decide) (by decide +kernel) (by decide +kernel : decode cX5_become 12 = .ok (.invokestatic 35, 3))))
    (kx_sL (ks_aload_n hx hb rfl (by decide +kernel : decode cX5_become 15 = .ok (.aload_n 1, 1))))))
    (kx_sB (kx_sL (ks_getR hx hb hts X.1.2.2.2.1 X.2.1 kf_5 (j := 1) rfl kw_395 (by decide +kernel : decode cX5_become 16 = .ok (.getfield 15, 3))))
    (kx_sB (kx_sL (ks_iconst hx hb (by decide +kernel) (by decide +kernel : decode cX5_become 19 = .ok (.iconst 0, 1))))
    (kx_sL (ks_aload_n hx hb rfl (by decide +kernel : decode cX5_become 20 = .ok (.aload_n 0, 1))))))))
    (kx_sB (kx_sB (kx_sB (kx_sL (ks_getR hx hb hts X.1.2.2.2.1 X.2.1 kf_5 (j := 1) rfl kw_395 (by decide +kernel : decode cX5_become 21 = .ok (.getfield 15, 3))))
    (kx_sB (kx_sL (ks_iconst hx hb (by decide +kernel) (by decide +kernel : decode cX5_become 24 = .ok (.iconst 0, 1))))
    (kx_sL (ks_bipush hx hb (by decide +kernel) (by decide +kernel : decode cX5_become 25 = .ok (.bipush 20, 2))))))
    (kx_sB (kx_sL (ks_acopy hx hb X.2.1 hts X.1.2.2.1 X.1.2.2.2.1 kw_304 kw_306 kw_305 kw_19 (by decide) (by decide +kernel) (by decide +kernel : decode cX5_become 27 = .ok (.invokestatic 35, 3))))
    (kx_sB (kx_sL (ks_aload_n hx hb rfl (by decide +kernel : decode cX5_become 30 = .ok (.aload_n 0, 1))))
    (kx_sL (ks_aload_n hx hb rfl (by decide +kernel : decode cX5_become 31 = .ok (.aload_n 1, 1)))))))
    (kx_sB (kx_sB (kx_sL (ks_getI hx hb hts X.1.2.2.2.1 X.2.1 kf_5 (j := 2) rfl kw_396 (by decide +kernel : decode cX5_become 32 = .ok (.getfield 18, 3))))
    (kx_sB (kx_sL (ks_putI hx hb hts X.1.2.2.2.1 X.2.1 kf_5 (j := 2) rfl kw_396 (by decide +kernel) (by decide +kernel) (by decide +kernel : decode cX5_become 35 = .ok (.putfield 18, 3))))
    (kx_sL (ks_aload_n hx hb rfl (by decide +kernel : decode cX5_become 38 = .ok (.aload_n 0, 1))))))
    (kx_sB (kx_sB (kx_sL (ks_aload_n hx hb rfl (by decide +kernel : decode cX5_become 39 = .ok (.aload_n 1, 1))))
    (kx_sL (ks_getI hx hb hts X.1.2.2.2.1 X.2.1 kf_5 (j := 3) rfl kw_398 (by decide +kernel : decode cX5_become 40 = .ok (.getfield 22, 3)))))
    (kx_sB (kx_sL (ks_putI hx hb hts X.1.2.2.2.1 X.2.1 kf_5 (j := 3) rfl kw_398 (by decide +kernel) (by decide +kernel) (by decide +kernel : decode cX5_become 43 = .ok (.putfield 22, 3))))
    (kx_sL (ks_vret Z hx hb hr (by decide +kernel : decode cX5_become 46 = .ok (.return_, 1))))))))))
def tb_J7_fill_53178 : Nat → kx_T := (kx_br 7 (kx_br 3 (kx_br 1 (kx_lf 0 (ki_ic (0) 1)) (kx_br 2 (kx_lf 1 (ki_istore 2 2)) (kx_lf 2 (ki_aload 0 3)))) (kx_br 5 (kx_br 4 (kx_lf 3 (ki_alen 4)) (kx_lf 4 (ki_istore 3 5))) (kx_br 6 (kx_lf 5 (ki_iload 2 6)) (kx_lf 6 (ki_iload 3 7))))) (kx_br 13 (kx_br 11 (kx_br 10 (kx_lf 7 (ki_icmp_ge 20 10)) (kx_lf 10 (ki_aload 0 11))) (kx_br 12 (kx_lf 11 (ki_iload 2 12)) (kx_lf 12 (ki_iload 1 13)))) (kx_br 17 (kx_br 14 (kx_lf 13 (ki_iast 14)) (kx_lf 14 (ki_iinc 2 (1) 17))) (kx_br 20 (kx_lf 17 (ki_goto 5)) (kx_lf 20 (ki_vret))))))
def sp_J7_fill_53178 : kx_Sp := kx_sp tb_J7_fill_53178 4
set_option maxRecDepth 100000 in
set_option maxHeartbeats 4000000 in
theorem kc_J7_fill_53178 (l : Launch) : kx_ok1 l yJ7_fill_53178 (kx_wd yJ7_fill_53178 cJ7_fill_53178 4 none) ({ frames := 0, cells := 0, slots := 0, locals := 0 }) sp_J7_fill_53178 4 0 0 := kx_metF (by decide +kernel) ⟨rfl, rfl⟩ (fun p e s m args below meth c Q D C4 A cnt0 ad0 P X Z hr hn => by
  have hx := X.1.1
  have hb := X.1.2.1
  have hts := X.1.2.2.2.2
  exact (kx_sB (kx_sB (kx_sB (kx_sL (ks_iconst hx hb (by decide +kernel) (by decide +kernel : decode cJ7_fill_53178 0 = .ok (.iconst 0, 1))))
    (kx_sB (kx_sL (ks_istore_n hx hb rfl (by decide) (by decide +kernel : decode cJ7_fill_53178 1 = .ok (.istore_n 2, 1))))
    (kx_sL (ks_aload_n hx hb rfl (by decide +kernel : decode cJ7_fill_53178 2 = .ok (.aload_n 0, 1))))))
    (kx_sB (kx_sB (kx_sL (ks_alen hx hb X.2.1 (by decide +kernel : decode cJ7_fill_53178 3 = .ok (.arraylength, 1))))
    (kx_sL (ks_istore_n hx hb rfl (by decide) (by decide +kernel : decode cJ7_fill_53178 4 = .ok (.istore_n 3, 1)))))
    (kx_sB (kx_sL (ks_iload_n hx hb rfl (by decide +kernel : decode cJ7_fill_53178 5 = .ok (.iload_n 2, 1))))
    (kx_sL (ks_iload_n hx hb rfl (by decide +kernel : decode cJ7_fill_53178 6 = .ok (.iload_n 3, 1)))))))
    (kx_sB (kx_sB (kx_sB (kx_sL (ks_icmp_ge hx hb (by decide) (by decide +kernel : decode cJ7_fill_53178 7 = .ok (.if_icmp .ge 13, 3))))
    (kx_sL (ks_aload_n hx hb rfl (by decide +kernel : decode cJ7_fill_53178 10 = .ok (.aload_n 0, 1)))))
    (kx_sB (kx_sL (ks_iload_n hx hb rfl (by decide +kernel : decode cJ7_fill_53178 11 = .ok (.iload_n 2, 1))))
    (kx_sL (ks_iload_n hx hb rfl (by decide +kernel : decode cJ7_fill_53178 12 = .ok (.iload_n 1, 1))))))
    (kx_sB (kx_sB (kx_sL (ks_iast hx hb X.2.1 (by decide +kernel : decode cJ7_fill_53178 13 = .ok (.iastore, 1))))
    (kx_sL (ks_iinc hx hb (by decide +kernel) (by decide) (by decide +kernel : decode cJ7_fill_53178 14 = .ok (.iinc 2 1, 3)))))
    (kx_sB (kx_sL (ks_goto hx hb (by decide) (by decide +kernel : decode cJ7_fill_53178 17 = .ok (.goto (-12), 3))))
    (kx_sL (ks_vret Z hx hb hr (by decide +kernel : decode cJ7_fill_53178 20 = .ok (.return_, 1)))))))))
def tb_X6_isDarkAt : Nat → kx_T := (kx_br 15 (kx_br 7 (kx_br 3 (kx_br 1 (kx_lf 0 (ki_iload 1 1)) (kx_lf 1 (ki_ic (24) 3))) (kx_br 6 (kx_lf 3 (ki_cs 2 3 sp_J9_floorMod_7cf53 6)) (kx_lf 6 (ki_istore 2 7)))) (kx_br 9 (kx_br 8 (kx_lf 7 (ki_iload 2 8)) (kx_lf 8 (ki_aload 0 9))) (kx_br 12 (kx_lf 9 (ki_getI 6 5 12)) (kx_lf 12 (ki_icmp_lt 23 15))))) (kx_br 23 (kx_br 17 (kx_br 16 (kx_lf 15 (ki_iload 2 16)) (kx_lf 16 (ki_aload 0 17))) (kx_br 20 (kx_lf 17 (ki_getI 6 6 20)) (kx_lf 20 (ki_icmp_lt 27 23)))) (kx_br 27 (kx_br 24 (kx_lf 23 (ki_ic (1) 24)) (kx_lf 24 (ki_goto 28))) (kx_br 28 (kx_lf 27 (ki_ic (0) 28)) (kx_lf 28 (ki_zret))))))
def sp_X6_isDarkAt : kx_Sp := kx_sp tb_X6_isDarkAt 3
set_option maxRecDepth 100000 in
set_option maxHeartbeats 4000000 in
theorem kc_X6_isDarkAt (l : Launch) : kx_ok1 l yX6_isDarkAt (kx_wd yX6_isDarkAt cX6_isDarkAt 3 (some .boolean)) ({ frames := 1, cells := 0, slots := 0, locals := 22 }) sp_X6_isDarkAt 3 0 0 := kx_met (by decide) ⟨rfl, rfl⟩ (fun p e s m args below meth c Q D C4 A cnt0 ad0 P X Z hr hn => by
  have hx := X.1.1
  have hb := X.1.2.1
  have hts := X.1.2.2.2.2
  exact (kx_sB (kx_sB (kx_sB (kx_sB (kx_sL (ks_iload_n hx hb rfl (by decide +kernel : decode cX6_isDarkAt 0 = .ok (.iload_n 1, 1))))
    (kx_sL (ks_bipush hx hb (by decide +kernel) (by decide +kernel : decode cX6_isDarkAt 1 = .ok (.bipush 24, 2)))))
    (kx_sB (kx_sL (ks_cs X (kc_J9_floorMod_7cf53 l) ⟨rfl, rfl⟩ kw_40 kw_41 kw_42 kw_18 (by decide +kernel) (by decide) (by decide +kernel : decode cX6_isDarkAt 3 = .ok (.invokestatic 83, 3))))
    (kx_sL (ks_istore_n hx hb rfl (by decide) (by decide +kernel : decode cX6_isDarkAt 6 = .ok (.istore_n 2, 1))))))
    (kx_sB (kx_sB (kx_sL (ks_iload_n hx hb rfl (by decide +kernel : decode cX6_isDarkAt 7 = .ok (.iload_n 2, 1))))
    (kx_sL (ks_aload_n hx hb rfl (by decide +kernel : decode cX6_isDarkAt 8 = .ok (.aload_n 0, 1)))))
    (kx_sB (kx_sL (ks_getI hx hb hts X.1.2.2.2.1 X.2.1 kf_6 (j := 5) rfl kw_478 (by decide +kernel : decode cX6_isDarkAt 9 = .ok (.getfield 40, 3))))
    (kx_sL (ks_icmp_lt hx hb (by decide) (by decide +kernel : decode cX6_isDarkAt 12 = .ok (.if_icmp .lt 11, 3)))))))
    (kx_sB (kx_sB (kx_sB (kx_sL (ks_iload_n hx hb rfl (by decide +kernel : decode cX6_isDarkAt 15 = .ok (.iload_n 2, 1))))
    (kx_sL (ks_aload_n hx hb rfl (by decide +kernel : decode cX6_isDarkAt 16 = .ok (.aload_n 0, 1)))))
    (kx_sB (kx_sL (ks_getI hx hb hts X.1.2.2.2.1 X.2.1 kf_6 (j := 6) rfl kw_480 (by decide +kernel : decode cX6_isDarkAt 17 = .ok (.getfield 43, 3))))
    (kx_sL (ks_icmp_lt hx hb (by decide) (by decide +kernel : decode cX6_isDarkAt 20 = .ok (.if_icmp .lt 7, 3))))))
    (kx_sB (kx_sB (kx_sL (ks_iconst hx hb (by decide +kernel) (by decide +kernel : decode cX6_isDarkAt 23 = .ok (.iconst 1, 1))))
    (kx_sL (ks_goto hx hb (by decide) (by decide +kernel : decode cX6_isDarkAt 24 = .ok (.goto 4, 3)))))
    (kx_sB (kx_sL (ks_iconst hx hb (by decide +kernel) (by decide +kernel : decode cX6_isDarkAt 27 = .ok (.iconst 0, 1))))
    (kx_sL (ks_zret Z hx hb hr (by decide +kernel : decode cX6_isDarkAt 28 = .ok (.ireturn, 1)))))))))
def tb_X10_isHourOfDay : Nat → kx_T := (kx_br 2 (kx_br 1 (kx_lf 0 (ki_iload 0 1)) (kx_lf 1 (ki_ic (0) 2))) (kx_br 4 (kx_lf 2 (ki_ic (23) 4)) (kx_br 7 (kx_lf 4 (ki_cs 3 3 sp_X10_isWithin 7)) (kx_lf 7 (ki_zret)))))
def sp_X10_isHourOfDay : kx_Sp := kx_sp tb_X10_isHourOfDay 1
set_option maxRecDepth 100000 in
set_option maxHeartbeats 4000000 in
theorem kc_X10_isHourOfDay (l : Launch) : kx_ok1 l yX10_isHourOfDay (kx_wd yX10_isHourOfDay cX10_isHourOfDay 1 (some .boolean)) ({ frames := 1, cells := 0, slots := 0, locals := 22 }) sp_X10_isHourOfDay 1 0 0 := kx_met (by decide) ⟨rfl, rfl⟩ (fun p e s m args below meth c Q D C4 A cnt0 ad0 P X Z hr hn => by
  have hx := X.1.1
  have hb := X.1.2.1
  have hts := X.1.2.2.2.2
  exact (kx_sB (kx_sB (kx_sL (ks_iload_n hx hb rfl (by decide +kernel : decode cX10_isHourOfDay 0 = .ok (.iload_n 0, 1))))
    (kx_sL (ks_iconst hx hb (by decide +kernel) (by decide +kernel : decode cX10_isHourOfDay 1 = .ok (.iconst 0, 1)))))
    (kx_sB (kx_sL (ks_bipush hx hb (by decide +kernel) (by decide +kernel : decode cX10_isHourOfDay 2 = .ok (.bipush 23, 2))))
    (kx_sB (kx_sL (ks_cs X (kc_X10_isWithin l) ⟨rfl, rfl⟩ kw_33 kw_34 kw_35 kw_1 (by decide +kernel) (by decide) (by decide +kernel : decode cX10_isHourOfDay 4 = .ok (.invokestatic 59, 3))))
    (kx_sL (ks_zret Z hx hb hr (by decide +kernel : decode cX10_isHourOfDay 7 = .ok (.ireturn, 1))))))))
def tb_X6_planned : Nat → kx_T := (kx_br 11 (kx_br 4 (kx_br 1 (kx_lf 0 (ki_iload 1 1)) (kx_lf 1 (ki_cs 1 1 sp_X10_isHourOfDay 4))) (kx_br 7 (kx_lf 4 (ki_if_eq 16 7)) (kx_br 8 (kx_lf 7 (ki_aload 0 8)) (kx_lf 8 (ki_getR 6 3 37 (fun o => o) 11))))) (kx_br 13 (kx_br 12 (kx_lf 11 (ki_iload 1 12)) (kx_lf 12 (ki_iald 13))) (kx_br 16 (kx_lf 13 (ki_goto 17)) (kx_br 17 (kx_lf 16 (ki_ic (-1) 17)) (kx_lf 17 (ki_iret))))))
def sp_X6_planned : kx_Sp := kx_sp tb_X6_planned 2
set_option maxRecDepth 100000 in
set_option maxHeartbeats 4000000 in
theorem kc_X6_planned (l : Launch) : kx_ok1 l yX6_planned (kx_wd yX6_planned cX6_planned 2 (some .int)) ({ frames := 2, cells := 0, slots := 0, locals := 42 }) sp_X6_planned 2 0 0 := kx_met (by decide) ⟨rfl, rfl⟩ (fun p e s m args below meth c Q D C4 A cnt0 ad0 P X Z hr hn => by
  have hx := X.1.1
  have hb := X.1.2.1
  have hts := X.1.2.2.2.2
  exact (kx_sB (kx_sB (kx_sB (kx_sL (ks_iload_n hx hb rfl (by decide +kernel : decode cX6_planned 0 = .ok (.iload_n 1, 1))))
    (kx_sL (ks_csN X (kc_X10_isHourOfDay l) ⟨rfl, rfl⟩ (host := "KeptLight") (by decide +kernel) kw_136 kw_137 kw_1 (by decide +kernel) (by decide) (by decide +kernel : decode cX6_planned 1 = .ok (.invokestatic 89, 3)))))
    (kx_sB (kx_sL (ks_if_eq hx hb (by decide) (by decide +kernel : decode cX6_planned 4 = .ok (.ifCond .eq 12, 3))))
    (kx_sB (kx_sL (ks_aload_n hx hb rfl (by decide +kernel : decode cX6_planned 7 = .ok (.aload_n 0, 1))))
    (kx_sL (ks_getR hx hb hts X.1.2.2.2.1 X.2.1 kf_6 (j := 3) rfl kw_473 (by decide +kernel : decode cX6_planned 8 = .ok (.getfield 32, 3)))))))
    (kx_sB (kx_sB (kx_sL (ks_iload_n hx hb rfl (by decide +kernel : decode cX6_planned 11 = .ok (.iload_n 1, 1))))
    (kx_sL (ks_iald hx hb X.2.1 (by decide +kernel : decode cX6_planned 12 = .ok (.iaload, 1)))))
    (kx_sB (kx_sL (ks_goto hx hb (by decide) (by decide +kernel : decode cX6_planned 13 = .ok (.goto 4, 3))))
    (kx_sB (kx_sL (ks_iconst hx hb (by decide +kernel) (by decide +kernel : decode cX6_planned 16 = .ok (.iconst (-1), 1))))
    (kx_sL (ks_iret Z hx hb hr (by decide +kernel : decode cX6_planned 17 = .ok (.ireturn, 1)))))))))
def tb_X6_assign : Nat → kx_T := (kx_br 8 (kx_br 4 (kx_br 1 (kx_lf 0 (ki_iload 1 1)) (kx_lf 1 (ki_cs 1 1 sp_X10_isHourOfDay 4))) (kx_br 7 (kx_lf 4 (ki_if_eq 14 7)) (kx_lf 7 (ki_aload 0 8)))) (kx_br 12 (kx_br 11 (kx_lf 8 (ki_getR 6 3 37 (fun o => o) 11)) (kx_lf 11 (ki_iload 1 12))) (kx_br 13 (kx_lf 12 (ki_iload 2 13)) (kx_br 14 (kx_lf 13 (ki_iast 14)) (kx_lf 14 (ki_vret))))))
def sp_X6_assign : kx_Sp := kx_sp tb_X6_assign 3
set_option maxRecDepth 100000 in
set_option maxHeartbeats 4000000 in
theorem kc_X6_assign (l : Launch) : kx_ok1 l yX6_assign (kx_wd yX6_assign cX6_assign 3 none) ({ frames := 2, cells := 0, slots := 0, locals := 42 }) sp_X6_assign 3 0 0 := kx_met (by decide) ⟨rfl, rfl⟩ (fun p e s m args below meth c Q D C4 A cnt0 ad0 P X Z hr hn => by
  have hx := X.1.1
  have hb := X.1.2.1
  have hts := X.1.2.2.2.2
  exact (kx_sB (kx_sB (kx_sB (kx_sL (ks_iload_n hx hb rfl (by decide +kernel : decode cX6_assign 0 = .ok (.iload_n 1, 1))))
    (kx_sL (ks_csN X (kc_X10_isHourOfDay l) ⟨rfl, rfl⟩ (host := "KeptLight") (by decide +kernel) kw_136 kw_137 kw_1 (by decide +kernel) (by decide) (by decide +kernel : decode cX6_assign 1 = .ok (.invokestatic 89, 3)))))
    (kx_sB (kx_sL (ks_if_eq hx hb (by decide) (by decide +kernel : decode cX6_assign 4 = .ok (.ifCond .eq 10, 3))))
    (kx_sL (ks_aload_n hx hb rfl (by decide +kernel : decode cX6_assign 7 = .ok (.aload_n 0, 1))))))
    (kx_sB (kx_sB (kx_sL (ks_getR hx hb hts X.1.2.2.2.1 X.2.1 kf_6 (j := 3) rfl kw_473 (by decide +kernel : decode cX6_assign 8 = .ok (.getfield 32, 3))))
    (kx_sL (ks_iload_n hx hb rfl (by decide +kernel : decode cX6_assign 11 = .ok (.iload_n 1, 1)))))
    (kx_sB (kx_sL (ks_iload_n hx hb rfl (by decide +kernel : decode cX6_assign 12 = .ok (.iload_n 2, 1))))
    (kx_sB (kx_sL (ks_iast hx hb X.2.1 (by decide +kernel : decode cX6_assign 13 = .ok (.iastore, 1))))
    (kx_sL (ks_vret Z hx hb hr (by decide +kernel : decode cX6_assign 14 = .ok (.return_, 1)))))))))
def tb_X6_tendLamp : Nat → kx_T := (kx_br 51 (kx_br 26 (kx_br 14 (kx_br 7 (kx_br 1 (kx_lf 0 (ki_aload 0 1)) (kx_br 4 (kx_lf 1 (ki_getI 6 15 4)) (kx_lf 4 (ki_if_ne 21 7)))) (kx_br 8 (kx_lf 7 (ki_aload 0 8)) (kx_br 11 (kx_lf 8 (ki_getI 6 10 11)) (kx_lf 11 (ki_if_eq 25 14))))) (kx_br 21 (kx_br 15 (kx_lf 14 (ki_aload 0 15)) (kx_br 18 (kx_lf 15 (ki_getI 6 11 18)) (kx_lf 18 (ki_if_ne 25 21)))) (kx_br 22 (kx_lf 21 (ki_ic (1) 22)) (kx_br 25 (kx_lf 22 (ki_goto 26)) (kx_lf 25 (ki_ic (0) 26)))))) (kx_br 36 (kx_br 29 (kx_br 27 (kx_lf 26 (ki_istore 1 27)) (kx_br 28 (kx_lf 27 (ki_aload 0 28)) (kx_lf 28 (ki_aload 0 29)))) (kx_br 32 (kx_lf 29 (ki_getI 6 13 32)) (kx_br 35 (kx_lf 32 (ki_if_eq 54 35)) (kx_lf 35 (ki_iload 1 36))))) (kx_br 43 (kx_br 39 (kx_lf 36 (ki_if_eq 54 39)) (kx_br 40 (kx_lf 39 (ki_aload 0 40)) (kx_lf 40 (ki_getI 6 8 43)))) (kx_br 47 (kx_br 44 (kx_lf 43 (ki_aload 0 44)) (kx_lf 44 (ki_getI 6 7 47))) (kx_br 50 (kx_lf 47 (ki_icmp_lt 54 50)) (kx_lf 50 (ki_ic (1) 51))))))) (kx_br 77 (kx_br 63 (kx_br 58 (kx_br 54 (kx_lf 51 (ki_goto 55)) (kx_br 55 (kx_lf 54 (ki_ic (0) 55)) (kx_lf 55 (ki_putZ 6 10 58)))) (kx_br 59 (kx_lf 58 (ki_aload 0 59)) (kx_br 60 (kx_lf 59 (ki_aload 0 60)) (kx_lf 60 (ki_getI 6 10 63))))) (kx_br 70 (kx_br 66 (kx_lf 63 (ki_if_eq 77 66)) (kx_br 67 (kx_lf 66 (ki_aload 0 67)) (kx_lf 67 (ki_getI 6 15 70)))) (kx_br 73 (kx_lf 70 (ki_if_ne 77 73)) (kx_br 74 (kx_lf 73 (ki_ic (1) 74)) (kx_lf 74 (ki_goto 78)))))) (kx_br 89 (kx_br 82 (kx_br 78 (kx_lf 77 (ki_ic (0) 78)) (kx_br 81 (kx_lf 78 (ki_putI 6 11 81)) (kx_lf 81 (ki_aload 0 82)))) (kx_br 85 (kx_lf 82 (ki_getI 6 10 85)) (kx_br 88 (kx_lf 85 (ki_if_eq 101 88)) (kx_lf 88 (ki_aload 0 89))))) (kx_br 94 (kx_br 90 (kx_lf 89 (ki_dup 90)) (kx_br 93 (kx_lf 90 (ki_getI 6 8 93)) (kx_lf 93 (ki_aload 0 94)))) (kx_br 98 (kx_br 97 (kx_lf 94 (ki_getI 6 7 97)) (kx_lf 97 (ki_isub 98))) (kx_br 101 (kx_lf 98 (ki_putI 6 8 101)) (kx_lf 101 (ki_vret))))))))
def sp_X6_tendLamp : kx_Sp := kx_sp tb_X6_tendLamp 2
set_option maxRecDepth 100000 in
set_option maxHeartbeats 4000000 in
theorem kc_X6_tendLamp (l : Launch) : kx_ok1 l yX6_tendLamp (kx_wd yX6_tendLamp cX6_tendLamp 2 none) ({ frames := 0, cells := 0, slots := 0, locals := 0 }) sp_X6_tendLamp 2 0 0 := kx_met (by decide) ⟨rfl, rfl⟩ (fun p e s m args below meth c Q D C4 A cnt0 ad0 P X Z hr hn => by
  have hx := X.1.1
  have hb := X.1.2.1
  have hts := X.1.2.2.2.2
  exact (kx_sB (kx_sB (kx_sB (kx_sB (kx_sB (kx_sL (ks_aload_n hx hb rfl (by decide +kernel : decode cX6_tendLamp 0 = .ok (.aload_n 0, 1))))
    (kx_sB (kx_sL (ks_getI hx hb hts X.1.2.2.2.1 X.2.1 kf_6 (j := 15) rfl kw_500 (by decide +kernel : decode cX6_tendLamp 1 = .ok (.getfield 71, 3))))
    (kx_sL (ks_if_ne hx hb (by decide) (by decide +kernel : decode cX6_tendLamp 4 = .ok (.ifCond .ne 17, 3))))))
    (kx_sB (kx_sL (ks_aload_n hx hb rfl (by decide +kernel : decode cX6_tendLamp 7 = .ok (.aload_n 0, 1))))
    (kx_sB (kx_sL (ks_getI hx hb hts X.1.2.2.2.1 X.2.1 kf_6 (j := 10) rfl kw_488 (by decide +kernel : decode cX6_tendLamp 8 = .ok (.getfield 55, 3))))
    (kx_sL (ks_if_eq hx hb (by decide) (by decide +kernel : decode cX6_tendLamp 11 = .ok (.ifCond .eq 14, 3)))))))
    (kx_sB (kx_sB (kx_sL (ks_aload_n hx hb rfl (by decide +kernel : decode cX6_tendLamp 14 = .ok (.aload_n 0, 1))))
    (kx_sB (kx_sL (ks_getI hx hb hts X.1.2.2.2.1 X.2.1 kf_6 (j := 11) rfl kw_491 (by decide +kernel : decode cX6_tendLamp 15 = .ok (.getfield 59, 3))))
    (kx_sL (ks_if_ne hx hb (by decide) (by decide +kernel : decode cX6_tendLamp 18 = .ok (.ifCond .ne 7, 3))))))
    (kx_sB (kx_sL (ks_iconst hx hb (by decide +kernel) (by decide +kernel : decode cX6_tendLamp 21 = .ok (.iconst 1, 1))))
    (kx_sB (kx_sL (ks_goto hx hb (by decide) (by decide +kernel : decode cX6_tendLamp 22 = .ok (.goto 4, 3))))
    (kx_sL (ks_iconst hx hb (by decide +kernel) (by decide +kernel : decode cX6_tendLamp 25 = .ok (.iconst 0, 1))))))))
    (kx_sB (kx_sB (kx_sB (kx_sL (ks_istore_n hx hb rfl (by decide) (by decide +kernel : decode cX6_tendLamp 26 = .ok (.istore_n 1, 1))))
    (kx_sB (kx_sL (ks_aload_n hx hb rfl (by decide +kernel : decode cX6_tendLamp 27 = .ok (.aload_n 0, 1))))
    (kx_sL (ks_aload_n hx hb rfl (by decide +kernel : decode cX6_tendLamp 28 = .ok (.aload_n 0, 1))))))
    (kx_sB (kx_sL (ks_getI hx hb hts X.1.2.2.2.1 X.2.1 kf_6 (j := 13) rfl kw_495 (by decide +kernel : decode cX6_tendLamp 29 = .ok (.getfield 65, 3))))
    (kx_sB (kx_sL (ks_if_eq hx hb (by decide) (by decide +kernel : decode cX6_tendLamp 32 = .ok (.ifCond .eq 22, 3))))
    (kx_sL (ks_iload_n hx hb rfl (by decide +kernel : decode cX6_tendLamp 35 = .ok (.iload_n 1, 1)))))))
    (kx_sB (kx_sB (kx_sL (ks_if_eq hx hb (by decide) (by decide +kernel : decode cX6_tendLamp 36 = .ok (.ifCond .eq 18, 3))))
    (kx_sB (kx_sL (ks_aload_n hx hb rfl (by decide +kernel : decode cX6_tendLamp 39 = .ok (.aload_n 0, 1))))
    (kx_sL (ks_getI hx hb hts X.1.2.2.2.1 X.2.1 kf_6 (j := 8) rfl kw_484 (by decide +kernel : decode cX6_tendLamp 40 = .ok (.getfield 49, 3))))))
    (kx_sB (kx_sB (kx_sL (ks_aload_n hx hb rfl (by decide +kernel : decode cX6_tendLamp 43 = .ok (.aload_n 0, 1))))
    (kx_sL (ks_getI hx hb hts X.1.2.2.2.1 X.2.1 kf_6 (j := 7) rfl kw_482 (by decide +kernel : decode cX6_tendLamp 44 = .ok (.getfield 46, 3)))))
    (kx_sB (kx_sL (ks_icmp_lt hx hb (by decide) (by decide +kernel : decode cX6_tendLamp 47 = .ok (.if_icmp .lt 7, 3))))
    (kx_sL (ks_iconst hx hb (by decide +kernel) (by decide +kernel : decode cX6_tendLamp 50 = .ok (.iconst 1, 1)))))))))
    (kx_sB (kx_sB (kx_sB (kx_sB (kx_sL (ks_goto hx hb (by decide) (by decide +kernel : decode cX6_tendLamp 51 = .ok (.goto 4, 3))))
    (kx_sB (kx_sL (ks_iconst hx hb (by decide +kernel) (by decide +kernel : decode cX6_tendLamp 54 = .ok (.iconst 0, 1))))
    (kx_sL (ks_putZ hx hb hts X.1.2.2.2.1 X.2.1 kf_6 (j := 10) rfl kw_488 (by decide +kernel) (by decide +kernel) (by decide +kernel : decode cX6_tendLamp 55 = .ok (.putfield 55, 3))))))
    (kx_sB (kx_sL (ks_aload_n hx hb rfl (by decide +kernel : decode cX6_tendLamp 58 = .ok (.aload_n 0, 1))))
    (kx_sB (kx_sL (ks_aload_n hx hb rfl (by decide +kernel : decode cX6_tendLamp 59 = .ok (.aload_n 0, 1))))
    (kx_sL (ks_getI hx hb hts X.1.2.2.2.1 X.2.1 kf_6 (j := 10) rfl kw_488 (by decide +kernel : decode cX6_tendLamp 60 = .ok (.getfield 55, 3)))))))
    (kx_sB (kx_sB (kx_sL (ks_if_eq hx hb (by decide) (by decide +kernel : decode cX6_tendLamp 63 = .ok (.ifCond .eq 14, 3))))
    (kx_sB (kx_sL (ks_aload_n hx hb rfl (by decide +kernel : decode cX6_tendLamp 66 = .ok (.aload_n 0, 1))))
    (kx_sL (ks_getI hx hb hts X.1.2.2.2.1 X.2.1 kf_6 (j := 15) rfl kw_500 (by decide +kernel : decode cX6_tendLamp 67 = .ok (.getfield 71, 3))))))
    (kx_sB (kx_sL (ks_if_ne hx hb (by decide) (by decide +kernel : decode cX6_tendLamp 70 = .ok (.ifCond .ne 7, 3))))
    (kx_sB (kx_sL (ks_iconst hx hb (by decide +kernel) (by decide +kernel : decode cX6_tendLamp 73 = .ok (.iconst 1, 1))))
    (kx_sL (ks_goto hx hb (by decide) (by decide +kernel : decode cX6_tendLamp 74 = .ok (.goto 4, 3))))))))
    (kx_sB (kx_sB (kx_sB (kx_sL (ks_iconst hx hb (by decide +kernel) (by decide +kernel : decode cX6_tendLamp 77 = .ok (.iconst 0, 1))))
    (kx_sB (kx_sL (ks_putI hx hb hts X.1.2.2.2.1 X.2.1 kf_6 (j := 11) rfl kw_491 (by decide +kernel) (by decide +kernel) (by decide +kernel : decode cX6_tendLamp 78 = .ok (.putfield 59, 3))))
    (kx_sL (ks_aload_n hx hb rfl (by decide +kernel : decode cX6_tendLamp 81 = .ok (.aload_n 0, 1))))))
    (kx_sB (kx_sL (ks_getI hx hb hts X.1.2.2.2.1 X.2.1 kf_6 (j := 10) rfl kw_488 (by decide +kernel : decode cX6_tendLamp 82 = .ok (.getfield 55, 3))))
    (kx_sB (kx_sL (ks_if_eq hx hb (by decide) (by decide +kernel : decode cX6_tendLamp 85 = .ok (.ifCond .eq 16, 3))))
    (kx_sL (ks_aload_n hx hb rfl (by decide +kernel : decode cX6_tendLamp 88 = .ok (.aload_n 0, 1)))))))
    (kx_sB (kx_sB (kx_sL (ks_dup hx hb (by decide +kernel : decode cX6_tendLamp 89 = .ok (.dup, 1))))
    (kx_sB (kx_sL (ks_getI hx hb hts X.1.2.2.2.1 X.2.1 kf_6 (j := 8) rfl kw_484 (by decide +kernel : decode cX6_tendLamp 90 = .ok (.getfield 49, 3))))
    (kx_sL (ks_aload_n hx hb rfl (by decide +kernel : decode cX6_tendLamp 93 = .ok (.aload_n 0, 1))))))
    (kx_sB (kx_sB (kx_sL (ks_getI hx hb hts X.1.2.2.2.1 X.2.1 kf_6 (j := 7) rfl kw_482 (by decide +kernel : decode cX6_tendLamp 94 = .ok (.getfield 46, 3))))
    (kx_sL (ks_isub hx hb (by decide +kernel : decode cX6_tendLamp 97 = .ok (.isub, 1)))))
    (kx_sB (kx_sL (ks_putI hx hb hts X.1.2.2.2.1 X.2.1 kf_6 (j := 8) rfl kw_484 (by decide +kernel) (by decide +kernel) (by decide +kernel : decode cX6_tendLamp 98 = .ok (.putfield 49, 3))))
    (kx_sL (ks_vret Z hx hb hr (by decide +kernel : decode cX6_tendLamp 101 = .ok (.return_, 1)))))))))))
def tb_X6_keepWatch : Nat → kx_T := (kx_br 59 (kx_br 28 (kx_br 15 (kx_br 5 (kx_br 1 (kx_lf 0 (ki_aload 0 1)) (kx_br 2 (kx_lf 1 (ki_aload 0 2)) (kx_lf 2 (ki_getR 6 0 5 (fun o => o) 5)))) (kx_br 9 (kx_br 6 (kx_lf 5 (ki_aload 0 6)) (kx_lf 6 (ki_getI 6 4 9))) (kx_br 12 (kx_lf 9 (ki_cv 5 1 4 sp_X5_weatherAt 12)) (kx_lf 12 (ki_putI 6 12 15))))) (kx_br 18 (kx_br 16 (kx_lf 15 (ki_aload 0 16)) (kx_br 17 (kx_lf 16 (ki_aload 0 17)) (kx_lf 17 (ki_aload 0 18)))) (kx_br 24 (kx_br 21 (kx_lf 18 (ki_getI 6 4 21)) (kx_lf 21 (ki_cv 6 1 3 sp_X6_isDarkAt 24))) (kx_br 27 (kx_lf 24 (ki_putZ 6 13 27)) (kx_lf 27 (ki_aload 0 28)))))) (kx_br 44 (kx_br 33 (kx_br 29 (kx_lf 28 (ki_aload 0 29)) (kx_br 30 (kx_lf 29 (ki_aload 0 30)) (kx_lf 30 (ki_getI 6 4 33)))) (kx_br 38 (kx_br 35 (kx_lf 33 (ki_ic (24) 35)) (kx_lf 35 (ki_cs 2 3 sp_J9_floorMod_7cf53 38))) (kx_br 41 (kx_lf 38 (ki_cv 6 1 2 sp_X6_planned 41)) (kx_lf 41 (ki_putI 6 14 44))))) (kx_br 49 (kx_br 45 (kx_lf 44 (ki_aload 0 45)) (kx_br 46 (kx_lf 45 (ki_aload 0 46)) (kx_lf 46 (ki_getR 6 1 1 (fun o => o) 49)))) (kx_br 53 (kx_br 50 (kx_lf 49 (ki_aload 0 50)) (kx_lf 50 (ki_getI 6 14 53))) (kx_br 56 (kx_lf 53 (ki_cv 1 1 2 sp_X1_isAwake 56)) (kx_lf 56 (ki_putZ 6 15 59))))))) (kx_br 87 (kx_br 72 (kx_br 64 (kx_br 60 (kx_lf 59 (ki_aload 0 60)) (kx_br 63 (kx_lf 60 (ki_cv 6 0 2 sp_X6_tendLamp 63)) (kx_lf 63 (ki_aload 0 64)))) (kx_br 68 (kx_br 65 (kx_lf 64 (ki_aload 0 65)) (kx_lf 65 (ki_getI 6 12 68))) (kx_br 69 (kx_lf 68 (ki_ic (1) 69)) (kx_lf 69 (ki_icmp_ne 91 72))))) (kx_br 79 (kx_br 73 (kx_lf 72 (ki_aload 0 73)) (kx_br 76 (kx_lf 73 (ki_getI 6 15 76)) (kx_lf 76 (ki_if_eq 91 79)))) (kx_br 83 (kx_br 80 (kx_lf 79 (ki_aload 0 80)) (kx_lf 80 (ki_getI 6 9 83))) (kx_br 84 (kx_lf 83 (ki_ic (1) 84)) (kx_lf 84 (ki_icmp_lt 91 87)))))) (kx_br 102 (kx_br 92 (kx_br 88 (kx_lf 87 (ki_ic (1) 88)) (kx_br 91 (kx_lf 88 (ki_goto 92)) (kx_lf 91 (ki_ic (0) 92)))) (kx_br 96 (kx_br 95 (kx_lf 92 (ki_putZ 6 16 95)) (kx_lf 95 (ki_aload 0 96))) (kx_br 99 (kx_lf 96 (ki_getI 6 16 99)) (kx_lf 99 (ki_if_eq 112 102))))) (kx_br 107 (kx_br 103 (kx_lf 102 (ki_aload 0 103)) (kx_br 104 (kx_lf 103 (ki_dup 104)) (kx_lf 104 (ki_getI 6 9 107)))) (kx_br 109 (kx_br 108 (kx_lf 107 (ki_ic (1) 108)) (kx_lf 108 (ki_isub 109))) (kx_br 112 (kx_lf 109 (ki_putI 6 9 112)) (kx_lf 112 (ki_vret))))))))
def sp_X6_keepWatch : kx_Sp := kx_sp tb_X6_keepWatch 1
set_option maxRecDepth 100000 in
set_option maxHeartbeats 4000000 in
theorem kc_X6_keepWatch (l : Launch) : kx_ok1 l yX6_keepWatch (kx_wd yX6_keepWatch cX6_keepWatch 1 none) ({ frames := 3, cells := 0, slots := 0, locals := 63 }) sp_X6_keepWatch 1 0 0 := kx_met (by decide) ⟨rfl, rfl⟩ (fun p e s m args below meth c Q D C4 A cnt0 ad0 P X Z hr hn => by
  have hx := X.1.1
  have hb := X.1.2.1
  have hts := X.1.2.2.2.2
  exact (kx_sB (kx_sB (kx_sB (kx_sB (kx_sB (kx_sL (ks_aload_n hx hb rfl (by decide +kernel : decode cX6_keepWatch 0 = .ok (.aload_n 0, 1))))
    (kx_sB (kx_sL (ks_aload_n hx hb rfl (by decide +kernel : decode cX6_keepWatch 1 = .ok (.aload_n 0, 1))))
    (kx_sL (ks_getR hx hb hts X.1.2.2.2.1 X.2.1 kf_6 (j := 0) rfl kw_467 (by decide +kernel : decode cX6_keepWatch 2 = .ok (.getfield 12, 3))))))
    (kx_sB (kx_sB (kx_sL (ks_aload_n hx hb rfl (by decide +kernel : decode cX6_keepWatch 5 = .ok (.aload_n 0, 1))))
    (kx_sL (ks_getI hx hb hts X.1.2.2.2.1 X.2.1 kf_6 (j := 4) rfl kw_474 (by decide +kernel : decode cX6_keepWatch 6 = .ok (.getfield 36, 3)))))
    (kx_sB (kx_sL (ks_cv X (kc_X5_weatherAt l) ⟨rfl, rfl⟩ kf_5 kw_125 kw_126 kw_127 kw_128 kw_4 (by decide +kernel) (by decide) (by decide +kernel : decode cX6_keepWatch 9 = .ok (.invokevirtual 93, 3))))
    (kx_sL (ks_putI hx hb hts X.1.2.2.2.1 X.2.1 kf_6 (j := 12) rfl kw_493 (by decide +kernel) (by decide +kernel) (by decide +kernel : decode cX6_keepWatch 12 = .ok (.putfield 62, 3)))))))
    (kx_sB (kx_sB (kx_sL (ks_aload_n hx hb rfl (by decide +kernel : decode cX6_keepWatch 15 = .ok (.aload_n 0, 1))))
    (kx_sB (kx_sL (ks_aload_n hx hb rfl (by decide +kernel : decode cX6_keepWatch 16 = .ok (.aload_n 0, 1))))
    (kx_sL (ks_aload_n hx hb rfl (by decide +kernel : decode cX6_keepWatch 17 = .ok (.aload_n 0, 1))))))
    (kx_sB (kx_sB (kx_sL (ks_getI hx hb hts X.1.2.2.2.1 X.2.1 kf_6 (j := 4) rfl kw_474 (by decide +kernel : decode cX6_keepWatch 18 = .ok (.getfield 36, 3))))
    (kx_sL (ks_cv X (kc_X6_isDarkAt l) ⟨rfl, rfl⟩ kf_6 kw_130 kw_37 kw_38 kw_39 kw_3 (by decide +kernel) (by decide) (by decide +kernel : decode cX6_keepWatch 21 = .ok (.invokevirtual 97, 3)))))
    (kx_sB (kx_sL (ks_putZ hx hb hts X.1.2.2.2.1 X.2.1 kf_6 (j := 13) rfl kw_495 (by decide +kernel) (by decide +kernel) (by decide +kernel : decode cX6_keepWatch 24 = .ok (.putfield 65, 3))))
    (kx_sL (ks_aload_n hx hb rfl (by decide +kernel : decode cX6_keepWatch 27 = .ok (.aload_n 0, 1))))))))
    (kx_sB (kx_sB (kx_sB (kx_sL (ks_aload_n hx hb rfl (by decide +kernel : decode cX6_keepWatch 28 = .ok (.aload_n 0, 1))))
    (kx_sB (kx_sL (ks_aload_n hx hb rfl (by decide +kernel : decode cX6_keepWatch 29 = .ok (.aload_n 0, 1))))
    (kx_sL (ks_getI hx hb hts X.1.2.2.2.1 X.2.1 kf_6 (j := 4) rfl kw_474 (by decide +kernel : decode cX6_keepWatch 30 = .ok (.getfield 36, 3))))))
    (kx_sB (kx_sB (kx_sL (ks_bipush hx hb (by decide +kernel) (by decide +kernel : decode cX6_keepWatch 33 = .ok (.bipush 24, 2))))
    (kx_sL (ks_cs X (kc_J9_floorMod_7cf53 l) ⟨rfl, rfl⟩ kw_40 kw_41 kw_42 kw_18 (by decide +kernel) (by decide) (by decide +kernel : decode cX6_keepWatch 35 = .ok (.invokestatic 83, 3)))))
    (kx_sB (kx_sL (ks_cv X (kc_X6_planned l) ⟨rfl, rfl⟩ kf_6 kw_131 kw_132 kw_133 kw_134 kw_3 (by decide +kernel) (by decide) (by decide +kernel : decode cX6_keepWatch 38 = .ok (.invokevirtual 100, 3))))
    (kx_sL (ks_putI hx hb hts X.1.2.2.2.1 X.2.1 kf_6 (j := 14) rfl kw_498 (by decide +kernel) (by decide +kernel) (by decide +kernel : decode cX6_keepWatch 41 = .ok (.putfield 68, 3)))))))
    (kx_sB (kx_sB (kx_sL (ks_aload_n hx hb rfl (by decide +kernel : decode cX6_keepWatch 44 = .ok (.aload_n 0, 1))))
    (kx_sB (kx_sL (ks_aload_n hx hb rfl (by decide +kernel : decode cX6_keepWatch 45 = .ok (.aload_n 0, 1))))
    (kx_sL (ks_getR hx hb hts X.1.2.2.2.1 X.2.1 kf_6 (j := 1) rfl kw_469 (by decide +kernel : decode cX6_keepWatch 46 = .ok (.getfield 21, 3))))))
    (kx_sB (kx_sB (kx_sL (ks_aload_n hx hb rfl (by decide +kernel : decode cX6_keepWatch 49 = .ok (.aload_n 0, 1))))
    (kx_sL (ks_getI hx hb hts X.1.2.2.2.1 X.2.1 kf_6 (j := 14) rfl kw_498 (by decide +kernel : decode cX6_keepWatch 50 = .ok (.getfield 68, 3)))))
    (kx_sB (kx_sL (ks_cv X (kc_X1_isAwake l) ⟨rfl, rfl⟩ kf_1 kw_138 kw_139 kw_140 kw_141 kw_5 (by decide +kernel) (by decide) (by decide +kernel : decode cX6_keepWatch 53 = .ok (.invokevirtual 103, 3))))
    (kx_sL (ks_putZ hx hb hts X.1.2.2.2.1 X.2.1 kf_6 (j := 15) rfl kw_500 (by decide +kernel) (by decide +kernel) (by decide +kernel : decode cX6_keepWatch 56 = .ok (.putfield 71, 3)))))))))
    (kx_sB (kx_sB (kx_sB (kx_sB (kx_sL (ks_aload_n hx hb rfl (by decide +kernel : decode cX6_keepWatch 59 = .ok (.aload_n 0, 1))))
    (kx_sB (kx_sL (ks_cv X (kc_X6_tendLamp l) ⟨rfl, rfl⟩ kf_6 kw_146 kw_148 kv_2 kw_150 kw_3 (by decide +kernel) (by decide) (by decide +kernel : decode cX6_keepWatch 60 = .ok (.invokevirtual 106, 3))))
    (kx_sL (ks_aload_n hx hb rfl (by decide +kernel : decode cX6_keepWatch 63 = .ok (.aload_n 0, 1))))))
    (kx_sB (kx_sB (kx_sL (ks_aload_n hx hb rfl (by decide +kernel : decode cX6_keepWatch 64 = .ok (.aload_n 0, 1))))
    (kx_sL (ks_getI hx hb hts X.1.2.2.2.1 X.2.1 kf_6 (j := 12) rfl kw_493 (by decide +kernel : decode cX6_keepWatch 65 = .ok (.getfield 62, 3)))))
    (kx_sB (kx_sL (ks_iconst hx hb (by decide +kernel) (by decide +kernel : decode cX6_keepWatch 68 = .ok (.iconst 1, 1))))
    (kx_sL (ks_icmp_ne hx hb (by decide) (by decide +kernel : decode cX6_keepWatch 69 = .ok (.if_icmp .ne 22, 3)))))))
    (kx_sB (kx_sB (kx_sL (ks_aload_n hx hb rfl (by decide +kernel : decode cX6_keepWatch 72 = .ok (.aload_n 0, 1))))
    (kx_sB (kx_sL (ks_getI hx hb hts X.1.2.2.2.1 X.2.1 kf_6 (j := 15) rfl kw_500 (by decide +kernel : decode cX6_keepWatch 73 = .ok (.getfield 71, 3))))
    (kx_sL (ks_if_eq hx hb (by decide) (by decide +kernel : decode cX6_keepWatch 76 = .ok (.ifCond .eq 15, 3))))))
    (kx_sB (kx_sB (kx_sL (ks_aload_n hx hb rfl (by decide +kernel : decode cX6_keepWatch 79 = .ok (.aload_n 0, 1))))
    (kx_sL (ks_getI hx hb hts X.1.2.2.2.1 X.2.1 kf_6 (j := 9) rfl kw_486 (by decide +kernel : decode cX6_keepWatch 80 = .ok (.getfield 52, 3)))))
    (kx_sB (kx_sL (ks_iconst hx hb (by decide +kernel) (by decide +kernel : decode cX6_keepWatch 83 = .ok (.iconst 1, 1))))
    (kx_sL (ks_icmp_lt hx hb (by decide) (by decide +kernel : decode cX6_keepWatch 84 = .ok (.if_icmp .lt 7, 3))))))))
    (kx_sB (kx_sB (kx_sB (kx_sL (ks_iconst hx hb (by decide +kernel) (by decide +kernel : decode cX6_keepWatch 87 = .ok (.iconst 1, 1))))
    (kx_sB (kx_sL (ks_goto hx hb (by decide) (by decide +kernel : decode cX6_keepWatch 88 = .ok (.goto 4, 3))))
    (kx_sL (ks_iconst hx hb (by decide +kernel) (by decide +kernel : decode cX6_keepWatch 91 = .ok (.iconst 0, 1))))))
    (kx_sB (kx_sB (kx_sL (ks_putZ hx hb hts X.1.2.2.2.1 X.2.1 kf_6 (j := 16) rfl kw_502 (by decide +kernel) (by decide +kernel) (by decide +kernel : decode cX6_keepWatch 92 = .ok (.putfield 74, 3))))
    (kx_sL (ks_aload_n hx hb rfl (by decide +kernel : decode cX6_keepWatch 95 = .ok (.aload_n 0, 1)))))
    (kx_sB (kx_sL (ks_getI hx hb hts X.1.2.2.2.1 X.2.1 kf_6 (j := 16) rfl kw_502 (by decide +kernel : decode cX6_keepWatch 96 = .ok (.getfield 74, 3))))
    (kx_sL (ks_if_eq hx hb (by decide) (by decide +kernel : decode cX6_keepWatch 99 = .ok (.ifCond .eq 13, 3)))))))
    (kx_sB (kx_sB (kx_sL (ks_aload_n hx hb rfl (by decide +kernel : decode cX6_keepWatch 102 = .ok (.aload_n 0, 1))))
    (kx_sB (kx_sL (ks_dup hx hb (by decide +kernel : decode cX6_keepWatch 103 = .ok (.dup, 1))))
    (kx_sL (ks_getI hx hb hts X.1.2.2.2.1 X.2.1 kf_6 (j := 9) rfl kw_486 (by decide +kernel : decode cX6_keepWatch 104 = .ok (.getfield 52, 3))))))
    (kx_sB (kx_sB (kx_sL (ks_iconst hx hb (by decide +kernel) (by decide +kernel : decode cX6_keepWatch 107 = .ok (.iconst 1, 1))))
    (kx_sL (ks_isub hx hb (by decide +kernel : decode cX6_keepWatch 108 = .ok (.isub, 1)))))
    (kx_sB (kx_sL (ks_putI hx hb hts X.1.2.2.2.1 X.2.1 kf_6 (j := 9) rfl kw_486 (by decide +kernel) (by decide +kernel) (by decide +kernel : decode cX6_keepWatch 109 = .ok (.putfield 52, 3))))
    (kx_sL (ks_vret Z hx hb hr (by decide +kernel : decode cX6_keepWatch 112 = .ok (.return_, 1)))))))))))

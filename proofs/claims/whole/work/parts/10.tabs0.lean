def tb_X0_isDueAt : Nat → kx_T := (kx_br 10 (kx_br 5 (kx_br 1 (kx_lf 0 (ki_aload 0 1)) (kx_br 4 (kx_lf 1 (ki_getI 0 0 4)) (kx_lf 4 (ki_ic (-1) 5)))) (kx_br 8 (kx_lf 5 (ki_icmp_eq 20 8)) (kx_br 9 (kx_lf 8 (ki_iload 1 9)) (kx_lf 9 (ki_aload 0 10))))) (kx_br 17 (kx_br 13 (kx_lf 10 (ki_getI 0 0 13)) (kx_br 16 (kx_lf 13 (ki_icmp_lt 20 16)) (kx_lf 16 (ki_ic (1) 17)))) (kx_br 20 (kx_lf 17 (ki_goto 21)) (kx_br 21 (kx_lf 20 (ki_ic (0) 21)) (kx_lf 21 (ki_zret))))))
def sp_X0_isDueAt : kx_Sp := kx_sp tb_X0_isDueAt 2
set_option maxRecDepth 100000 in
set_option maxHeartbeats 4000000 in
theorem kc_X0_isDueAt (l : Launch) : kx_ok1 l yX0_isDueAt (kx_wd yX0_isDueAt cX0_isDueAt 2 (some .boolean)) ({ frames := 0, cells := 0, slots := 0, locals := 0 }) sp_X0_isDueAt 2 0 0 := kx_met (by decide) ⟨rfl, rfl⟩ (fun p e s m args below meth c Q D C4 A cnt0 ad0 P X Z hr hn => by
  have hx := X.1.1
  have hb := X.1.2.1
  have hts := X.1.2.2.2.2
  exact (kx_sB (kx_sB (kx_sB (kx_sL (ks_aload_n hx hb rfl (by decide +kernel : decode cX0_isDueAt 0 = .ok (.aload_n 0, 1))))
    (kx_sB (kx_sL (ks_getI hx hb hts X.1.2.2.2.1 X.2.1 kf_0 (j := 0) rfl kw_89 (by decide +kernel : decode cX0_isDueAt 1 = .ok (.getfield 9, 3))))
    (kx_sL (ks_iconst hx hb (by decide +kernel) (by decide +kernel : decode cX0_isDueAt 4 = .ok (.iconst (-1), 1))))))
    (kx_sB (kx_sL (ks_icmp_eq hx hb (by decide) (by decide +kernel : decode cX0_isDueAt 5 = .ok (.if_icmp .eq 15, 3))))
    (kx_sB (kx_sL (ks_iload_n hx hb rfl (by decide +kernel : decode cX0_isDueAt 8 = .ok (.iload_n 1, 1))))
    (kx_sL (ks_aload_n hx hb rfl (by decide +kernel : decode cX0_isDueAt 9 = .ok (.aload_n 0, 1)))))))
    (kx_sB (kx_sB (kx_sL (ks_getI hx hb hts X.1.2.2.2.1 X.2.1 kf_0 (j := 0) rfl kw_89 (by decide +kernel : decode cX0_isDueAt 10 = .ok (.getfield 9, 3))))
    (kx_sB (kx_sL (ks_icmp_lt hx hb (by decide) (by decide +kernel : decode cX0_isDueAt 13 = .ok (.if_icmp .lt 7, 3))))
    (kx_sL (ks_iconst hx hb (by decide +kernel) (by decide +kernel : decode cX0_isDueAt 16 = .ok (.iconst 1, 1))))))
    (kx_sB (kx_sL (ks_goto hx hb (by decide) (by decide +kernel : decode cX0_isDueAt 17 = .ok (.goto 4, 3))))
    (kx_sB (kx_sL (ks_iconst hx hb (by decide +kernel) (by decide +kernel : decode cX0_isDueAt 20 = .ok (.iconst 0, 1))))
    (kx_sL (ks_zret Z hx hb hr (by decide +kernel : decode cX0_isDueAt 21 = .ok (.ireturn, 1)))))))))
def tb_X0_become : Nat → kx_T := (kx_br 18 (kx_br 9 (kx_br 2 (kx_br 1 (kx_lf 0 (ki_aload 0 1)) (kx_lf 1 (ki_aload 1 2))) (kx_br 5 (kx_lf 2 (ki_getI 0 0 5)) (kx_br 8 (kx_lf 5 (ki_putI 0 0 8)) (kx_lf 8 (ki_aload 0 9))))) (kx_br 13 (kx_br 10 (kx_lf 9 (ki_aload 1 10)) (kx_lf 10 (ki_getI 0 1 13))) (kx_br 16 (kx_lf 13 (ki_putI 0 1 16)) (kx_br 17 (kx_lf 16 (ki_aload 0 17)) (kx_lf 17 (ki_aload 1 18)))))) (kx_br 29 (kx_br 24 (kx_br 21 (kx_lf 18 (ki_getI 0 2 21)) (kx_lf 21 (ki_putI 0 2 24))) (kx_br 25 (kx_lf 24 (ki_aload 0 25)) (kx_br 26 (kx_lf 25 (ki_aload 1 26)) (kx_lf 26 (ki_getI 0 3 29))))) (kx_br 34 (kx_br 32 (kx_lf 29 (ki_putI 0 3 32)) (kx_br 33 (kx_lf 32 (ki_aload 0 33)) (kx_lf 33 (ki_aload 1 34)))) (kx_br 37 (kx_lf 34 (ki_getI 0 4 37)) (kx_br 40 (kx_lf 37 (ki_putI 0 4 40)) (kx_lf 40 (ki_vret)))))))
def sp_X0_become : kx_Sp := kx_sp tb_X0_become 2
set_option maxRecDepth 100000 in
set_option maxHeartbeats 4000000 in
theorem kc_X0_become (l : Launch) : kx_ok1 l yX0_become (kx_wd yX0_become cX0_become 2 none) ({ frames := 0, cells := 0, slots := 0, locals := 0 }) sp_X0_become 2 0 0 := kx_met (by decide) ⟨rfl, rfl⟩ (fun p e s m args below meth c Q D C4 A cnt0 ad0 P X Z hr hn => by
  have hx := X.1.1
  have hb := X.1.2.1
  have hts := X.1.2.2.2.2
  exact (kx_sB (kx_sB (kx_sB (kx_sB (kx_sL (ks_aload_n hx hb rfl (by decide +kernel : decode cX0_become 0 = .ok (.aload_n 0, 1))))
    (kx_sL (ks_aload_n hx hb rfl (by decide +kernel : decode cX0_become 1 = .ok (.aload_n 1, 1)))))
    (kx_sB (kx_sL (ks_getI hx hb hts X.1.2.2.2.1 X.2.1 kf_0 (j := 0) rfl kw_89 (by decide +kernel : decode cX0_become 2 = .ok (.getfield 9, 3))))
    (kx_sB (kx_sL (ks_putI hx hb hts X.1.2.2.2.1 X.2.1 kf_0 (j := 0) rfl kw_89 (by decide +kernel) (by decide +kernel) (by decide +kernel : decode cX0_become 5 = .ok (.putfield 9, 3))))
    (kx_sL (ks_aload_n hx hb rfl (by decide +kernel : decode cX0_become 8 = .ok (.aload_n 0, 1)))))))
    (kx_sB (kx_sB (kx_sL (ks_aload_n hx hb rfl (by decide +kernel : decode cX0_become 9 = .ok (.aload_n 1, 1))))
    (kx_sL (ks_getI hx hb hts X.1.2.2.2.1 X.2.1 kf_0 (j := 1) rfl kw_92 (by decide +kernel : decode cX0_become 10 = .ok (.getfield 15, 3)))))
    (kx_sB (kx_sL (ks_putI hx hb hts X.1.2.2.2.1 X.2.1 kf_0 (j := 1) rfl kw_92 (by decide +kernel) (by decide +kernel) (by decide +kernel : decode cX0_become 13 = .ok (.putfield 15, 3))))
    (kx_sB (kx_sL (ks_aload_n hx hb rfl (by decide +kernel : decode cX0_become 16 = .ok (.aload_n 0, 1))))
    (kx_sL (ks_aload_n hx hb rfl (by decide +kernel : decode cX0_become 17 = .ok (.aload_n 1, 1))))))))
    (kx_sB (kx_sB (kx_sB (kx_sL (ks_getI hx hb hts X.1.2.2.2.1 X.2.1 kf_0 (j := 2) rfl kw_95 (by decide +kernel : decode cX0_become 18 = .ok (.getfield 18, 3))))
    (kx_sL (ks_putI hx hb hts X.1.2.2.2.1 X.2.1 kf_0 (j := 2) rfl kw_95 (by decide +kernel) (by decide +kernel) (by decide +kernel : decode cX0_become 21 = .ok (.putfield 18, 3)))))
    (kx_sB (kx_sL (ks_aload_n hx hb rfl (by decide +kernel : decode cX0_become 24 = .ok (.aload_n 0, 1))))
    (kx_sB (kx_sL (ks_aload_n hx hb rfl (by decide +kernel : decode cX0_become 25 = .ok (.aload_n 1, 1))))
    (kx_sL (ks_getI hx hb hts X.1.2.2.2.1 X.2.1 kf_0 (j := 3) rfl kw_98 (by decide +kernel : decode cX0_become 26 = .ok (.getfield 21, 3)))))))
    (kx_sB (kx_sB (kx_sL (ks_putI hx hb hts X.1.2.2.2.1 X.2.1 kf_0 (j := 3) rfl kw_98 (by decide +kernel) (by decide +kernel) (by decide +kernel : decode cX0_become 29 = .ok (.putfield 21, 3))))
    (kx_sB (kx_sL (ks_aload_n hx hb rfl (by decide +kernel : decode cX0_become 32 = .ok (.aload_n 0, 1))))
    (kx_sL (ks_aload_n hx hb rfl (by decide +kernel : decode cX0_become 33 = .ok (.aload_n 1, 1))))))
    (kx_sB (kx_sL (ks_getI hx hb hts X.1.2.2.2.1 X.2.1 kf_0 (j := 4) rfl kw_101 (by decide +kernel : decode cX0_become 34 = .ok (.getfield 24, 3))))
    (kx_sB (kx_sL (ks_putI hx hb hts X.1.2.2.2.1 X.2.1 kf_0 (j := 4) rfl kw_101 (by decide +kernel) (by decide +kernel) (by decide +kernel : decode cX0_become 37 = .ok (.putfield 24, 3))))
    (kx_sL (ks_vret Z hx hb hr (by decide +kernel : decode cX0_become 40 = .ok (.return_, 1))))))))))
def tb_X1_has : Nat → kx_T := (kx_br 9 (kx_br 4 (kx_br 1 (kx_lf 0 (ki_iload 1 1)) (kx_lf 1 (ki_if_lt 16 4))) (kx_br 5 (kx_lf 4 (ki_iload 1 5)) (kx_br 6 (kx_lf 5 (ki_aload 0 6)) (kx_lf 6 (ki_getI 1 5 9))))) (kx_br 13 (kx_br 12 (kx_lf 9 (ki_icmp_ge 16 12)) (kx_lf 12 (ki_ic (1) 13))) (kx_br 16 (kx_lf 13 (ki_goto 17)) (kx_br 17 (kx_lf 16 (ki_ic (0) 17)) (kx_lf 17 (ki_zret))))))
def sp_X1_has : kx_Sp := kx_sp tb_X1_has 2
set_option maxRecDepth 100000 in
set_option maxHeartbeats 4000000 in
theorem kc_X1_has (l : Launch) : kx_ok1 l yX1_has (kx_wd yX1_has cX1_has 2 (some .boolean)) ({ frames := 0, cells := 0, slots := 0, locals := 0 }) sp_X1_has 2 0 0 := kx_met (by decide) ⟨rfl, rfl⟩ (fun p e s m args below meth c Q D C4 A cnt0 ad0 P X Z hr hn => by
  have hx := X.1.1
  have hb := X.1.2.1
  have hts := X.1.2.2.2.2
  exact (kx_sB (kx_sB (kx_sB (kx_sL (ks_iload_n hx hb rfl (by decide +kernel : decode cX1_has 0 = .ok (.iload_n 1, 1))))
    (kx_sL (ks_if_lt hx hb (by decide) (by decide +kernel : decode cX1_has 1 = .ok (.ifCond .lt 15, 3)))))
    (kx_sB (kx_sL (ks_iload_n hx hb rfl (by decide +kernel : decode cX1_has 4 = .ok (.iload_n 1, 1))))
    (kx_sB (kx_sL (ks_aload_n hx hb rfl (by decide +kernel : decode cX1_has 5 = .ok (.aload_n 0, 1))))
    (kx_sL (ks_getI hx hb hts X.1.2.2.2.1 X.2.1 kf_1 (j := 5) rfl kw_68 (by decide +kernel : decode cX1_has 6 = .ok (.getfield 27, 3)))))))
    (kx_sB (kx_sB (kx_sL (ks_icmp_ge hx hb (by decide) (by decide +kernel : decode cX1_has 9 = .ok (.if_icmp .ge 7, 3))))
    (kx_sL (ks_iconst hx hb (by decide +kernel) (by decide +kernel : decode cX1_has 12 = .ok (.iconst 1, 1)))))
    (kx_sB (kx_sL (ks_goto hx hb (by decide) (by decide +kernel : decode cX1_has 13 = .ok (.goto 4, 3))))
    (kx_sB (kx_sL (ks_iconst hx hb (by decide +kernel) (by decide +kernel : decode cX1_has 16 = .ok (.iconst 0, 1))))
    (kx_sL (ks_zret Z hx hb hr (by decide +kernel : decode cX1_has 17 = .ok (.ireturn, 1)))))))))
def tb_X1_isFull : Nat → kx_T := (kx_br 9 (kx_br 4 (kx_br 1 (kx_lf 0 (ki_aload 0 1)) (kx_lf 1 (ki_getI 1 5 4))) (kx_br 6 (kx_lf 4 (ki_ic (6) 6)) (kx_lf 6 (ki_icmp_lt 13 9)))) (kx_br 13 (kx_br 10 (kx_lf 9 (ki_ic (1) 10)) (kx_lf 10 (ki_goto 14))) (kx_br 14 (kx_lf 13 (ki_ic (0) 14)) (kx_lf 14 (ki_zret)))))
def sp_X1_isFull : kx_Sp := kx_sp tb_X1_isFull 1
set_option maxRecDepth 100000 in
set_option maxHeartbeats 4000000 in
theorem kc_X1_isFull (l : Launch) : kx_ok1 l yX1_isFull (kx_wd yX1_isFull cX1_isFull 1 (some .boolean)) ({ frames := 0, cells := 0, slots := 0, locals := 0 }) sp_X1_isFull 1 0 0 := kx_met (by decide) ⟨rfl, rfl⟩ (fun p e s m args below meth c Q D C4 A cnt0 ad0 P X Z hr hn => by
  have hx := X.1.1
  have hb := X.1.2.1
  have hts := X.1.2.2.2.2
  exact (kx_sB (kx_sB (kx_sB (kx_sL (ks_aload_n hx hb rfl (by decide +kernel : decode cX1_isFull 0 = .ok (.aload_n 0, 1))))
    (kx_sL (ks_getI hx hb hts X.1.2.2.2.1 X.2.1 kf_1 (j := 5) rfl kw_68 (by decide +kernel : decode cX1_isFull 1 = .ok (.getfield 27, 3)))))
    (kx_sB (kx_sL (ks_bipush hx hb (by decide +kernel) (by decide +kernel : decode cX1_isFull 4 = .ok (.bipush 6, 2))))
    (kx_sL (ks_icmp_lt hx hb (by decide) (by decide +kernel : decode cX1_isFull 6 = .ok (.if_icmp .lt 7, 3))))))
    (kx_sB (kx_sB (kx_sL (ks_iconst hx hb (by decide +kernel) (by decide +kernel : decode cX1_isFull 9 = .ok (.iconst 1, 1))))
    (kx_sL (ks_goto hx hb (by decide) (by decide +kernel : decode cX1_isFull 10 = .ok (.goto 4, 3)))))
    (kx_sB (kx_sL (ks_iconst hx hb (by decide +kernel) (by decide +kernel : decode cX1_isFull 13 = .ok (.iconst 0, 1))))
    (kx_sL (ks_zret Z hx hb hr (by decide +kernel : decode cX1_isFull 14 = .ok (.ireturn, 1))))))))
def tb_X1_lastsIn : Nat → kx_T := (kx_br 31 (kx_br 28 (kx_br 1 (kx_lf 0 (ki_iload 0 1)) (kx_lf 1 (ki_sw [((0), 28), ((2), 31)] 34))) (kx_br 30 (kx_lf 28 (ki_ic (12) 30)) (kx_lf 30 (ki_iret)))) (kx_br 34 (kx_br 33 (kx_lf 31 (ki_ic (6) 33)) (kx_lf 33 (ki_iret))) (kx_br 36 (kx_lf 34 (ki_ic (9) 36)) (kx_lf 36 (ki_iret)))))
def sp_X1_lastsIn : kx_Sp := kx_sp tb_X1_lastsIn 1
set_option maxRecDepth 100000 in
set_option maxHeartbeats 4000000 in
theorem kc_X1_lastsIn (l : Launch) : kx_ok1 l yX1_lastsIn (kx_wd yX1_lastsIn cX1_lastsIn 1 (some .int)) ({ frames := 0, cells := 0, slots := 0, locals := 0 }) sp_X1_lastsIn 1 0 0 := kx_met (by decide) ⟨rfl, rfl⟩ (fun p e s m args below meth c Q D C4 A cnt0 ad0 P X Z hr hn => by
  have hx := X.1.1
  have hb := X.1.2.1
  have hts := X.1.2.2.2.2
  exact (kx_sB (kx_sB (kx_sB (kx_sL (ks_iload_n hx hb rfl (by decide +kernel : decode cX1_lastsIn 0 = .ok (.iload_n 0, 1))))
    (kx_sL (ks_lookup hx hb (by decide) (by decide +kernel) (by decide +kernel) (by decide +kernel : decode cX1_lastsIn 1 = .ok (.lookupswitch 33 #[(0, 27), (2, 30)], 27)))))
    (kx_sB (kx_sL (ks_bipush hx hb (by decide +kernel) (by decide +kernel : decode cX1_lastsIn 28 = .ok (.bipush 12, 2))))
    (kx_sL (ks_iret Z hx hb hr (by decide +kernel : decode cX1_lastsIn 30 = .ok (.ireturn, 1))))))
    (kx_sB (kx_sB (kx_sL (ks_bipush hx hb (by decide +kernel) (by decide +kernel : decode cX1_lastsIn 31 = .ok (.bipush 6, 2))))
    (kx_sL (ks_iret Z hx hb hr (by decide +kernel : decode cX1_lastsIn 33 = .ok (.ireturn, 1)))))
    (kx_sB (kx_sL (ks_bipush hx hb (by decide +kernel) (by decide +kernel : decode cX1_lastsIn 34 = .ok (.bipush 9, 2))))
    (kx_sL (ks_iret Z hx hb hr (by decide +kernel : decode cX1_lastsIn 36 = .ok (.ireturn, 1))))))))
def tb_X1_hire : Nat → kx_T := (kx_br 41 (kx_br 19 (kx_br 9 (kx_br 4 (kx_br 1 (kx_lf 0 (ki_aload 0 1)) (kx_lf 1 (ki_cv 1 0 1 sp_X1_isFull 4))) (kx_br 7 (kx_lf 4 (ki_if_eq 9 7)) (kx_br 8 (kx_lf 7 (ki_ic (-1) 8)) (kx_lf 8 (ki_iret))))) (kx_br 14 (kx_br 10 (kx_lf 9 (ki_aload 0 10)) (kx_br 13 (kx_lf 10 (ki_getR 1 0 20 (fun o => o) 13)) (kx_lf 13 (ki_aload 0 14)))) (kx_br 17 (kx_lf 14 (ki_getI 1 5 17)) (kx_br 18 (kx_lf 17 (ki_iload 1 18)) (kx_lf 18 (ki_iast 19)))))) (kx_br 31 (kx_br 24 (kx_br 20 (kx_lf 19 (ki_aload 0 20)) (kx_br 23 (kx_lf 20 (ki_getR 1 1 21 (fun o => o) 23)) (kx_lf 23 (ki_aload 0 24)))) (kx_br 27 (kx_lf 24 (ki_getI 1 5 27)) (kx_br 28 (kx_lf 27 (ki_iload 1 28)) (kx_lf 28 (ki_cs 1 1 sp_X1_lastsIn 31))))) (kx_br 36 (kx_br 32 (kx_lf 31 (ki_iast 32)) (kx_br 33 (kx_lf 32 (ki_aload 0 33)) (kx_lf 33 (ki_getR 1 2 22 (fun o => o) 36)))) (kx_br 37 (kx_lf 36 (ki_aload 0 37)) (kx_br 40 (kx_lf 37 (ki_getI 1 5 40)) (kx_lf 40 (ki_ic (0) 41))))))) (kx_br 61 (kx_br 51 (kx_br 46 (kx_br 42 (kx_lf 41 (ki_iast 42)) (kx_br 43 (kx_lf 42 (ki_aload 0 43)) (kx_lf 43 (ki_getR 1 3 23 (fun o => o) 46)))) (kx_br 47 (kx_lf 46 (ki_aload 0 47)) (kx_br 50 (kx_lf 47 (ki_getI 1 5 50)) (kx_lf 50 (ki_ic (0) 51))))) (kx_br 56 (kx_br 52 (kx_lf 51 (ki_iast 52)) (kx_br 53 (kx_lf 52 (ki_aload 0 53)) (kx_lf 53 (ki_getR 1 4 24 (fun o => o) 56)))) (kx_br 57 (kx_lf 56 (ki_aload 0 57)) (kx_br 60 (kx_lf 57 (ki_getI 1 5 60)) (kx_lf 60 (ki_ic (0) 61)))))) (kx_br 69 (kx_br 64 (kx_br 62 (kx_lf 61 (ki_iast 62)) (kx_br 63 (kx_lf 62 (ki_aload 0 63)) (kx_lf 63 (ki_dup 64)))) (kx_br 67 (kx_lf 64 (ki_getI 1 5 67)) (kx_br 68 (kx_lf 67 (ki_ic (1) 68)) (kx_lf 68 (ki_iadd 69))))) (kx_br 76 (kx_br 72 (kx_lf 69 (ki_putI 1 5 72)) (kx_br 73 (kx_lf 72 (ki_aload 0 73)) (kx_lf 73 (ki_getI 1 5 76)))) (kx_br 77 (kx_lf 76 (ki_ic (1) 77)) (kx_br 78 (kx_lf 77 (ki_isub 78)) (kx_lf 78 (ki_iret))))))))
def sp_X1_hire : kx_Sp := kx_sp tb_X1_hire 2
set_option maxRecDepth 100000 in
set_option maxHeartbeats 4000000 in
theorem kc_X1_hire (l : Launch) : kx_ok1 l yX1_hire (kx_wd yX1_hire cX1_hire 2 (some .int)) ({ frames := 1, cells := 0, slots := 0, locals := 20 }) sp_X1_hire 2 0 0 := kx_met (by decide) ⟨rfl, rfl⟩ (fun p e s m args below meth c Q D C4 A cnt0 ad0 P X Z hr hn => by
  have hx := X.1.1
  have hb := X.1.2.1
  have hts := X.1.2.2.2.2
  exact (kx_sB (kx_sB (kx_sB (kx_sB (kx_sB (kx_sL (ks_aload_n hx hb rfl (by decide +kernel : decode cX1_hire 0 = .ok (.aload_n 0, 1))))
    (kx_sL (ks_cv X (kc_X1_isFull l) ⟨rfl, rfl⟩ kf_1 kw_601 kw_594 kw_595 kw_596 kw_5 (by decide +kernel) (by decide) (by decide +kernel : decode cX1_hire 1 = .ok (.invokevirtual 31, 3)))))
    (kx_sB (kx_sL (ks_if_eq hx hb (by decide) (by decide +kernel : decode cX1_hire 4 = .ok (.ifCond .eq 5, 3))))
    (kx_sB (kx_sL (ks_iconst hx hb (by decide +kernel) (by decide +kernel : decode cX1_hire 7 = .ok (.iconst (-1), 1))))
    (kx_sL (ks_iret Z hx hb hr (by decide +kernel : decode cX1_hire 8 = .ok (.ireturn, 1)))))))
    (kx_sB (kx_sB (kx_sL (ks_aload_n hx hb rfl (by decide +kernel : decode cX1_hire 9 = .ok (.aload_n 0, 1))))
    (kx_sB (kx_sL (ks_getR hx hb hts X.1.2.2.2.1 X.2.1 kf_1 (j := 0) rfl kw_63 (by decide +kernel : decode cX1_hire 10 = .ok (.getfield 11, 3))))
    (kx_sL (ks_aload_n hx hb rfl (by decide +kernel : decode cX1_hire 13 = .ok (.aload_n 0, 1))))))
    (kx_sB (kx_sL (ks_getI hx hb hts X.1.2.2.2.1 X.2.1 kf_1 (j := 5) rfl kw_68 (by decide +kernel : decode cX1_hire 14 = .ok (.getfield 27, 3))))
    (kx_sB (kx_sL (ks_iload_n hx hb rfl (by decide +kernel : decode cX1_hire 17 = .ok (.iload_n 1, 1))))
    (kx_sL (ks_iast hx hb X.2.1 (by decide +kernel : decode cX1_hire 18 = .ok (.iastore, 1))))))))
    (kx_sB (kx_sB (kx_sB (kx_sL (ks_aload_n hx hb rfl (by decide +kernel : decode cX1_hire 19 = .ok (.aload_n 0, 1))))
    (kx_sB (kx_sL (ks_getR hx hb hts X.1.2.2.2.1 X.2.1 kf_1 (j := 1) rfl kw_64 (by decide +kernel : decode cX1_hire 20 = .ok (.getfield 15, 3))))
    (kx_sL (ks_aload_n hx hb rfl (by decide +kernel : decode cX1_hire 23 = .ok (.aload_n 0, 1))))))
    (kx_sB (kx_sL (ks_getI hx hb hts X.1.2.2.2.1 X.2.1 kf_1 (j := 5) rfl kw_68 (by decide +kernel : decode cX1_hire 24 = .ok (.getfield 27, 3))))
    (kx_sB (kx_sL (ks_iload_n hx hb rfl (by decide +kernel : decode cX1_hire 27 = .ok (.iload_n 1, 1))))
    (kx_sL (ks_cs X (kc_X1_lastsIn l) ⟨rfl, rfl⟩ kw_602 kw_603 kw_604 kw_5 (by decide +kernel) (by decide) (by decide +kernel : decode cX1_hire 28 = .ok (.invokestatic 35, 3)))))))
    (kx_sB (kx_sB (kx_sL (ks_iast hx hb X.2.1 (by decide +kernel : decode cX1_hire 31 = .ok (.iastore, 1))))
    (kx_sB (kx_sL (ks_aload_n hx hb rfl (by decide +kernel : decode cX1_hire 32 = .ok (.aload_n 0, 1))))
    (kx_sL (ks_getR hx hb hts X.1.2.2.2.1 X.2.1 kf_1 (j := 2) rfl kw_65 (by decide +kernel : decode cX1_hire 33 = .ok (.getfield 18, 3))))))
    (kx_sB (kx_sL (ks_aload_n hx hb rfl (by decide +kernel : decode cX1_hire 36 = .ok (.aload_n 0, 1))))
    (kx_sB (kx_sL (ks_getI hx hb hts X.1.2.2.2.1 X.2.1 kf_1 (j := 5) rfl kw_68 (by decide +kernel : decode cX1_hire 37 = .ok (.getfield 27, 3))))
    (kx_sL (ks_iconst hx hb (by decide +kernel) (by decide +kernel : decode cX1_hire 40 = .ok (.iconst 0, 1)))))))))
    (kx_sB (kx_sB (kx_sB (kx_sB (kx_sL (ks_iast hx hb X.2.1 (by decide +kernel : decode cX1_hire 41 = .ok (.iastore, 1))))
    (kx_sB (kx_sL (ks_aload_n hx hb rfl (by decide +kernel : decode cX1_hire 42 = .ok (.aload_n 0, 1))))
    (kx_sL (ks_getR hx hb hts X.1.2.2.2.1 X.2.1 kf_1 (j := 3) rfl kw_66 (by decide +kernel : decode cX1_hire 43 = .ok (.getfield 21, 3))))))
    (kx_sB (kx_sL (ks_aload_n hx hb rfl (by decide +kernel : decode cX1_hire 46 = .ok (.aload_n 0, 1))))
    (kx_sB (kx_sL (ks_getI hx hb hts X.1.2.2.2.1 X.2.1 kf_1 (j := 5) rfl kw_68 (by decide +kernel : decode cX1_hire 47 = .ok (.getfield 27, 3))))
    (kx_sL (ks_iconst hx hb (by decide +kernel) (by decide +kernel : decode cX1_hire 50 = .ok (.iconst 0, 1)))))))
    (kx_sB (kx_sB (kx_sL (ks_iast hx hb X.2.1 (by decide +kernel : decode cX1_hire 51 = .ok (.iastore, 1))))
    (kx_sB (kx_sL (ks_aload_n hx hb rfl (by decide +kernel : decode cX1_hire 52 = .ok (.aload_n 0, 1))))
    (kx_sL (ks_getR hx hb hts X.1.2.2.2.1 X.2.1 kf_1 (j := 4) rfl kw_67 (by decide +kernel : decode cX1_hire 53 = .ok (.getfield 24, 3))))))
    (kx_sB (kx_sL (ks_aload_n hx hb rfl (by decide +kernel : decode cX1_hire 56 = .ok (.aload_n 0, 1))))
    (kx_sB (kx_sL (ks_getI hx hb hts X.1.2.2.2.1 X.2.1 kf_1 (j := 5) rfl kw_68 (by decide +kernel : decode cX1_hire 57 = .ok (.getfield 27, 3))))
    (kx_sL (ks_iconst hx hb (by decide +kernel) (by decide +kernel : decode cX1_hire 60 = .ok (.iconst 0, 1))))))))
    (kx_sB (kx_sB (kx_sB (kx_sL (ks_iast hx hb X.2.1 (by decide +kernel : decode cX1_hire 61 = .ok (.iastore, 1))))
    (kx_sB (kx_sL (ks_aload_n hx hb rfl (by decide +kernel : decode cX1_hire 62 = .ok (.aload_n 0, 1))))
    (kx_sL (ks_dup hx hb (by decide +kernel : decode cX1_hire 63 = .ok (.dup, 1))))))
    (kx_sB (kx_sL (ks_getI hx hb hts X.1.2.2.2.1 X.2.1 kf_1 (j := 5) rfl kw_68 (by decide +kernel : decode cX1_hire 64 = .ok (.getfield 27, 3))))
    (kx_sB (kx_sL (ks_iconst hx hb (by decide +kernel) (by decide +kernel : decode cX1_hire 67 = .ok (.iconst 1, 1))))
    (kx_sL (ks_iadd hx hb (by decide +kernel : decode cX1_hire 68 = .ok (.iadd, 1)))))))
    (kx_sB (kx_sB (kx_sL (ks_putI hx hb hts X.1.2.2.2.1 X.2.1 kf_1 (j := 5) rfl kw_68 (by decide +kernel) (by decide +kernel) (by decide +kernel : decode cX1_hire 69 = .ok (.putfield 27, 3))))
    (kx_sB (kx_sL (ks_aload_n hx hb rfl (by decide +kernel : decode cX1_hire 72 = .ok (.aload_n 0, 1))))
    (kx_sL (ks_getI hx hb hts X.1.2.2.2.1 X.2.1 kf_1 (j := 5) rfl kw_68 (by decide +kernel : decode cX1_hire 73 = .ok (.getfield 27, 3))))))
    (kx_sB (kx_sL (ks_iconst hx hb (by decide +kernel) (by decide +kernel : decode cX1_hire 76 = .ok (.iconst 1, 1))))
    (kx_sB (kx_sL (ks_isub hx hb (by decide +kernel : decode cX1_hire 77 = .ok (.isub, 1))))
    (kx_sL (ks_iret Z hx hb hr (by decide +kernel : decode cX1_hire 78 = .ok (.ireturn, 1)))))))))))
def tb_X1_rankOf : Nat → kx_T := (kx_br 9 (kx_br 2 (kx_br 1 (kx_lf 0 (ki_aload 0 1)) (kx_lf 1 (ki_iload 1 2))) (kx_br 5 (kx_lf 2 (ki_cv 1 1 2 sp_X1_has 5)) (kx_br 8 (kx_lf 5 (ki_if_eq 17 8)) (kx_lf 8 (ki_aload 0 9))))) (kx_br 14 (kx_br 12 (kx_lf 9 (ki_getR 1 0 20 (fun o => o) 12)) (kx_br 13 (kx_lf 12 (ki_iload 1 13)) (kx_lf 13 (ki_iald 14)))) (kx_br 17 (kx_lf 14 (ki_goto 18)) (kx_br 18 (kx_lf 17 (ki_ic (-1) 18)) (kx_lf 18 (ki_iret))))))
def sp_X1_rankOf : kx_Sp := kx_sp tb_X1_rankOf 2
set_option maxRecDepth 100000 in
set_option maxHeartbeats 4000000 in
theorem kc_X1_rankOf (l : Launch) : kx_ok1 l yX1_rankOf (kx_wd yX1_rankOf cX1_rankOf 2 (some .int)) ({ frames := 1, cells := 0, slots := 0, locals := 21 }) sp_X1_rankOf 2 0 0 := kx_met (by decide) ⟨rfl, rfl⟩ (fun p e s m args below meth c Q D C4 A cnt0 ad0 P X Z hr hn => by
  have hx := X.1.1
  have hb := X.1.2.1
  have hts := X.1.2.2.2.2
  exact (kx_sB (kx_sB (kx_sB (kx_sL (ks_aload_n hx hb rfl (by decide +kernel : decode cX1_rankOf 0 = .ok (.aload_n 0, 1))))
    (kx_sL (ks_iload_n hx hb rfl (by decide +kernel : decode cX1_rankOf 1 = .ok (.iload_n 1, 1)))))
    (kx_sB (kx_sL (ks_cv X (kc_X1_has l) ⟨rfl, rfl⟩ kf_1 kw_664 kw_617 kw_618 kw_619 kw_5 (by decide +kernel) (by decide) (by decide +kernel : decode cX1_rankOf 2 = .ok (.invokevirtual 39, 3))))
    (kx_sB (kx_sL (ks_if_eq hx hb (by decide) (by decide +kernel : decode cX1_rankOf 5 = .ok (.ifCond .eq 12, 3))))
    (kx_sL (ks_aload_n hx hb rfl (by decide +kernel : decode cX1_rankOf 8 = .ok (.aload_n 0, 1)))))))
    (kx_sB (kx_sB (kx_sL (ks_getR hx hb hts X.1.2.2.2.1 X.2.1 kf_1 (j := 0) rfl kw_63 (by decide +kernel : decode cX1_rankOf 9 = .ok (.getfield 11, 3))))
    (kx_sB (kx_sL (ks_iload_n hx hb rfl (by decide +kernel : decode cX1_rankOf 12 = .ok (.iload_n 1, 1))))
    (kx_sL (ks_iald hx hb X.2.1 (by decide +kernel : decode cX1_rankOf 13 = .ok (.iaload, 1))))))
    (kx_sB (kx_sL (ks_goto hx hb (by decide) (by decide +kernel : decode cX1_rankOf 14 = .ok (.goto 4, 3))))
    (kx_sB (kx_sL (ks_iconst hx hb (by decide +kernel) (by decide +kernel : decode cX1_rankOf 17 = .ok (.iconst (-1), 1))))
    (kx_sL (ks_iret Z hx hb hr (by decide +kernel : decode cX1_rankOf 18 = .ok (.ireturn, 1)))))))))
def tb_X1_tiredOf : Nat → kx_T := (kx_br 9 (kx_br 2 (kx_br 1 (kx_lf 0 (ki_aload 0 1)) (kx_lf 1 (ki_iload 1 2))) (kx_br 5 (kx_lf 2 (ki_cv 1 1 2 sp_X1_has 5)) (kx_br 8 (kx_lf 5 (ki_if_eq 17 8)) (kx_lf 8 (ki_aload 0 9))))) (kx_br 14 (kx_br 12 (kx_lf 9 (ki_getR 1 2 22 (fun o => o) 12)) (kx_br 13 (kx_lf 12 (ki_iload 1 13)) (kx_lf 13 (ki_iald 14)))) (kx_br 17 (kx_lf 14 (ki_goto 18)) (kx_br 18 (kx_lf 17 (ki_ic (0) 18)) (kx_lf 18 (ki_iret))))))
def sp_X1_tiredOf : kx_Sp := kx_sp tb_X1_tiredOf 2
set_option maxRecDepth 100000 in
set_option maxHeartbeats 4000000 in
theorem kc_X1_tiredOf (l : Launch) : kx_ok1 l yX1_tiredOf (kx_wd yX1_tiredOf cX1_tiredOf 2 (some .int)) ({ frames := 1, cells := 0, slots := 0, locals := 21 }) sp_X1_tiredOf 2 0 0 := kx_met (by decide) ⟨rfl, rfl⟩ (fun p e s m args below meth c Q D C4 A cnt0 ad0 P X Z hr hn => by
  have hx := X.1.1
  have hb := X.1.2.1
  have hts := X.1.2.2.2.2
  exact (kx_sB (kx_sB (kx_sB (kx_sL (ks_aload_n hx hb rfl (by decide +kernel : decode cX1_tiredOf 0 = .ok (.aload_n 0, 1))))
    (kx_sL (ks_iload_n hx hb rfl (by decide +kernel : decode cX1_tiredOf 1 = .ok (.iload_n 1, 1)))))
    (kx_sB (kx_sL (ks_cv X (kc_X1_has l) ⟨rfl, rfl⟩ kf_1 kw_664 kw_617 kw_618 kw_619 kw_5 (by decide +kernel) (by decide) (by decide +kernel : decode cX1_tiredOf 2 = .ok (.invokevirtual 39, 3))))
    (kx_sB (kx_sL (ks_if_eq hx hb (by decide) (by decide +kernel : decode cX1_tiredOf 5 = .ok (.ifCond .eq 12, 3))))
    (kx_sL (ks_aload_n hx hb rfl (by decide +kernel : decode cX1_tiredOf 8 = .ok (.aload_n 0, 1)))))))
    (kx_sB (kx_sB (kx_sL (ks_getR hx hb hts X.1.2.2.2.1 X.2.1 kf_1 (j := 2) rfl kw_65 (by decide +kernel : decode cX1_tiredOf 9 = .ok (.getfield 18, 3))))
    (kx_sB (kx_sL (ks_iload_n hx hb rfl (by decide +kernel : decode cX1_tiredOf 12 = .ok (.iload_n 1, 1))))
    (kx_sL (ks_iald hx hb X.2.1 (by decide +kernel : decode cX1_tiredOf 13 = .ok (.iaload, 1))))))
    (kx_sB (kx_sL (ks_goto hx hb (by decide) (by decide +kernel : decode cX1_tiredOf 14 = .ok (.goto 4, 3))))
    (kx_sB (kx_sL (ks_iconst hx hb (by decide +kernel) (by decide +kernel : decode cX1_tiredOf 17 = .ok (.iconst 0, 1))))
    (kx_sL (ks_iret Z hx hb hr (by decide +kernel : decode cX1_tiredOf 18 = .ok (.ireturn, 1)))))))))
def tb_X1_tendedBy : Nat → kx_T := (kx_br 9 (kx_br 2 (kx_br 1 (kx_lf 0 (ki_aload 0 1)) (kx_lf 1 (ki_iload 1 2))) (kx_br 5 (kx_lf 2 (ki_cv 1 1 2 sp_X1_has 5)) (kx_br 8 (kx_lf 5 (ki_if_eq 17 8)) (kx_lf 8 (ki_aload 0 9))))) (kx_br 14 (kx_br 12 (kx_lf 9 (ki_getR 1 3 23 (fun o => o) 12)) (kx_br 13 (kx_lf 12 (ki_iload 1 13)) (kx_lf 13 (ki_iald 14)))) (kx_br 17 (kx_lf 14 (ki_goto 18)) (kx_br 18 (kx_lf 17 (ki_ic (0) 18)) (kx_lf 18 (ki_iret))))))
def sp_X1_tendedBy : kx_Sp := kx_sp tb_X1_tendedBy 2
set_option maxRecDepth 100000 in
set_option maxHeartbeats 4000000 in
theorem kc_X1_tendedBy (l : Launch) : kx_ok1 l yX1_tendedBy (kx_wd yX1_tendedBy cX1_tendedBy 2 (some .int)) ({ frames := 1, cells := 0, slots := 0, locals := 21 }) sp_X1_tendedBy 2 0 0 := kx_met (by decide) ⟨rfl, rfl⟩ (fun p e s m args below meth c Q D C4 A cnt0 ad0 P X Z hr hn => by
  have hx := X.1.1
  have hb := X.1.2.1
  have hts := X.1.2.2.2.2
  exact (kx_sB (kx_sB (kx_sB (kx_sL (ks_aload_n hx hb rfl (by decide +kernel : decode cX1_tendedBy 0 = .ok (.aload_n 0, 1))))
    (kx_sL (ks_iload_n hx hb rfl (by decide +kernel : decode cX1_tendedBy 1 = .ok (.iload_n 1, 1)))))
    (kx_sB (kx_sL (ks_cv X (kc_X1_has l) ⟨rfl, rfl⟩ kf_1 kw_664 kw_617 kw_618 kw_619 kw_5 (by decide +kernel) (by decide) (by decide +kernel : decode cX1_tendedBy 2 = .ok (.invokevirtual 39, 3))))
    (kx_sB (kx_sL (ks_if_eq hx hb (by decide) (by decide +kernel : decode cX1_tendedBy 5 = .ok (.ifCond .eq 12, 3))))
    (kx_sL (ks_aload_n hx hb rfl (by decide +kernel : decode cX1_tendedBy 8 = .ok (.aload_n 0, 1)))))))
    (kx_sB (kx_sB (kx_sL (ks_getR hx hb hts X.1.2.2.2.1 X.2.1 kf_1 (j := 3) rfl kw_66 (by decide +kernel : decode cX1_tendedBy 9 = .ok (.getfield 21, 3))))
    (kx_sB (kx_sL (ks_iload_n hx hb rfl (by decide +kernel : decode cX1_tendedBy 12 = .ok (.iload_n 1, 1))))
    (kx_sL (ks_iald hx hb X.2.1 (by decide +kernel : decode cX1_tendedBy 13 = .ok (.iaload, 1))))))
    (kx_sB (kx_sL (ks_goto hx hb (by decide) (by decide +kernel : decode cX1_tendedBy 14 = .ok (.goto 4, 3))))
    (kx_sB (kx_sL (ks_iconst hx hb (by decide +kernel) (by decide +kernel : decode cX1_tendedBy 17 = .ok (.iconst 0, 1))))
    (kx_sL (ks_iret Z hx hb hr (by decide +kernel : decode cX1_tendedBy 18 = .ok (.ireturn, 1)))))))))
def tb_X1_sleptBy : Nat → kx_T := (kx_br 9 (kx_br 2 (kx_br 1 (kx_lf 0 (ki_aload 0 1)) (kx_lf 1 (ki_iload 1 2))) (kx_br 5 (kx_lf 2 (ki_cv 1 1 2 sp_X1_has 5)) (kx_br 8 (kx_lf 5 (ki_if_eq 17 8)) (kx_lf 8 (ki_aload 0 9))))) (kx_br 14 (kx_br 12 (kx_lf 9 (ki_getR 1 4 24 (fun o => o) 12)) (kx_br 13 (kx_lf 12 (ki_iload 1 13)) (kx_lf 13 (ki_iald 14)))) (kx_br 17 (kx_lf 14 (ki_goto 18)) (kx_br 18 (kx_lf 17 (ki_ic (0) 18)) (kx_lf 18 (ki_iret))))))
def sp_X1_sleptBy : kx_Sp := kx_sp tb_X1_sleptBy 2
set_option maxRecDepth 100000 in
set_option maxHeartbeats 4000000 in
theorem kc_X1_sleptBy (l : Launch) : kx_ok1 l yX1_sleptBy (kx_wd yX1_sleptBy cX1_sleptBy 2 (some .int)) ({ frames := 1, cells := 0, slots := 0, locals := 21 }) sp_X1_sleptBy 2 0 0 := kx_met (by decide) ⟨rfl, rfl⟩ (fun p e s m args below meth c Q D C4 A cnt0 ad0 P X Z hr hn => by
  have hx := X.1.1
  have hb := X.1.2.1
  have hts := X.1.2.2.2.2
  exact (kx_sB (kx_sB (kx_sB (kx_sL (ks_aload_n hx hb rfl (by decide +kernel : decode cX1_sleptBy 0 = .ok (.aload_n 0, 1))))
    (kx_sL (ks_iload_n hx hb rfl (by decide +kernel : decode cX1_sleptBy 1 = .ok (.iload_n 1, 1)))))
    (kx_sB (kx_sL (ks_cv X (kc_X1_has l) ⟨rfl, rfl⟩ kf_1 kw_664 kw_617 kw_618 kw_619 kw_5 (by decide +kernel) (by decide) (by decide +kernel : decode cX1_sleptBy 2 = .ok (.invokevirtual 39, 3))))
    (kx_sB (kx_sL (ks_if_eq hx hb (by decide) (by decide +kernel : decode cX1_sleptBy 5 = .ok (.ifCond .eq 12, 3))))
    (kx_sL (ks_aload_n hx hb rfl (by decide +kernel : decode cX1_sleptBy 8 = .ok (.aload_n 0, 1)))))))
    (kx_sB (kx_sB (kx_sL (ks_getR hx hb hts X.1.2.2.2.1 X.2.1 kf_1 (j := 4) rfl kw_67 (by decide +kernel : decode cX1_sleptBy 9 = .ok (.getfield 24, 3))))
    (kx_sB (kx_sL (ks_iload_n hx hb rfl (by decide +kernel : decode cX1_sleptBy 12 = .ok (.iload_n 1, 1))))
    (kx_sL (ks_iald hx hb X.2.1 (by decide +kernel : decode cX1_sleptBy 13 = .ok (.iaload, 1))))))
    (kx_sB (kx_sL (ks_goto hx hb (by decide) (by decide +kernel : decode cX1_sleptBy 14 = .ok (.goto 4, 3))))
    (kx_sB (kx_sL (ks_iconst hx hb (by decide +kernel) (by decide +kernel : decode cX1_sleptBy 17 = .ok (.iconst 0, 1))))
    (kx_sL (ks_iret Z hx hb hr (by decide +kernel : decode cX1_sleptBy 18 = .ok (.ireturn, 1)))))))))
def tb_X1_lastsOf : Nat → kx_T := (kx_br 9 (kx_br 2 (kx_br 1 (kx_lf 0 (ki_aload 0 1)) (kx_lf 1 (ki_iload 1 2))) (kx_br 5 (kx_lf 2 (ki_cv 1 1 2 sp_X1_has 5)) (kx_br 8 (kx_lf 5 (ki_if_eq 17 8)) (kx_lf 8 (ki_aload 0 9))))) (kx_br 14 (kx_br 12 (kx_lf 9 (ki_getR 1 1 21 (fun o => o) 12)) (kx_br 13 (kx_lf 12 (ki_iload 1 13)) (kx_lf 13 (ki_iald 14)))) (kx_br 17 (kx_lf 14 (ki_goto 18)) (kx_br 18 (kx_lf 17 (ki_ic (0) 18)) (kx_lf 18 (ki_iret))))))
def sp_X1_lastsOf : kx_Sp := kx_sp tb_X1_lastsOf 2
set_option maxRecDepth 100000 in
set_option maxHeartbeats 4000000 in
theorem kc_X1_lastsOf (l : Launch) : kx_ok1 l yX1_lastsOf (kx_wd yX1_lastsOf cX1_lastsOf 2 (some .int)) ({ frames := 1, cells := 0, slots := 0, locals := 21 }) sp_X1_lastsOf 2 0 0 := kx_met (by decide) ⟨rfl, rfl⟩ (fun p e s m args below meth c Q D C4 A cnt0 ad0 P X Z hr hn => by
  have hx := X.1.1
  have hb := X.1.2.1
  have hts := X.1.2.2.2.2
  exact (kx_sB (kx_sB (kx_sB (kx_sL (ks_aload_n hx hb rfl (by decide +kernel : decode cX1_lastsOf 0 = .ok (.aload_n 0, 1))))
    (kx_sL (ks_iload_n hx hb rfl (by decide +kernel : decode cX1_lastsOf 1 = .ok (.iload_n 1, 1)))))
    (kx_sB (kx_sL (ks_cv X (kc_X1_has l) ⟨rfl, rfl⟩ kf_1 kw_664 kw_617 kw_618 kw_619 kw_5 (by decide +kernel) (by decide) (by decide +kernel : decode cX1_lastsOf 2 = .ok (.invokevirtual 39, 3))))
    (kx_sB (kx_sL (ks_if_eq hx hb (by decide) (by decide +kernel : decode cX1_lastsOf 5 = .ok (.ifCond .eq 12, 3))))
    (kx_sL (ks_aload_n hx hb rfl (by decide +kernel : decode cX1_lastsOf 8 = .ok (.aload_n 0, 1)))))))
    (kx_sB (kx_sB (kx_sL (ks_getR hx hb hts X.1.2.2.2.1 X.2.1 kf_1 (j := 1) rfl kw_64 (by decide +kernel : decode cX1_lastsOf 9 = .ok (.getfield 15, 3))))
    (kx_sB (kx_sL (ks_iload_n hx hb rfl (by decide +kernel : decode cX1_lastsOf 12 = .ok (.iload_n 1, 1))))
    (kx_sL (ks_iald hx hb X.2.1 (by decide +kernel : decode cX1_lastsOf 13 = .ok (.iaload, 1))))))
    (kx_sB (kx_sL (ks_goto hx hb (by decide) (by decide +kernel : decode cX1_lastsOf 14 = .ok (.goto 4, 3))))
    (kx_sB (kx_sL (ks_iconst hx hb (by decide +kernel) (by decide +kernel : decode cX1_lastsOf 17 = .ok (.iconst 0, 1))))
    (kx_sL (ks_iret Z hx hb hr (by decide +kernel : decode cX1_lastsOf 18 = .ok (.ireturn, 1)))))))))
def tb_X1_isAwake : Nat → kx_T := (kx_br 14 (kx_br 8 (kx_br 2 (kx_br 1 (kx_lf 0 (ki_aload 0 1)) (kx_lf 1 (ki_iload 1 2))) (kx_br 5 (kx_lf 2 (ki_cv 1 1 2 sp_X1_has 5)) (kx_lf 5 (ki_if_eq 27 8)))) (kx_br 12 (kx_br 9 (kx_lf 8 (ki_aload 0 9)) (kx_lf 9 (ki_getR 1 2 22 (fun o => o) 12))) (kx_br 13 (kx_lf 12 (ki_iload 1 13)) (kx_lf 13 (ki_iald 14))))) (kx_br 20 (kx_br 18 (kx_br 15 (kx_lf 14 (ki_aload 0 15)) (kx_lf 15 (ki_getR 1 1 21 (fun o => o) 18))) (kx_br 19 (kx_lf 18 (ki_iload 1 19)) (kx_lf 19 (ki_iald 20)))) (kx_br 24 (kx_br 23 (kx_lf 20 (ki_icmp_ge 27 23)) (kx_lf 23 (ki_ic (1) 24))) (kx_br 27 (kx_lf 24 (ki_goto 28)) (kx_br 28 (kx_lf 27 (ki_ic (0) 28)) (kx_lf 28 (ki_zret)))))))
def sp_X1_isAwake : kx_Sp := kx_sp tb_X1_isAwake 2
set_option maxRecDepth 100000 in
set_option maxHeartbeats 4000000 in
theorem kc_X1_isAwake (l : Launch) : kx_ok1 l yX1_isAwake (kx_wd yX1_isAwake cX1_isAwake 2 (some .boolean)) ({ frames := 1, cells := 0, slots := 0, locals := 21 }) sp_X1_isAwake 2 0 0 := kx_met (by decide) ⟨rfl, rfl⟩ (fun p e s m args below meth c Q D C4 A cnt0 ad0 P X Z hr hn => by
  have hx := X.1.1
  have hb := X.1.2.1
  have hts := X.1.2.2.2.2
  exact (kx_sB (kx_sB (kx_sB (kx_sB (kx_sL (ks_aload_n hx hb rfl (by decide +kernel : decode cX1_isAwake 0 = .ok (.aload_n 0, 1))))
    (kx_sL (ks_iload_n hx hb rfl (by decide +kernel : decode cX1_isAwake 1 = .ok (.iload_n 1, 1)))))
    (kx_sB (kx_sL (ks_cv X (kc_X1_has l) ⟨rfl, rfl⟩ kf_1 kw_664 kw_617 kw_618 kw_619 kw_5 (by decide +kernel) (by decide) (by decide +kernel : decode cX1_isAwake 2 = .ok (.invokevirtual 39, 3))))
    (kx_sL (ks_if_eq hx hb (by decide) (by decide +kernel : decode cX1_isAwake 5 = .ok (.ifCond .eq 22, 3))))))
    (kx_sB (kx_sB (kx_sL (ks_aload_n hx hb rfl (by decide +kernel : decode cX1_isAwake 8 = .ok (.aload_n 0, 1))))
    (kx_sL (ks_getR hx hb hts X.1.2.2.2.1 X.2.1 kf_1 (j := 2) rfl kw_65 (by decide +kernel : decode cX1_isAwake 9 = .ok (.getfield 18, 3)))))
    (kx_sB (kx_sL (ks_iload_n hx hb rfl (by decide +kernel : decode cX1_isAwake 12 = .ok (.iload_n 1, 1))))
    (kx_sL (ks_iald hx hb X.2.1 (by decide +kernel : decode cX1_isAwake 13 = .ok (.iaload, 1)))))))
    (kx_sB (kx_sB (kx_sB (kx_sL (ks_aload_n hx hb rfl (by decide +kernel : decode cX1_isAwake 14 = .ok (.aload_n 0, 1))))
    (kx_sL (ks_getR hx hb hts X.1.2.2.2.1 X.2.1 kf_1 (j := 1) rfl kw_64 (by decide +kernel : decode cX1_isAwake 15 = .ok (.getfield 15, 3)))))
    (kx_sB (kx_sL (ks_iload_n hx hb rfl (by decide +kernel : decode cX1_isAwake 18 = .ok (.iload_n 1, 1))))
    (kx_sL (ks_iald hx hb X.2.1 (by decide +kernel : decode cX1_isAwake 19 = .ok (.iaload, 1))))))
    (kx_sB (kx_sB (kx_sL (ks_icmp_ge hx hb (by decide) (by decide +kernel : decode cX1_isAwake 20 = .ok (.if_icmp .ge 7, 3))))
    (kx_sL (ks_iconst hx hb (by decide +kernel) (by decide +kernel : decode cX1_isAwake 23 = .ok (.iconst 1, 1)))))
    (kx_sB (kx_sL (ks_goto hx hb (by decide) (by decide +kernel : decode cX1_isAwake 24 = .ok (.goto 4, 3))))
    (kx_sB (kx_sL (ks_iconst hx hb (by decide +kernel) (by decide +kernel : decode cX1_isAwake 27 = .ok (.iconst 0, 1))))
    (kx_sL (ks_zret Z hx hb hr (by decide +kernel : decode cX1_isAwake 28 = .ok (.ireturn, 1))))))))))
def tb_X1_spendHour : Nat → kx_T := (kx_br 47 (kx_br 28 (kx_br 14 (kx_br 5 (kx_br 1 (kx_lf 0 (ki_ic (0) 1)) (kx_br 3 (kx_lf 1 (ki_istore 4 3)) (kx_lf 3 (ki_iload 4 5)))) (kx_br 9 (kx_br 6 (kx_lf 5 (ki_aload 0 6)) (kx_lf 6 (ki_getI 1 5 9))) (kx_br 12 (kx_lf 9 (ki_icmp_ge 94 12)) (kx_lf 12 (ki_iload 4 14))))) (kx_br 19 (kx_br 15 (kx_lf 14 (ki_iload 1 15)) (kx_br 18 (kx_lf 15 (ki_icmp_ne 47 18)) (kx_lf 18 (ki_iload 2 19)))) (kx_br 23 (kx_br 22 (kx_lf 19 (ki_if_eq 47 22)) (kx_lf 22 (ki_aload 0 23))) (kx_br 26 (kx_lf 23 (ki_getR 1 2 22 (fun o => o) 26)) (kx_lf 26 (ki_iload 4 28)))))) (kx_br 37 (kx_br 31 (kx_br 29 (kx_lf 28 (ki_dup2 29)) (kx_br 30 (kx_lf 29 (ki_iald 30)) (kx_lf 30 (ki_iload 3 31)))) (kx_br 33 (kx_br 32 (kx_lf 31 (ki_iadd 32)) (kx_lf 32 (ki_iast 33))) (kx_br 34 (kx_lf 33 (ki_aload 0 34)) (kx_lf 34 (ki_getR 1 3 23 (fun o => o) 37))))) (kx_br 41 (kx_br 39 (kx_lf 37 (ki_iload 4 39)) (kx_br 40 (kx_lf 39 (ki_dup2 40)) (kx_lf 40 (ki_iald 41)))) (kx_br 43 (kx_br 42 (kx_lf 41 (ki_ic (1) 42)) (kx_lf 42 (ki_iadd 43))) (kx_br 44 (kx_lf 43 (ki_iast 44)) (kx_lf 44 (ki_goto 88))))))) (kx_br 71 (kx_br 60 (kx_br 53 (kx_br 48 (kx_lf 47 (ki_aload 0 48)) (kx_br 51 (kx_lf 48 (ki_getR 1 2 22 (fun o => o) 51)) (kx_lf 51 (ki_iload 4 53)))) (kx_br 55 (kx_br 54 (kx_lf 53 (ki_ic (0) 54)) (kx_lf 54 (ki_aload 0 55))) (kx_br 58 (kx_lf 55 (ki_getR 1 2 22 (fun o => o) 58)) (kx_lf 58 (ki_iload 4 60))))) (kx_br 63 (kx_br 61 (kx_lf 60 (ki_iald 61)) (kx_br 62 (kx_lf 61 (ki_ic (2) 62)) (kx_lf 62 (ki_isub 63)))) (kx_br 67 (kx_br 66 (kx_lf 63 (ki_mmax 66)) (kx_lf 66 (ki_iast 67))) (kx_br 68 (kx_lf 67 (ki_aload 0 68)) (kx_lf 68 (ki_getR 1 4 24 (fun o => o) 71)))))) (kx_br 82 (kx_br 75 (kx_br 73 (kx_lf 71 (ki_iload 4 73)) (kx_br 74 (kx_lf 73 (ki_dup2 74)) (kx_lf 74 (ki_iald 75)))) (kx_br 78 (kx_br 77 (kx_lf 75 (ki_iload 4 77)) (kx_lf 77 (ki_iload 1 78))) (kx_br 81 (kx_lf 78 (ki_icmp_ne 85 81)) (kx_lf 81 (ki_ic (1) 82))))) (kx_br 87 (kx_br 85 (kx_lf 82 (ki_goto 86)) (kx_br 86 (kx_lf 85 (ki_ic (0) 86)) (kx_lf 86 (ki_iadd 87)))) (kx_br 91 (kx_br 88 (kx_lf 87 (ki_iast 88)) (kx_lf 88 (ki_iinc 4 (1) 91))) (kx_br 94 (kx_lf 91 (ki_goto 3)) (kx_lf 94 (ki_vret))))))))
def sp_X1_spendHour : kx_Sp := kx_sp tb_X1_spendHour 5
set_option maxRecDepth 100000 in
set_option maxHeartbeats 4000000 in
theorem kc_X1_spendHour (l : Launch) : kx_ok1 l yX1_spendHour (kx_wd yX1_spendHour cX1_spendHour 5 none) ({ frames := 1, cells := 0, slots := 0, locals := 21 }) sp_X1_spendHour 5 0 0 := kx_met (by decide) ⟨rfl, rfl⟩ (fun p e s m args below meth c Q D C4 A cnt0 ad0 P X Z hr hn => by
  have hx := X.1.1
  have hb := X.1.2.1
  have hts := X.1.2.2.2.2
  exact (kx_sB (kx_sB (kx_sB (kx_sB (kx_sB (kx_sL (ks_iconst hx hb (by decide +kernel) (by decide +kernel : decode cX1_spendHour 0 = .ok (.iconst 0, 1))))
    (kx_sB (kx_sL (ks_istore hx hb (by decide) (by decide +kernel : decode cX1_spendHour 1 = .ok (.istore 4, 2))))
    (kx_sL (ks_iload hx hb (by decide +kernel : decode cX1_spendHour 3 = .ok (.iload 4, 2))))))
    (kx_sB (kx_sB (kx_sL (ks_aload_n hx hb rfl (by decide +kernel : decode cX1_spendHour 5 = .ok (.aload_n 0, 1))))
    (kx_sL (ks_getI hx hb hts X.1.2.2.2.1 X.2.1 kf_1 (j := 5) rfl kw_68 (by decide +kernel : decode cX1_spendHour 6 = .ok (.getfield 27, 3)))))
    (kx_sB (kx_sL (ks_icmp_ge hx hb (by decide) (by decide +kernel : decode cX1_spendHour 9 = .ok (.if_icmp .ge 85, 3))))
    (kx_sL (ks_iload hx hb (by decide +kernel : decode cX1_spendHour 12 = .ok (.iload 4, 2)))))))
    (kx_sB (kx_sB (kx_sL (ks_iload_n hx hb rfl (by decide +kernel : decode cX1_spendHour 14 = .ok (.iload_n 1, 1))))
    (kx_sB (kx_sL (ks_icmp_ne hx hb (by decide) (by decide +kernel : decode cX1_spendHour 15 = .ok (.if_icmp .ne 32, 3))))
    (kx_sL (ks_iload_n hx hb rfl (by decide +kernel : decode cX1_spendHour 18 = .ok (.iload_n 2, 1))))))
    (kx_sB (kx_sB (kx_sL (ks_if_eq hx hb (by decide) (by decide +kernel : decode cX1_spendHour 19 = .ok (.ifCond .eq 28, 3))))
    (kx_sL (ks_aload_n hx hb rfl (by decide +kernel : decode cX1_spendHour 22 = .ok (.aload_n 0, 1)))))
    (kx_sB (kx_sL (ks_getR hx hb hts X.1.2.2.2.1 X.2.1 kf_1 (j := 2) rfl kw_65 (by decide +kernel : decode cX1_spendHour 23 = .ok (.getfield 18, 3))))
    (kx_sL (ks_iload hx hb (by decide +kernel : decode cX1_spendHour 26 = .ok (.iload 4, 2))))))))
    (kx_sB (kx_sB (kx_sB (kx_sL (ks_dup2 hx hb (by decide +kernel : decode cX1_spendHour 28 = .ok (.dup2, 1))))
    (kx_sB (kx_sL (ks_iald hx hb X.2.1 (by decide +kernel : decode cX1_spendHour 29 = .ok (.iaload, 1))))
    (kx_sL (ks_iload_n hx hb rfl (by decide +kernel : decode cX1_spendHour 30 = .ok (.iload_n 3, 1))))))
    (kx_sB (kx_sB (kx_sL (ks_iadd hx hb (by decide +kernel : decode cX1_spendHour 31 = .ok (.iadd, 1))))
    (kx_sL (ks_iast hx hb X.2.1 (by decide +kernel : decode cX1_spendHour 32 = .ok (.iastore, 1)))))
    (kx_sB (kx_sL (ks_aload_n hx hb rfl (by decide +kernel : decode cX1_spendHour 33 = .ok (.aload_n 0, 1))))
    (kx_sL (ks_getR hx hb hts X.1.2.2.2.1 X.2.1 kf_1 (j := 3) rfl kw_66 (by decide +kernel : decode cX1_spendHour 34 = .ok (.getfield 21, 3)))))))
    (kx_sB (kx_sB (kx_sL (ks_iload hx hb (by decide +kernel : decode cX1_spendHour 37 = .ok (.iload 4, 2))))
    (kx_sB (kx_sL (ks_dup2 hx hb (by decide +kernel : decode cX1_spendHour 39 = .ok (.dup2, 1))))
    (kx_sL (ks_iald hx hb X.2.1 (by decide +kernel : decode cX1_spendHour 40 = .ok (.iaload, 1))))))
    (kx_sB (kx_sB (kx_sL (ks_iconst hx hb (by decide +kernel) (by decide +kernel : decode cX1_spendHour 41 = .ok (.iconst 1, 1))))
    (kx_sL (ks_iadd hx hb (by decide +kernel : decode cX1_spendHour 42 = .ok (.iadd, 1)))))
    (kx_sB (kx_sL (ks_iast hx hb X.2.1 (by decide +kernel : decode cX1_spendHour 43 = .ok (.iastore, 1))))
    (kx_sL (ks_goto hx hb (by decide) (by decide +kernel : decode cX1_spendHour 44 = .ok (.goto 44, 3)))))))))
    (kx_sB (kx_sB (kx_sB (kx_sB (kx_sL (ks_aload_n hx hb rfl (by decide +kernel : decode cX1_spendHour 47 = .ok (.aload_n 0, 1))))
    (kx_sB (kx_sL (ks_getR hx hb hts X.1.2.2.2.1 X.2.1 kf_1 (j := 2) rfl kw_65 (by decide +kernel : decode cX1_spendHour 48 = .ok (.getfield 18, 3))))
    (kx_sL (ks_iload hx hb (by decide +kernel : decode cX1_spendHour 51 = .ok (.iload 4, 2))))))
    (kx_sB (kx_sB (kx_sL (ks_iconst hx hb (by decide +kernel) (by decide +kernel : decode cX1_spendHour 53 = .ok (.iconst 0, 1))))
    (kx_sL (ks_aload_n hx hb rfl (by decide +kernel : decode cX1_spendHour 54 = .ok (.aload_n 0, 1)))))
    (kx_sB (kx_sL (ks_getR hx hb hts X.1.2.2.2.1 X.2.1 kf_1 (j := 2) rfl kw_65 (by decide +kernel : decode cX1_spendHour 55 = .ok (.getfield 18, 3))))
    (kx_sL (ks_iload hx hb (by decide +kernel : decode cX1_spendHour 58 = .ok (.iload 4, 2)))))))
    (kx_sB (kx_sB (kx_sL (ks_iald hx hb X.2.1 (by decide +kernel : decode cX1_spendHour 60 = .ok (.iaload, 1))))
    (kx_sB (kx_sL (ks_iconst hx hb (by decide +kernel) (by decide +kernel : decode cX1_spendHour 61 = .ok (.iconst 2, 1))))
    (kx_sL (ks_isub hx hb (by decide +kernel : decode cX1_spendHour 62 = .ok (.isub, 1))))))
    (kx_sB (kx_sB (kx_sL (ks_mmax X kw_812 kw_813 kw_15 kw_814 (by decide) (by decide +kernel : decode cX1_spendHour 63 = .ok (.invokestatic 43, 3))))
    (kx_sL (ks_iast hx hb X.2.1 (by decide +kernel : decode cX1_spendHour 66 = .ok (.iastore, 1)))))
    (kx_sB (kx_sL (ks_aload_n hx hb rfl (by decide +kernel : decode cX1_spendHour 67 = .ok (.aload_n 0, 1))))
    (kx_sL (ks_getR hx hb hts X.1.2.2.2.1 X.2.1 kf_1 (j := 4) rfl kw_67 (by decide +kernel : decode cX1_spendHour 68 = .ok (.getfield 24, 3))))))))
    (kx_sB (kx_sB (kx_sB (kx_sL (ks_iload hx hb (by decide +kernel : decode cX1_spendHour 71 = .ok (.iload 4, 2))))
    (kx_sB (kx_sL (ks_dup2 hx hb (by decide +kernel : decode cX1_spendHour 73 = .ok (.dup2, 1))))
    (kx_sL (ks_iald hx hb X.2.1 (by decide +kernel : decode cX1_spendHour 74 = .ok (.iaload, 1))))))
    (kx_sB (kx_sB (kx_sL (ks_iload hx hb (by decide +kernel : decode cX1_spendHour 75 = .ok (.iload 4, 2))))
    (kx_sL (ks_iload_n hx hb rfl (by decide +kernel : decode cX1_spendHour 77 = .ok (.iload_n 1, 1)))))
    (kx_sB (kx_sL (ks_icmp_ne hx hb (by decide) (by decide +kernel : decode cX1_spendHour 78 = .ok (.if_icmp .ne 7, 3))))
    (kx_sL (ks_iconst hx hb (by decide +kernel) (by decide +kernel : decode cX1_spendHour 81 = .ok (.iconst 1, 1)))))))
    (kx_sB (kx_sB (kx_sL (ks_goto hx hb (by decide) (by decide +kernel : decode cX1_spendHour 82 = .ok (.goto 4, 3))))
    (kx_sB (kx_sL (ks_iconst hx hb (by decide +kernel) (by decide +kernel : decode cX1_spendHour 85 = .ok (.iconst 0, 1))))
    (kx_sL (ks_iadd hx hb (by decide +kernel : decode cX1_spendHour 86 = .ok (.iadd, 1))))))
    (kx_sB (kx_sB (kx_sL (ks_iast hx hb X.2.1 (by decide +kernel : decode cX1_spendHour 87 = .ok (.iastore, 1))))
    (kx_sL (ks_iinc hx hb (by decide +kernel) (by decide) (by decide +kernel : decode cX1_spendHour 88 = .ok (.iinc 4 1, 3)))))
    (kx_sB (kx_sL (ks_goto hx hb (by decide) (by decide +kernel : decode cX1_spendHour 91 = .ok (.goto (-88), 3))))
    (kx_sL (ks_vret Z hx hb hr (by decide +kernel : decode cX1_spendHour 94 = .ok (.return_, 1)))))))))))
def tb_X1_restAll : Nat → kx_T := (kx_br 11 (kx_br 3 (kx_br 1 (kx_lf 0 (ki_ic (0) 1)) (kx_br 2 (kx_lf 1 (ki_istore 1 2)) (kx_lf 2 (ki_iload 1 3)))) (kx_br 7 (kx_br 4 (kx_lf 3 (ki_aload 0 4)) (kx_lf 4 (ki_getI 1 5 7))) (kx_br 10 (kx_lf 7 (ki_icmp_ge 23 10)) (kx_lf 10 (ki_aload 0 11))))) (kx_br 16 (kx_br 14 (kx_lf 11 (ki_getR 1 2 22 (fun o => o) 14)) (kx_br 15 (kx_lf 14 (ki_iload 1 15)) (kx_lf 15 (ki_ic (0) 16)))) (kx_br 20 (kx_br 17 (kx_lf 16 (ki_iast 17)) (kx_lf 17 (ki_iinc 1 (1) 20))) (kx_br 23 (kx_lf 20 (ki_goto 2)) (kx_lf 23 (ki_vret))))))
def sp_X1_restAll : kx_Sp := kx_sp tb_X1_restAll 2
set_option maxRecDepth 100000 in
set_option maxHeartbeats 4000000 in
theorem kc_X1_restAll (l : Launch) : kx_ok1 l yX1_restAll (kx_wd yX1_restAll cX1_restAll 2 none) ({ frames := 0, cells := 0, slots := 0, locals := 0 }) sp_X1_restAll 2 0 0 := kx_met (by decide) ⟨rfl, rfl⟩ (fun p e s m args below meth c Q D C4 A cnt0 ad0 P X Z hr hn => by
  have hx := X.1.1
  have hb := X.1.2.1
  have hts := X.1.2.2.2.2
  exact (kx_sB (kx_sB (kx_sB (kx_sL (ks_iconst hx hb (by decide +kernel) (by decide +kernel : decode cX1_restAll 0 = .ok (.iconst 0, 1))))
    (kx_sB (kx_sL (ks_istore_n hx hb rfl (by decide) (by decide +kernel : decode cX1_restAll 1 = .ok (.istore_n 1, 1))))
    (kx_sL (ks_iload_n hx hb rfl (by decide +kernel : decode cX1_restAll 2 = .ok (.iload_n 1, 1))))))
    (kx_sB (kx_sB (kx_sL (ks_aload_n hx hb rfl (by decide +kernel : decode cX1_restAll 3 = .ok (.aload_n 0, 1))))
    (kx_sL (ks_getI hx hb hts X.1.2.2.2.1 X.2.1 kf_1 (j := 5) rfl kw_68 (by decide +kernel : decode cX1_restAll 4 = .ok (.getfield 27, 3)))))
    (kx_sB (kx_sL (ks_icmp_ge hx hb (by decide) (by decide +kernel : decode cX1_restAll 7 = .ok (.if_icmp .ge 16, 3))))
    (kx_sL (ks_aload_n hx hb rfl (by decide +kernel : decode cX1_restAll 10 = .ok (.aload_n 0, 1)))))))
    (kx_sB (kx_sB (kx_sL (ks_getR hx hb hts X.1.2.2.2.1 X.2.1 kf_1 (j := 2) rfl kw_65 (by decide +kernel : decode cX1_restAll 11 = .ok (.getfield 18, 3))))
    (kx_sB (kx_sL (ks_iload_n hx hb rfl (by decide +kernel : decode cX1_restAll 14 = .ok (.iload_n 1, 1))))
    (kx_sL (ks_iconst hx hb (by decide +kernel) (by decide +kernel : decode cX1_restAll 15 = .ok (.iconst 0, 1))))))
    (kx_sB (kx_sB (kx_sL (ks_iast hx hb X.2.1 (by decide +kernel : decode cX1_restAll 16 = .ok (.iastore, 1))))
    (kx_sL (ks_iinc hx hb (by decide +kernel) (by decide) (by decide +kernel : decode cX1_restAll 17 = .ok (.iinc 1 1, 3)))))
    (kx_sB (kx_sL (ks_goto hx hb (by decide) (by decide +kernel : decode cX1_restAll 20 = .ok (.goto (-18), 3))))
    (kx_sL (ks_vret Z hx hb hr (by decide +kernel : decode cX1_restAll 23 = .ok (.return_, 1)))))))))
def tb_X1_become : Nat → kx_T := (kx_br 40 (kx_br 20 (kx_br 9 (kx_br 4 (kx_br 1 (kx_lf 0 (ki_aload 1 1)) (kx_lf 1 (ki_getR 1 0 20 (fun o => o) 4))) (kx_br 5 (kx_lf 4 (ki_ic (0) 5)) (kx_br 6 (kx_lf 5 (ki_aload 0 6)) (kx_lf 6 (ki_getR 1 0 20 (fun o => o) 9))))) (kx_br 15 (kx_br 10 (kx_lf 9 (ki_ic (0) 10)) (kx_br 12 (kx_lf 10 (ki_ic (6) 12)) (kx_lf 12 (ki_acopy 15)))) (kx_br 16 (kx_lf 15 (ki_aload 1 16)) (kx_br 19 (kx_lf 16 (ki_getR 1 1 21 (fun o => o) 19)) (kx_lf 19 (ki_ic (0) 20)))))) (kx_br 30 (kx_br 24 (kx_br 21 (kx_lf 20 (ki_aload 0 21)) (kx_lf 21 (ki_getR 1 1 21 (fun o => o) 24))) (kx_br 25 (kx_lf 24 (ki_ic (0) 25)) (kx_br 27 (kx_lf 25 (ki_ic (6) 27)) (kx_lf 27 (ki_acopy 30))))) (kx_br 35 (kx_br 31 (kx_lf 30 (ki_aload 1 31)) (kx_br 34 (kx_lf 31 (ki_getR 1 2 22 (fun o => o) 34)) (kx_lf 34 (ki_ic (0) 35)))) (kx_br 36 (kx_lf 35 (ki_aload 0 36)) (kx_br 39 (kx_lf 36 (ki_getR 1 2 22 (fun o => o) 39)) (kx_lf 39 (ki_ic (0) 40))))))) (kx_br 61 (kx_br 50 (kx_br 45 (kx_br 42 (kx_lf 40 (ki_ic (6) 42)) (kx_lf 42 (ki_acopy 45))) (kx_br 46 (kx_lf 45 (ki_aload 1 46)) (kx_br 49 (kx_lf 46 (ki_getR 1 3 23 (fun o => o) 49)) (kx_lf 49 (ki_ic (0) 50))))) (kx_br 55 (kx_br 51 (kx_lf 50 (ki_aload 0 51)) (kx_br 54 (kx_lf 51 (ki_getR 1 3 23 (fun o => o) 54)) (kx_lf 54 (ki_ic (0) 55)))) (kx_br 57 (kx_lf 55 (ki_ic (6) 57)) (kx_br 60 (kx_lf 57 (ki_acopy 60)) (kx_lf 60 (ki_aload 1 61)))))) (kx_br 72 (kx_br 66 (kx_br 64 (kx_lf 61 (ki_getR 1 4 24 (fun o => o) 64)) (kx_br 65 (kx_lf 64 (ki_ic (0) 65)) (kx_lf 65 (ki_aload 0 66)))) (kx_br 69 (kx_lf 66 (ki_getR 1 4 24 (fun o => o) 69)) (kx_br 70 (kx_lf 69 (ki_ic (0) 70)) (kx_lf 70 (ki_ic (6) 72))))) (kx_br 77 (kx_br 75 (kx_lf 72 (ki_acopy 75)) (kx_br 76 (kx_lf 75 (ki_aload 0 76)) (kx_lf 76 (ki_aload 1 77)))) (kx_br 80 (kx_lf 77 (ki_getI 1 5 80)) (kx_br 83 (kx_lf 80 (ki_putI 1 5 83)) (kx_lf 83 (ki_vret))))))))
def sp_X1_become : kx_Sp := kx_sp tb_X1_become 2
set_option maxRecDepth 100000 in
set_option maxHeartbeats 4000000 in
theorem kc_X1_become (l : Launch) : kx_ok1 l yX1_become (kx_wd yX1_become cX1_become 2 none) ({ frames := 1, cells := 0, slots := 0, locals := 40 }) sp_X1_become 2 0 0 := kx_met (by decide) ⟨rfl, rfl⟩ (fun p e s m args below meth c Q D C4 A cnt0 ad0 P X Z hr hn => by
  have hx := X.1.1
  have hb := X.1.2.1
  have hts := X.1.2.2.2.2
  exact (kx_sB (kx_sB (kx_sB (kx_sB (kx_sB (kx_sL (ks_aload_n hx hb rfl (by decide +kernel : decode cX1_become 0 = .ok (.aload_n 1, 1))))
    (kx_sL (ks_getR hx hb hts X.1.2.2.2.1 X.2.1 kf_1 (j := 0) rfl kw_63 (by decide +kernel : decode cX1_become 1 = .ok (.getfield 11, 3)))))
    (kx_sB (kx_sL (ks_iconst hx hb (by decide +kernel) (by decide +kernel : decode cX1_become 4 = .ok (.iconst 0, 1))))
    (kx_sB (kx_sL (ks_aload_n hx hb rfl (by decide +kernel : decode cX1_become 5 = .ok (.aload_n 0, 1))))
    (kx_sL (ks_getR hx hb hts X.1.2.2.2.1 X.2.1 kf_1 (j := 0) rfl kw_63 (by decide +kernel : decode cX1_become 6 = .ok (.getfield 11, 3)))))))
    (kx_sB (kx_sB (kx_sL (ks_iconst hx hb (by decide +kernel) (by decide +kernel : decode cX1_become 9 = .ok (.iconst 0, 1))))
    (kx_sB (kx_sL (ks_bipush hx hb (by decide +kernel) (by decide +kernel : decode cX1_become 10 = .ok (.bipush 6, 2))))
    (kx_sL (ks_acopy hx hb X.2.1 hts X.1.2.2.1 X.1.2.2.2.1 kw_937 kw_432 kw_431 kw_14 (by decide) (by decide +kernel) (by decide +kernel : decode cX1_become 12 = .ok (.invokestatic 49, 3))))))
    (kx_sB (kx_sL (ks_aload_n hx hb rfl (by decide +kernel : decode cX1_become 15 = .ok (.aload_n 1, 1))))
    (kx_sB (kx_sL (ks_getR hx hb hts X.1.2.2.2.1 X.2.1 kf_1 (j := 1) rfl kw_64 (by decide +kernel : decode cX1_become 16 = .ok (.getfield 15, 3))))
    (kx_sL (ks_iconst hx hb (by decide +kernel) (by decide +kernel : decode cX1_become 19 = .ok (.iconst 0, 1))))))))
    (kx_sB (kx_sB (kx_sB (kx_sL (ks_aload_n hx hb rfl (by decide +kernel : decode cX1_become 20 = .ok (.aload_n 0, 1))))
    (kx_sL (ks_getR hx hb hts X.1.2.2.2.1 X.2.1 kf_1 (j := 1) rfl kw_64 (by decide +kernel : decode cX1_become 21 = .ok (.getfield 15, 3)))))
    (kx_sB (kx_sL (ks_iconst hx hb (by decide +kernel) (by decide +kernel : decode cX1_become 24 = .ok (.iconst 0, 1))))
    (kx_sB (kx_sL (ks_bipush hx hb (by decide +kernel) (by decide +kernel : decode cX1_become 25 = .ok (.bipush 6, 2))))
    (kx_sL (ks_acopy hx hb X.2.1 hts X.1.2.2.1 X.1.2.2.2.1 kw_937 kw_432 kw_431 kw_14 (by decide) (by decide +kernel) (by decide +kernel : decode cX1_become 27 = .ok (.invokestatic 49, 3)))))))
    (kx_sB (kx_sB (kx_sL (ks_aload_n hx hb rfl (by decide +kernel : decode cX1_become 30 = .ok (.aload_n 1, 1))))
    (kx_sB (kx_sL (ks_getR hx hb hts X.1.2.2.2.1 X.2.1 kf_1 (j := 2) rfl kw_65 (by decide +kernel : decode cX1_become 31 = .ok (.getfield 18, 3))))
    (kx_sL (ks_iconst hx hb (by decide +kernel) (by decide +kernel : decode cX1_become 34 = .ok (.iconst 0, 1))))))
    (kx_sB (kx_sL (ks_aload_n hx hb rfl (by decide +kernel : decode cX1_become 35 = .ok (.aload_n 0, 1))))
    (kx_sB (kx_sL (ks_getR hx hb hts X.1.2.2.2.1 X.2.1 kf_1 (j := 2) rfl kw_65 (by decide +kernel : decode cX1_become 36 = .ok (.getfield 18, 3))))
    (kx_sL (ks_iconst hx hb (by decide +kernel) (by decide +kernel : decode cX1_become 39 = .ok (.iconst 0, 1)))))))))
    (kx_sB (kx_sB (kx_sB (kx_sB (kx_sL (ks_bipush hx hb (by decide +kernel) (by decide +kernel : decode cX1_become 40 = .ok (.bipush 6, 2))))
    (kx_sL (ks_acopy hx hb X.2.1 hts X.1.2.2.1 X.1.2.2.2.1 kw_937 kw_432 kw_431 kw_14 (by decide) (by decide +kernel) (by decide +kernel : decode cX1_become 42 = .ok (.invokestatic 49, 3)))))
    (kx_sB (kx_sL (ks_aload_n hx hb rfl (by decide +kernel : decode cX1_become 45 = .ok (.aload_n 1, 1))))
    (kx_sB (kx_sL (ks_getR hx hb hts X.1.2.2.2.1 X.2.1 kf_1 (j := 3) rfl kw_66 (by decide +kernel : decode cX1_become 46 = .ok (.getfield 21, 3))))
    (kx_sL (ks_iconst hx hb (by decide +kernel) (by decide +kernel : decode cX1_become 49 = .ok (.iconst 0, 1)))))))
    (kx_sB (kx_sB (kx_sL (ks_aload_n hx hb rfl (by decide +kernel : decode cX1_become 50 = .ok (.aload_n 0, 1))))
    (kx_sB (kx_sL (ks_getR hx hb hts X.1.2.2.2.1 X.2.1 kf_1 (j := 3) rfl kw_66 (by decide +kernel : decode cX1_become 51 = .ok (.getfield 21, 3))))
    (kx_sL (ks_iconst hx hb (by decide +kernel) (by decide +kernel : decode cX1_become 54 = .ok (.iconst 0, 1))))))
    (kx_sB (kx_sL (ks_bipush hx hb (by decide +kernel) (by decide +kernel : decode cX1_become 55 = .ok (.bipush 6, 2))))
    (kx_sB (kx_sL (ks_acopy hx hb X.2.1 hts X.1.2.2.1 X.1.2.2.2.1 kw_937 kw_432 kw_431 kw_14 (by decide) (by decide +kernel) (by decide +kernel : decode cX1_become 57 = .ok (.invokestatic 49, 3))))
    (kx_sL (ks_aload_n hx hb rfl (by decide +kernel : decode cX1_become 60 = .ok (.aload_n 1, 1))))))))
    (kx_sB (kx_sB (kx_sB (kx_sL (ks_getR hx hb hts X.1.2.2.2.1 X.2.1 kf_1 (j := 4) rfl kw_67 (by decide +kernel : decode cX1_become 61 = .ok (.getfield 24, 3))))
    (kx_sB (kx_sL (ks_iconst hx hb (by decide +kernel) (by decide +kernel : decode cX1_become 64 = .ok (.iconst 0, 1))))
    (kx_sL (ks_aload_n hx hb rfl (by decide +kernel : decode cX1_become 65 = .ok (.aload_n 0, 1))))))
    (kx_sB (kx_sL (ks_getR hx hb hts X.1.2.2.2.1 X.2.1 kf_1 (j := 4) rfl kw_67 (by decide +kernel : decode cX1_become 66 = .ok (.getfield 24, 3))))
    (kx_sB (kx_sL (ks_iconst hx hb (by decide +kernel) (by decide +kernel : decode cX1_become 69 = .ok (.iconst 0, 1))))
    (kx_sL (ks_bipush hx hb (by decide +kernel) (by decide +kernel : decode cX1_become 70 = .ok (.bipush 6, 2)))))))
    (kx_sB (kx_sB (kx_sL (ks_acopy hx hb X.2.1 hts X.1.2.2.1 X.1.2.2.2.1 kw_937 kw_432 kw_431 kw_14 (by decide) (by decide +kernel) (by decide +kernel : decode cX1_become 72 = .ok (.invokestatic 49, 3))))
    (kx_sB (kx_sL (ks_aload_n hx hb rfl (by decide +kernel : decode cX1_become 75 = .ok (.aload_n 0, 1))))
    (kx_sL (ks_aload_n hx hb rfl (by decide +kernel : decode cX1_become 76 = .ok (.aload_n 1, 1))))))
    (kx_sB (kx_sL (ks_getI hx hb hts X.1.2.2.2.1 X.2.1 kf_1 (j := 5) rfl kw_68 (by decide +kernel : decode cX1_become 77 = .ok (.getfield 27, 3))))
    (kx_sB (kx_sL (ks_putI hx hb hts X.1.2.2.2.1 X.2.1 kf_1 (j := 5) rfl kw_68 (by decide +kernel) (by decide +kernel) (by decide +kernel : decode cX1_become 80 = .ok (.putfield 27, 3))))
    (kx_sL (ks_vret Z hx hb hr (by decide +kernel : decode cX1_become 83 = .ok (.return_, 1)))))))))))
def tb_X2_has : Nat → kx_T := (kx_br 9 (kx_br 4 (kx_br 1 (kx_lf 0 (ki_iload 1 1)) (kx_lf 1 (ki_if_lt 16 4))) (kx_br 5 (kx_lf 4 (ki_iload 1 5)) (kx_br 6 (kx_lf 5 (ki_aload 0 6)) (kx_lf 6 (ki_getI 2 5 9))))) (kx_br 13 (kx_br 12 (kx_lf 9 (ki_icmp_ge 16 12)) (kx_lf 12 (ki_ic (1) 13))) (kx_br 16 (kx_lf 13 (ki_goto 17)) (kx_br 17 (kx_lf 16 (ki_ic (0) 17)) (kx_lf 17 (ki_zret))))))
def sp_X2_has : kx_Sp := kx_sp tb_X2_has 2
set_option maxRecDepth 100000 in
set_option maxHeartbeats 4000000 in
theorem kc_X2_has (l : Launch) : kx_ok1 l yX2_has (kx_wd yX2_has cX2_has 2 (some .boolean)) ({ frames := 0, cells := 0, slots := 0, locals := 0 }) sp_X2_has 2 0 0 := kx_met (by decide) ⟨rfl, rfl⟩ (fun p e s m args below meth c Q D C4 A cnt0 ad0 P X Z hr hn => by
  have hx := X.1.1
  have hb := X.1.2.1
  have hts := X.1.2.2.2.2
  exact (kx_sB (kx_sB (kx_sB (kx_sL (ks_iload_n hx hb rfl (by decide +kernel : decode cX2_has 0 = .ok (.iload_n 1, 1))))
    (kx_sL (ks_if_lt hx hb (by decide) (by decide +kernel : decode cX2_has 1 = .ok (.ifCond .lt 15, 3)))))
    (kx_sB (kx_sL (ks_iload_n hx hb rfl (by decide +kernel : decode cX2_has 4 = .ok (.iload_n 1, 1))))
    (kx_sB (kx_sL (ks_aload_n hx hb rfl (by decide +kernel : decode cX2_has 5 = .ok (.aload_n 0, 1))))
    (kx_sL (ks_getI hx hb hts X.1.2.2.2.1 X.2.1 kf_2 (j := 5) rfl kw_202 (by decide +kernel : decode cX2_has 6 = .ok (.getfield 27, 3)))))))
    (kx_sB (kx_sB (kx_sL (ks_icmp_ge hx hb (by decide) (by decide +kernel : decode cX2_has 9 = .ok (.if_icmp .ge 7, 3))))
    (kx_sL (ks_iconst hx hb (by decide +kernel) (by decide +kernel : decode cX2_has 12 = .ok (.iconst 1, 1)))))
    (kx_sB (kx_sL (ks_goto hx hb (by decide) (by decide +kernel : decode cX2_has 13 = .ok (.goto 4, 3))))
    (kx_sB (kx_sL (ks_iconst hx hb (by decide +kernel) (by decide +kernel : decode cX2_has 16 = .ok (.iconst 0, 1))))
    (kx_sL (ks_zret Z hx hb hr (by decide +kernel : decode cX2_has 17 = .ok (.ireturn, 1)))))))))
def tb_X2_isFull : Nat → kx_T := (kx_br 10 (kx_br 4 (kx_br 1 (kx_lf 0 (ki_aload 0 1)) (kx_lf 1 (ki_getI 2 5 4))) (kx_br 7 (kx_lf 4 (ki_ic (200) 7)) (kx_lf 7 (ki_icmp_lt 14 10)))) (kx_br 14 (kx_br 11 (kx_lf 10 (ki_ic (1) 11)) (kx_lf 11 (ki_goto 15))) (kx_br 15 (kx_lf 14 (ki_ic (0) 15)) (kx_lf 15 (ki_zret)))))
def sp_X2_isFull : kx_Sp := kx_sp tb_X2_isFull 1
set_option maxRecDepth 100000 in
set_option maxHeartbeats 4000000 in
theorem kc_X2_isFull (l : Launch) : kx_ok1 l yX2_isFull (kx_wd yX2_isFull cX2_isFull 1 (some .boolean)) ({ frames := 0, cells := 0, slots := 0, locals := 0 }) sp_X2_isFull 1 0 0 := kx_met (by decide) ⟨rfl, rfl⟩ (fun p e s m args below meth c Q D C4 A cnt0 ad0 P X Z hr hn => by
  have hx := X.1.1
  have hb := X.1.2.1
  have hts := X.1.2.2.2.2
  exact (kx_sB (kx_sB (kx_sB (kx_sL (ks_aload_n hx hb rfl (by decide +kernel : decode cX2_isFull 0 = .ok (.aload_n 0, 1))))
    (kx_sL (ks_getI hx hb hts X.1.2.2.2.1 X.2.1 kf_2 (j := 5) rfl kw_202 (by decide +kernel : decode cX2_isFull 1 = .ok (.getfield 27, 3)))))
    (kx_sB (kx_sL (ks_sipush hx hb (by decide +kernel) (by decide +kernel : decode cX2_isFull 4 = .ok (.sipush 200, 3))))
    (kx_sL (ks_icmp_lt hx hb (by decide) (by decide +kernel : decode cX2_isFull 7 = .ok (.if_icmp .lt 7, 3))))))
    (kx_sB (kx_sB (kx_sL (ks_iconst hx hb (by decide +kernel) (by decide +kernel : decode cX2_isFull 10 = .ok (.iconst 1, 1))))
    (kx_sL (ks_goto hx hb (by decide) (by decide +kernel : decode cX2_isFull 11 = .ok (.goto 4, 3)))))
    (kx_sB (kx_sL (ks_iconst hx hb (by decide +kernel) (by decide +kernel : decode cX2_isFull 14 = .ok (.iconst 0, 1))))
    (kx_sL (ks_zret Z hx hb hr (by decide +kernel : decode cX2_isFull 15 = .ok (.ireturn, 1))))))))
def tb_X2_kindOf : Nat → kx_T := (kx_br 9 (kx_br 2 (kx_br 1 (kx_lf 0 (ki_aload 0 1)) (kx_lf 1 (ki_iload 1 2))) (kx_br 5 (kx_lf 2 (ki_cv 2 1 2 sp_X2_has 5)) (kx_br 8 (kx_lf 5 (ki_if_eq 17 8)) (kx_lf 8 (ki_aload 0 9))))) (kx_br 14 (kx_br 12 (kx_lf 9 (ki_getR 2 0 25 (fun o => o) 12)) (kx_br 13 (kx_lf 12 (ki_iload 1 13)) (kx_lf 13 (ki_iald 14)))) (kx_br 17 (kx_lf 14 (ki_goto 18)) (kx_br 18 (kx_lf 17 (ki_ic (-1) 18)) (kx_lf 18 (ki_iret))))))
def sp_X2_kindOf : kx_Sp := kx_sp tb_X2_kindOf 2
set_option maxRecDepth 100000 in
set_option maxHeartbeats 4000000 in
theorem kc_X2_kindOf (l : Launch) : kx_ok1 l yX2_kindOf (kx_wd yX2_kindOf cX2_kindOf 2 (some .int)) ({ frames := 1, cells := 0, slots := 0, locals := 21 }) sp_X2_kindOf 2 0 0 := kx_met (by decide) ⟨rfl, rfl⟩ (fun p e s m args below meth c Q D C4 A cnt0 ad0 P X Z hr hn => by
  have hx := X.1.1
  have hb := X.1.2.1
  have hts := X.1.2.2.2.2
  exact (kx_sB (kx_sB (kx_sB (kx_sL (ks_aload_n hx hb rfl (by decide +kernel : decode cX2_kindOf 0 = .ok (.aload_n 0, 1))))
    (kx_sL (ks_iload_n hx hb rfl (by decide +kernel : decode cX2_kindOf 1 = .ok (.iload_n 1, 1)))))
    (kx_sB (kx_sL (ks_cv X (kc_X2_has l) ⟨rfl, rfl⟩ kf_2 kw_481 kw_454 kw_455 kw_456 kw_8 (by decide +kernel) (by decide) (by decide +kernel : decode cX2_kindOf 2 = .ok (.invokevirtual 31, 3))))
    (kx_sB (kx_sL (ks_if_eq hx hb (by decide) (by decide +kernel : decode cX2_kindOf 5 = .ok (.ifCond .eq 12, 3))))
    (kx_sL (ks_aload_n hx hb rfl (by decide +kernel : decode cX2_kindOf 8 = .ok (.aload_n 0, 1)))))))
    (kx_sB (kx_sB (kx_sL (ks_getR hx hb hts X.1.2.2.2.1 X.2.1 kf_2 (j := 0) rfl kw_197 (by decide +kernel : decode cX2_kindOf 9 = .ok (.getfield 9, 3))))
    (kx_sB (kx_sL (ks_iload_n hx hb rfl (by decide +kernel : decode cX2_kindOf 12 = .ok (.iload_n 1, 1))))
    (kx_sL (ks_iald hx hb X.2.1 (by decide +kernel : decode cX2_kindOf 13 = .ok (.iaload, 1))))))
    (kx_sB (kx_sL (ks_goto hx hb (by decide) (by decide +kernel : decode cX2_kindOf 14 = .ok (.goto 4, 3))))
    (kx_sB (kx_sL (ks_iconst hx hb (by decide +kernel) (by decide +kernel : decode cX2_kindOf 17 = .ok (.iconst (-1), 1))))
    (kx_sL (ks_iret Z hx hb hr (by decide +kernel : decode cX2_kindOf 18 = .ok (.ireturn, 1)))))))))
def tb_X2_hourOf : Nat → kx_T := (kx_br 9 (kx_br 2 (kx_br 1 (kx_lf 0 (ki_aload 0 1)) (kx_lf 1 (ki_iload 1 2))) (kx_br 5 (kx_lf 2 (ki_cv 2 1 2 sp_X2_has 5)) (kx_br 8 (kx_lf 5 (ki_if_eq 17 8)) (kx_lf 8 (ki_aload 0 9))))) (kx_br 14 (kx_br 12 (kx_lf 9 (ki_getR 2 1 26 (fun o => o) 12)) (kx_br 13 (kx_lf 12 (ki_iload 1 13)) (kx_lf 13 (ki_iald 14)))) (kx_br 17 (kx_lf 14 (ki_goto 18)) (kx_br 18 (kx_lf 17 (ki_ic (-1) 18)) (kx_lf 18 (ki_iret))))))
def sp_X2_hourOf : kx_Sp := kx_sp tb_X2_hourOf 2
set_option maxRecDepth 100000 in
set_option maxHeartbeats 4000000 in
theorem kc_X2_hourOf (l : Launch) : kx_ok1 l yX2_hourOf (kx_wd yX2_hourOf cX2_hourOf 2 (some .int)) ({ frames := 1, cells := 0, slots := 0, locals := 21 }) sp_X2_hourOf 2 0 0 := kx_met (by decide) ⟨rfl, rfl⟩ (fun p e s m args below meth c Q D C4 A cnt0 ad0 P X Z hr hn => by
  have hx := X.1.1
  have hb := X.1.2.1
  have hts := X.1.2.2.2.2
  exact (kx_sB (kx_sB (kx_sB (kx_sL (ks_aload_n hx hb rfl (by decide +kernel : decode cX2_hourOf 0 = .ok (.aload_n 0, 1))))
    (kx_sL (ks_iload_n hx hb rfl (by decide +kernel : decode cX2_hourOf 1 = .ok (.iload_n 1, 1)))))
    (kx_sB (kx_sL (ks_cv X (kc_X2_has l) ⟨rfl, rfl⟩ kf_2 kw_481 kw_454 kw_455 kw_456 kw_8 (by decide +kernel) (by decide) (by decide +kernel : decode cX2_hourOf 2 = .ok (.invokevirtual 31, 3))))
    (kx_sB (kx_sL (ks_if_eq hx hb (by decide) (by decide +kernel : decode cX2_hourOf 5 = .ok (.ifCond .eq 12, 3))))
    (kx_sL (ks_aload_n hx hb rfl (by decide +kernel : decode cX2_hourOf 8 = .ok (.aload_n 0, 1)))))))
    (kx_sB (kx_sB (kx_sL (ks_getR hx hb hts X.1.2.2.2.1 X.2.1 kf_2 (j := 1) rfl kw_198 (by decide +kernel : decode cX2_hourOf 9 = .ok (.getfield 15, 3))))
    (kx_sB (kx_sL (ks_iload_n hx hb rfl (by decide +kernel : decode cX2_hourOf 12 = .ok (.iload_n 1, 1))))
    (kx_sL (ks_iald hx hb X.2.1 (by decide +kernel : decode cX2_hourOf 13 = .ok (.iaload, 1))))))
    (kx_sB (kx_sL (ks_goto hx hb (by decide) (by decide +kernel : decode cX2_hourOf 14 = .ok (.goto 4, 3))))
    (kx_sB (kx_sL (ks_iconst hx hb (by decide +kernel) (by decide +kernel : decode cX2_hourOf 17 = .ok (.iconst (-1), 1))))
    (kx_sL (ks_iret Z hx hb hr (by decide +kernel : decode cX2_hourOf 18 = .ok (.ireturn, 1)))))))))
def tb_X2_fateOf : Nat → kx_T := (kx_br 9 (kx_br 2 (kx_br 1 (kx_lf 0 (ki_aload 0 1)) (kx_lf 1 (ki_iload 1 2))) (kx_br 5 (kx_lf 2 (ki_cv 2 1 2 sp_X2_has 5)) (kx_br 8 (kx_lf 5 (ki_if_eq 17 8)) (kx_lf 8 (ki_aload 0 9))))) (kx_br 14 (kx_br 12 (kx_lf 9 (ki_getR 2 2 27 (fun o => o) 12)) (kx_br 13 (kx_lf 12 (ki_iload 1 13)) (kx_lf 13 (ki_iald 14)))) (kx_br 17 (kx_lf 14 (ki_goto 18)) (kx_br 18 (kx_lf 17 (ki_ic (-1) 18)) (kx_lf 18 (ki_iret))))))
def sp_X2_fateOf : kx_Sp := kx_sp tb_X2_fateOf 2
set_option maxRecDepth 100000 in
set_option maxHeartbeats 4000000 in
theorem kc_X2_fateOf (l : Launch) : kx_ok1 l yX2_fateOf (kx_wd yX2_fateOf cX2_fateOf 2 (some .int)) ({ frames := 1, cells := 0, slots := 0, locals := 21 }) sp_X2_fateOf 2 0 0 := kx_met (by decide) ⟨rfl, rfl⟩ (fun p e s m args below meth c Q D C4 A cnt0 ad0 P X Z hr hn => by
  have hx := X.1.1
  have hb := X.1.2.1
  have hts := X.1.2.2.2.2
  exact (kx_sB (kx_sB (kx_sB (kx_sL (ks_aload_n hx hb rfl (by decide +kernel : decode cX2_fateOf 0 = .ok (.aload_n 0, 1))))
    (kx_sL (ks_iload_n hx hb rfl (by decide +kernel : decode cX2_fateOf 1 = .ok (.iload_n 1, 1)))))
    (kx_sB (kx_sL (ks_cv X (kc_X2_has l) ⟨rfl, rfl⟩ kf_2 kw_481 kw_454 kw_455 kw_456 kw_8 (by decide +kernel) (by decide) (by decide +kernel : decode cX2_fateOf 2 = .ok (.invokevirtual 31, 3))))
    (kx_sB (kx_sL (ks_if_eq hx hb (by decide) (by decide +kernel : decode cX2_fateOf 5 = .ok (.ifCond .eq 12, 3))))
    (kx_sL (ks_aload_n hx hb rfl (by decide +kernel : decode cX2_fateOf 8 = .ok (.aload_n 0, 1)))))))
    (kx_sB (kx_sB (kx_sL (ks_getR hx hb hts X.1.2.2.2.1 X.2.1 kf_2 (j := 2) rfl kw_199 (by decide +kernel : decode cX2_fateOf 9 = .ok (.getfield 18, 3))))
    (kx_sB (kx_sL (ks_iload_n hx hb rfl (by decide +kernel : decode cX2_fateOf 12 = .ok (.iload_n 1, 1))))
    (kx_sL (ks_iald hx hb X.2.1 (by decide +kernel : decode cX2_fateOf 13 = .ok (.iaload, 1))))))
    (kx_sB (kx_sL (ks_goto hx hb (by decide) (by decide +kernel : decode cX2_fateOf 14 = .ok (.goto 4, 3))))
    (kx_sB (kx_sL (ks_iconst hx hb (by decide +kernel) (by decide +kernel : decode cX2_fateOf 17 = .ok (.iconst (-1), 1))))
    (kx_sL (ks_iret Z hx hb hr (by decide +kernel : decode cX2_fateOf 18 = .ok (.ireturn, 1)))))))))
def tb_X2_metOf : Nat → kx_T := (kx_br 9 (kx_br 2 (kx_br 1 (kx_lf 0 (ki_aload 0 1)) (kx_lf 1 (ki_iload 1 2))) (kx_br 5 (kx_lf 2 (ki_cv 2 1 2 sp_X2_has 5)) (kx_br 8 (kx_lf 5 (ki_if_eq 17 8)) (kx_lf 8 (ki_aload 0 9))))) (kx_br 14 (kx_br 12 (kx_lf 9 (ki_getR 2 3 28 (fun o => o) 12)) (kx_br 13 (kx_lf 12 (ki_iload 1 13)) (kx_lf 13 (ki_iald 14)))) (kx_br 17 (kx_lf 14 (ki_goto 18)) (kx_br 18 (kx_lf 17 (ki_ic (-1) 18)) (kx_lf 18 (ki_iret))))))
def sp_X2_metOf : kx_Sp := kx_sp tb_X2_metOf 2
set_option maxRecDepth 100000 in
set_option maxHeartbeats 4000000 in
theorem kc_X2_metOf (l : Launch) : kx_ok1 l yX2_metOf (kx_wd yX2_metOf cX2_metOf 2 (some .int)) ({ frames := 1, cells := 0, slots := 0, locals := 21 }) sp_X2_metOf 2 0 0 := kx_met (by decide) ⟨rfl, rfl⟩ (fun p e s m args below meth c Q D C4 A cnt0 ad0 P X Z hr hn => by
  have hx := X.1.1
  have hb := X.1.2.1
  have hts := X.1.2.2.2.2
  exact (kx_sB (kx_sB (kx_sB (kx_sL (ks_aload_n hx hb rfl (by decide +kernel : decode cX2_metOf 0 = .ok (.aload_n 0, 1))))
    (kx_sL (ks_iload_n hx hb rfl (by decide +kernel : decode cX2_metOf 1 = .ok (.iload_n 1, 1)))))
    (kx_sB (kx_sL (ks_cv X (kc_X2_has l) ⟨rfl, rfl⟩ kf_2 kw_481 kw_454 kw_455 kw_456 kw_8 (by decide +kernel) (by decide) (by decide +kernel : decode cX2_metOf 2 = .ok (.invokevirtual 31, 3))))
    (kx_sB (kx_sL (ks_if_eq hx hb (by decide) (by decide +kernel : decode cX2_metOf 5 = .ok (.ifCond .eq 12, 3))))
    (kx_sL (ks_aload_n hx hb rfl (by decide +kernel : decode cX2_metOf 8 = .ok (.aload_n 0, 1)))))))
    (kx_sB (kx_sB (kx_sL (ks_getR hx hb hts X.1.2.2.2.1 X.2.1 kf_2 (j := 3) rfl kw_200 (by decide +kernel : decode cX2_metOf 9 = .ok (.getfield 21, 3))))
    (kx_sB (kx_sL (ks_iload_n hx hb rfl (by decide +kernel : decode cX2_metOf 12 = .ok (.iload_n 1, 1))))
    (kx_sL (ks_iald hx hb X.2.1 (by decide +kernel : decode cX2_metOf 13 = .ok (.iaload, 1))))))
    (kx_sB (kx_sL (ks_goto hx hb (by decide) (by decide +kernel : decode cX2_metOf 14 = .ok (.goto 4, 3))))
    (kx_sB (kx_sL (ks_iconst hx hb (by decide +kernel) (by decide +kernel : decode cX2_metOf 17 = .ok (.iconst (-1), 1))))
    (kx_sL (ks_iret Z hx hb hr (by decide +kernel : decode cX2_metOf 18 = .ok (.ireturn, 1)))))))))
def tb_X10_isWithin : Nat → kx_T := (kx_br 7 (kx_br 2 (kx_br 1 (kx_lf 0 (ki_iload 0 1)) (kx_lf 1 (ki_iload 1 2))) (kx_br 5 (kx_lf 2 (ki_icmp_lt 14 5)) (kx_br 6 (kx_lf 5 (ki_iload 0 6)) (kx_lf 6 (ki_iload 2 7))))) (kx_br 11 (kx_br 10 (kx_lf 7 (ki_icmp_gt 14 10)) (kx_lf 10 (ki_ic (1) 11))) (kx_br 14 (kx_lf 11 (ki_goto 15)) (kx_br 15 (kx_lf 14 (ki_ic (0) 15)) (kx_lf 15 (ki_zret))))))
def sp_X10_isWithin : kx_Sp := kx_sp tb_X10_isWithin 3
set_option maxRecDepth 100000 in
set_option maxHeartbeats 4000000 in
theorem kc_X10_isWithin (l : Launch) : kx_ok1 l yX10_isWithin (kx_wd yX10_isWithin cX10_isWithin 3 (some .boolean)) ({ frames := 0, cells := 0, slots := 0, locals := 0 }) sp_X10_isWithin 3 0 0 := kx_met (by decide) ⟨rfl, rfl⟩ (fun p e s m args below meth c Q D C4 A cnt0 ad0 P X Z hr hn => by
  have hx := X.1.1
  have hb := X.1.2.1
  have hts := X.1.2.2.2.2
  exact (kx_sB (kx_sB (kx_sB (kx_sL (ks_iload_n hx hb rfl (by decide +kernel : decode cX10_isWithin 0 = .ok (.iload_n 0, 1))))
    (kx_sL (ks_iload_n hx hb rfl (by decide +kernel : decode cX10_isWithin 1 = .ok (.iload_n 1, 1)))))
    (kx_sB (kx_sL (ks_icmp_lt hx hb (by decide) (by decide +kernel : decode cX10_isWithin 2 = .ok (.if_icmp .lt 12, 3))))
    (kx_sB (kx_sL (ks_iload_n hx hb rfl (by decide +kernel : decode cX10_isWithin 5 = .ok (.iload_n 0, 1))))
    (kx_sL (ks_iload_n hx hb rfl (by decide +kernel : decode cX10_isWithin 6 = .ok (.iload_n 2, 1)))))))
    (kx_sB (kx_sB (kx_sL (ks_icmp_gt hx hb (by decide) (by decide +kernel : decode cX10_isWithin 7 = .ok (.if_icmp .gt 7, 3))))
    (kx_sL (ks_iconst hx hb (by decide +kernel) (by decide +kernel : decode cX10_isWithin 10 = .ok (.iconst 1, 1)))))
    (kx_sB (kx_sL (ks_goto hx hb (by decide) (by decide +kernel : decode cX10_isWithin 11 = .ok (.goto 4, 3))))
    (kx_sB (kx_sL (ks_iconst hx hb (by decide +kernel) (by decide +kernel : decode cX10_isWithin 14 = .ok (.iconst 0, 1))))
    (kx_sL (ks_zret Z hx hb hr (by decide +kernel : decode cX10_isWithin 15 = .ok (.ireturn, 1)))))))))
def tb_X2_shipInPlace : Nat → kx_T := (kx_br 11 (kx_br 3 (kx_br 1 (kx_lf 0 (ki_iload 1 1)) (kx_br 2 (kx_lf 1 (ki_ic (0) 2)) (kx_lf 2 (ki_aload 0 3)))) (kx_br 7 (kx_br 6 (kx_lf 3 (ki_getI 2 5 6)) (kx_lf 6 (ki_ic (1) 7))) (kx_br 8 (kx_lf 7 (ki_isub 8)) (kx_lf 8 (ki_cs 3 3 sp_X10_isWithin 11))))) (kx_br 19 (kx_br 15 (kx_br 14 (kx_lf 11 (ki_if_eq 23 14)) (kx_lf 14 (ki_aload 0 15))) (kx_br 18 (kx_lf 15 (ki_getR 2 4 29 (fun o => o) 18)) (kx_lf 18 (ki_iload 1 19)))) (kx_br 23 (kx_br 20 (kx_lf 19 (ki_iald 20)) (kx_lf 20 (ki_goto 24))) (kx_br 24 (kx_lf 23 (ki_ic (-1) 24)) (kx_lf 24 (ki_iret))))))
def sp_X2_shipInPlace : kx_Sp := kx_sp tb_X2_shipInPlace 2
set_option maxRecDepth 100000 in
set_option maxHeartbeats 4000000 in
theorem kc_X2_shipInPlace (l : Launch) : kx_ok1 l yX2_shipInPlace (kx_wd yX2_shipInPlace cX2_shipInPlace 2 (some .int)) ({ frames := 1, cells := 0, slots := 0, locals := 22 }) sp_X2_shipInPlace 2 0 0 := kx_met (by decide) ⟨rfl, rfl⟩ (fun p e s m args below meth c Q D C4 A cnt0 ad0 P X Z hr hn => by
  have hx := X.1.1
  have hb := X.1.2.1
  have hts := X.1.2.2.2.2
  exact (kx_sB (kx_sB (kx_sB (kx_sL (ks_iload_n hx hb rfl (by decide +kernel : decode cX2_shipInPlace 0 = .ok (.iload_n 1, 1))))
    (kx_sB (kx_sL (ks_iconst hx hb (by decide +kernel) (by decide +kernel : decode cX2_shipInPlace 1 = .ok (.iconst 0, 1))))
    (kx_sL (ks_aload_n hx hb rfl (by decide +kernel : decode cX2_shipInPlace 2 = .ok (.aload_n 0, 1))))))
    (kx_sB (kx_sB (kx_sL (ks_getI hx hb hts X.1.2.2.2.1 X.2.1 kf_2 (j := 5) rfl kw_202 (by decide +kernel : decode cX2_shipInPlace 3 = .ok (.getfield 27, 3))))
    (kx_sL (ks_iconst hx hb (by decide +kernel) (by decide +kernel : decode cX2_shipInPlace 6 = .ok (.iconst 1, 1)))))
    (kx_sB (kx_sL (ks_isub hx hb (by decide +kernel : decode cX2_shipInPlace 7 = .ok (.isub, 1))))
    (kx_sL (ks_csN X (kc_X10_isWithin l) ⟨rfl, rfl⟩ (host := "KeptLight") (by decide +kernel) kw_370 kw_371 kw_1 (by decide +kernel) (by decide) (by decide +kernel : decode cX2_shipInPlace 8 = .ok (.invokestatic 53, 3)))))))
    (kx_sB (kx_sB (kx_sB (kx_sL (ks_if_eq hx hb (by decide) (by decide +kernel : decode cX2_shipInPlace 11 = .ok (.ifCond .eq 12, 3))))
    (kx_sL (ks_aload_n hx hb rfl (by decide +kernel : decode cX2_shipInPlace 14 = .ok (.aload_n 0, 1)))))
    (kx_sB (kx_sL (ks_getR hx hb hts X.1.2.2.2.1 X.2.1 kf_2 (j := 4) rfl kw_201 (by decide +kernel : decode cX2_shipInPlace 15 = .ok (.getfield 24, 3))))
    (kx_sL (ks_iload_n hx hb rfl (by decide +kernel : decode cX2_shipInPlace 18 = .ok (.iload_n 1, 1))))))
    (kx_sB (kx_sB (kx_sL (ks_iald hx hb X.2.1 (by decide +kernel : decode cX2_shipInPlace 19 = .ok (.iaload, 1))))
    (kx_sL (ks_goto hx hb (by decide) (by decide +kernel : decode cX2_shipInPlace 20 = .ok (.goto 4, 3)))))
    (kx_sB (kx_sL (ks_iconst hx hb (by decide +kernel) (by decide +kernel : decode cX2_shipInPlace 23 = .ok (.iconst (-1), 1))))
    (kx_sL (ks_iret Z hx hb hr (by decide +kernel : decode cX2_shipInPlace 24 = .ok (.ireturn, 1)))))))))
def tb_X2_isBehind : Nat → kx_T := (kx_br 15 (kx_br 6 (kx_br 2 (kx_br 1 (kx_lf 0 (ki_aload 0 1)) (kx_lf 1 (ki_iload 1 2))) (kx_br 5 (kx_lf 2 (ki_cv 2 1 2 sp_X2_hourOf 5)) (kx_lf 5 (ki_iload 3 6)))) (kx_br 10 (kx_br 9 (kx_lf 6 (ki_icmp_gt 27 9)) (kx_lf 9 (ki_aload 0 10))) (kx_br 11 (kx_lf 10 (ki_iload 1 11)) (kx_br 14 (kx_lf 11 (ki_cv 2 1 2 sp_X2_hourOf 14)) (kx_lf 14 (ki_iload 3 15)))))) (kx_br 24 (kx_br 19 (kx_br 18 (kx_lf 15 (ki_icmp_ne 31 18)) (kx_lf 18 (ki_aload 0 19))) (kx_br 20 (kx_lf 19 (ki_iload 1 20)) (kx_br 23 (kx_lf 20 (ki_cv 2 1 2 sp_X2_kindOf 23)) (kx_lf 23 (ki_iload 2 24))))) (kx_br 28 (kx_br 27 (kx_lf 24 (ki_icmp_ge 31 27)) (kx_lf 27 (ki_ic (1) 28))) (kx_br 31 (kx_lf 28 (ki_goto 32)) (kx_br 32 (kx_lf 31 (ki_ic (0) 32)) (kx_lf 32 (ki_zret)))))))
def sp_X2_isBehind : kx_Sp := kx_sp tb_X2_isBehind 4
set_option maxRecDepth 100000 in
set_option maxHeartbeats 4000000 in
theorem kc_X2_isBehind (l : Launch) : kx_ok1 l yX2_isBehind (kx_wd yX2_isBehind cX2_isBehind 4 (some .boolean)) ({ frames := 2, cells := 0, slots := 0, locals := 42 }) sp_X2_isBehind 4 0 0 := kx_met (by decide) ⟨rfl, rfl⟩ (fun p e s m args below meth c Q D C4 A cnt0 ad0 P X Z hr hn => by
  have hx := X.1.1
  have hb := X.1.2.1
  have hts := X.1.2.2.2.2
  exact (kx_sB (kx_sB (kx_sB (kx_sB (kx_sL (ks_aload_n hx hb rfl (by decide +kernel : decode cX2_isBehind 0 = .ok (.aload_n 0, 1))))
    (kx_sL (ks_iload_n hx hb rfl (by decide +kernel : decode cX2_isBehind 1 = .ok (.iload_n 1, 1)))))
    (kx_sB (kx_sL (ks_cv X (kc_X2_hourOf l) ⟨rfl, rfl⟩ kf_2 kw_707 kw_493 kw_494 kw_495 kw_8 (by decide +kernel) (by decide) (by decide +kernel : decode cX2_isBehind 2 = .ok (.invokevirtual 47, 3))))
    (kx_sL (ks_iload_n hx hb rfl (by decide +kernel : decode cX2_isBehind 5 = .ok (.iload_n 3, 1))))))
    (kx_sB (kx_sB (kx_sL (ks_icmp_gt hx hb (by decide) (by decide +kernel : decode cX2_isBehind 6 = .ok (.if_icmp .gt 21, 3))))
    (kx_sL (ks_aload_n hx hb rfl (by decide +kernel : decode cX2_isBehind 9 = .ok (.aload_n 0, 1)))))
    (kx_sB (kx_sL (ks_iload_n hx hb rfl (by decide +kernel : decode cX2_isBehind 10 = .ok (.iload_n 1, 1))))
    (kx_sB (kx_sL (ks_cv X (kc_X2_hourOf l) ⟨rfl, rfl⟩ kf_2 kw_707 kw_493 kw_494 kw_495 kw_8 (by decide +kernel) (by decide) (by decide +kernel : decode cX2_isBehind 11 = .ok (.invokevirtual 47, 3))))
    (kx_sL (ks_iload_n hx hb rfl (by decide +kernel : decode cX2_isBehind 14 = .ok (.iload_n 3, 1))))))))
    (kx_sB (kx_sB (kx_sB (kx_sL (ks_icmp_ne hx hb (by decide) (by decide +kernel : decode cX2_isBehind 15 = .ok (.if_icmp .ne 16, 3))))
    (kx_sL (ks_aload_n hx hb rfl (by decide +kernel : decode cX2_isBehind 18 = .ok (.aload_n 0, 1)))))
    (kx_sB (kx_sL (ks_iload_n hx hb rfl (by decide +kernel : decode cX2_isBehind 19 = .ok (.iload_n 1, 1))))
    (kx_sB (kx_sL (ks_cv X (kc_X2_kindOf l) ⟨rfl, rfl⟩ kf_2 kw_708 kw_478 kw_479 kw_480 kw_8 (by decide +kernel) (by decide) (by decide +kernel : decode cX2_isBehind 20 = .ok (.invokevirtual 50, 3))))
    (kx_sL (ks_iload_n hx hb rfl (by decide +kernel : decode cX2_isBehind 23 = .ok (.iload_n 2, 1)))))))
    (kx_sB (kx_sB (kx_sL (ks_icmp_ge hx hb (by decide) (by decide +kernel : decode cX2_isBehind 24 = .ok (.if_icmp .ge 7, 3))))
    (kx_sL (ks_iconst hx hb (by decide +kernel) (by decide +kernel : decode cX2_isBehind 27 = .ok (.iconst 1, 1)))))
    (kx_sB (kx_sL (ks_goto hx hb (by decide) (by decide +kernel : decode cX2_isBehind 28 = .ok (.goto 4, 3))))
    (kx_sB (kx_sL (ks_iconst hx hb (by decide +kernel) (by decide +kernel : decode cX2_isBehind 31 = .ok (.iconst 0, 1))))
    (kx_sL (ks_zret Z hx hb hr (by decide +kernel : decode cX2_isBehind 32 = .ok (.ireturn, 1))))))))))
def tb_X2_expect : Nat → kx_T := (kx_br 60 (kx_br 28 (kx_br 15 (kx_br 8 (kx_br 4 (kx_br 1 (kx_lf 0 (ki_aload 0 1)) (kx_lf 1 (ki_cv 2 0 1 sp_X2_isFull 4))) (kx_br 7 (kx_lf 4 (ki_if_eq 9 7)) (kx_lf 7 (ki_ic (-1) 8)))) (kx_br 10 (kx_br 9 (kx_lf 8 (ki_iret)) (kx_lf 9 (ki_aload 0 10))) (kx_br 13 (kx_lf 10 (ki_getI 2 5 13)) (kx_br 14 (kx_lf 13 (ki_istore 3 14)) (kx_lf 14 (ki_iload 3 15)))))) (kx_br 21 (kx_br 19 (kx_br 18 (kx_lf 15 (ki_if_le 54 18)) (kx_lf 18 (ki_aload 0 19))) (kx_br 20 (kx_lf 19 (ki_aload 0 20)) (kx_lf 20 (ki_iload 3 21)))) (kx_br 23 (kx_br 22 (kx_lf 21 (ki_ic (1) 22)) (kx_lf 22 (ki_isub 23))) (kx_br 26 (kx_lf 23 (ki_cv 2 1 2 sp_X2_shipInPlace 26)) (kx_br 27 (kx_lf 26 (ki_iload 1 27)) (kx_lf 27 (ki_iload 2 28))))))) (kx_br 45 (kx_br 38 (kx_br 34 (kx_br 31 (kx_lf 28 (ki_cv 2 3 4 sp_X2_isBehind 31)) (kx_lf 31 (ki_if_eq 54 34))) (kx_br 35 (kx_lf 34 (ki_aload 0 35)) (kx_lf 35 (ki_getR 2 4 29 (fun o => o) 38)))) (kx_br 40 (kx_br 39 (kx_lf 38 (ki_iload 3 39)) (kx_lf 39 (ki_aload 0 40))) (kx_br 43 (kx_lf 40 (ki_getR 2 4 29 (fun o => o) 43)) (kx_br 44 (kx_lf 43 (ki_iload 3 44)) (kx_lf 44 (ki_ic (1) 45)))))) (kx_br 51 (kx_br 47 (kx_br 46 (kx_lf 45 (ki_isub 46)) (kx_lf 46 (ki_iald 47))) (kx_br 48 (kx_lf 47 (ki_iast 48)) (kx_lf 48 (ki_iinc 3 (-1) 51)))) (kx_br 55 (kx_br 54 (kx_lf 51 (ki_goto 14)) (kx_lf 54 (ki_aload 0 55))) (kx_br 58 (kx_lf 55 (ki_getR 2 4 29 (fun o => o) 58)) (kx_br 59 (kx_lf 58 (ki_iload 3 59)) (kx_lf 59 (ki_aload 0 60)))))))) (kx_br 92 (kx_br 75 (kx_br 68 (kx_br 64 (kx_br 63 (kx_lf 60 (ki_getI 2 5 63)) (kx_lf 63 (ki_iast 64))) (kx_br 65 (kx_lf 64 (ki_aload 0 65)) (kx_lf 65 (ki_getR 2 0 25 (fun o => o) 68)))) (kx_br 72 (kx_br 69 (kx_lf 68 (ki_aload 0 69)) (kx_lf 69 (ki_getI 2 5 72))) (kx_br 73 (kx_lf 72 (ki_iload 1 73)) (kx_br 74 (kx_lf 73 (ki_iast 74)) (kx_lf 74 (ki_aload 0 75)))))) (kx_br 83 (kx_br 79 (kx_br 78 (kx_lf 75 (ki_getR 2 1 26 (fun o => o) 78)) (kx_lf 78 (ki_aload 0 79))) (kx_br 82 (kx_lf 79 (ki_getI 2 5 82)) (kx_lf 82 (ki_iload 2 83)))) (kx_br 85 (kx_br 84 (kx_lf 83 (ki_iast 84)) (kx_lf 84 (ki_aload 0 85))) (kx_br 88 (kx_lf 85 (ki_getR 2 2 27 (fun o => o) 88)) (kx_br 89 (kx_lf 88 (ki_aload 0 89)) (kx_lf 89 (ki_getI 2 5 92))))))) (kx_br 105 (kx_br 98 (kx_br 94 (kx_br 93 (kx_lf 92 (ki_ic (-1) 93)) (kx_lf 93 (ki_iast 94))) (kx_br 95 (kx_lf 94 (ki_aload 0 95)) (kx_lf 95 (ki_getR 2 3 28 (fun o => o) 98)))) (kx_br 102 (kx_br 99 (kx_lf 98 (ki_aload 0 99)) (kx_lf 99 (ki_getI 2 5 102))) (kx_br 103 (kx_lf 102 (ki_ic (-1) 103)) (kx_br 104 (kx_lf 103 (ki_iast 104)) (kx_lf 104 (ki_aload 0 105)))))) (kx_br 114 (kx_br 109 (kx_br 106 (kx_lf 105 (ki_dup 106)) (kx_lf 106 (ki_getI 2 5 109))) (kx_br 110 (kx_lf 109 (ki_ic (1) 110)) (kx_br 111 (kx_lf 110 (ki_iadd 111)) (kx_lf 111 (ki_putI 2 5 114))))) (kx_br 118 (kx_br 115 (kx_lf 114 (ki_aload 0 115)) (kx_lf 115 (ki_getI 2 5 118))) (kx_br 119 (kx_lf 118 (ki_ic (1) 119)) (kx_br 120 (kx_lf 119 (ki_isub 120)) (kx_lf 120 (ki_iret)))))))))
def sp_X2_expect : kx_Sp := kx_sp tb_X2_expect 4
set_option maxRecDepth 100000 in
set_option maxHeartbeats 4000000 in
theorem kc_X2_expect (l : Launch) : kx_ok1 l yX2_expect (kx_wd yX2_expect cX2_expect 4 (some .int)) ({ frames := 3, cells := 0, slots := 0, locals := 65 }) sp_X2_expect 4 0 0 := kx_met (by decide) ⟨rfl, rfl⟩ (fun p e s m args below meth c Q D C4 A cnt0 ad0 P X Z hr hn => by
  have hx := X.1.1
  have hb := X.1.2.1
  have hts := X.1.2.2.2.2
  exact (kx_sB (kx_sB (kx_sB (kx_sB (kx_sB (kx_sB (kx_sL (ks_aload_n hx hb rfl (by decide +kernel : decode cX2_expect 0 = .ok (.aload_n 0, 1))))
    (kx_sL (ks_cv X (kc_X2_isFull l) ⟨rfl, rfl⟩ kf_2 kw_697 kw_690 kw_691 kw_692 kw_8 (by decide +kernel) (by decide) (by decide +kernel : decode cX2_expect 1 = .ok (.invokevirtual 35, 3)))))
    (kx_sB (kx_sL (ks_if_eq hx hb (by decide) (by decide +kernel : decode cX2_expect 4 = .ok (.ifCond .eq 5, 3))))
    (kx_sL (ks_iconst hx hb (by decide +kernel) (by decide +kernel : decode cX2_expect 7 = .ok (.iconst (-1), 1))))))
    (kx_sB (kx_sB (kx_sL (ks_iret Z hx hb hr (by decide +kernel : decode cX2_expect 8 = .ok (.ireturn, 1))))
    (kx_sL (ks_aload_n hx hb rfl (by decide +kernel : decode cX2_expect 9 = .ok (.aload_n 0, 1)))))
    (kx_sB (kx_sL (ks_getI hx hb hts X.1.2.2.2.1 X.2.1 kf_2 (j := 5) rfl kw_202 (by decide +kernel : decode cX2_expect 10 = .ok (.getfield 27, 3))))
    (kx_sB (kx_sL (ks_istore_n hx hb rfl (by decide) (by decide +kernel : decode cX2_expect 13 = .ok (.istore_n 3, 1))))
    (kx_sL (ks_iload_n hx hb rfl (by decide +kernel : decode cX2_expect 14 = .ok (.iload_n 3, 1))))))))
    (kx_sB (kx_sB (kx_sB (kx_sL (ks_if_le hx hb (by decide) (by decide +kernel : decode cX2_expect 15 = .ok (.ifCond .le 39, 3))))
    (kx_sL (ks_aload_n hx hb rfl (by decide +kernel : decode cX2_expect 18 = .ok (.aload_n 0, 1)))))
    (kx_sB (kx_sL (ks_aload_n hx hb rfl (by decide +kernel : decode cX2_expect 19 = .ok (.aload_n 0, 1))))
    (kx_sL (ks_iload_n hx hb rfl (by decide +kernel : decode cX2_expect 20 = .ok (.iload_n 3, 1))))))
    (kx_sB (kx_sB (kx_sL (ks_iconst hx hb (by decide +kernel) (by decide +kernel : decode cX2_expect 21 = .ok (.iconst 1, 1))))
    (kx_sL (ks_isub hx hb (by decide +kernel : decode cX2_expect 22 = .ok (.isub, 1)))))
    (kx_sB (kx_sL (ks_cv X (kc_X2_shipInPlace l) ⟨rfl, rfl⟩ kf_2 kw_698 kw_699 kw_700 kw_701 kw_8 (by decide +kernel) (by decide) (by decide +kernel : decode cX2_expect 23 = .ok (.invokevirtual 39, 3))))
    (kx_sB (kx_sL (ks_iload_n hx hb rfl (by decide +kernel : decode cX2_expect 26 = .ok (.iload_n 1, 1))))
    (kx_sL (ks_iload_n hx hb rfl (by decide +kernel : decode cX2_expect 27 = .ok (.iload_n 2, 1)))))))))
    (kx_sB (kx_sB (kx_sB (kx_sB (kx_sL (ks_cv X (kc_X2_isBehind l) ⟨rfl, rfl⟩ kf_2 kw_703 kw_705 kv_11 kw_706 kw_8 (by decide +kernel) (by decide) (by decide +kernel : decode cX2_expect 28 = .ok (.invokevirtual 43, 3))))
    (kx_sL (ks_if_eq hx hb (by decide) (by decide +kernel : decode cX2_expect 31 = .ok (.ifCond .eq 23, 3)))))
    (kx_sB (kx_sL (ks_aload_n hx hb rfl (by decide +kernel : decode cX2_expect 34 = .ok (.aload_n 0, 1))))
    (kx_sL (ks_getR hx hb hts X.1.2.2.2.1 X.2.1 kf_2 (j := 4) rfl kw_201 (by decide +kernel : decode cX2_expect 35 = .ok (.getfield 24, 3))))))
    (kx_sB (kx_sB (kx_sL (ks_iload_n hx hb rfl (by decide +kernel : decode cX2_expect 38 = .ok (.iload_n 3, 1))))
    (kx_sL (ks_aload_n hx hb rfl (by decide +kernel : decode cX2_expect 39 = .ok (.aload_n 0, 1)))))
    (kx_sB (kx_sL (ks_getR hx hb hts X.1.2.2.2.1 X.2.1 kf_2 (j := 4) rfl kw_201 (by decide +kernel : decode cX2_expect 40 = .ok (.getfield 24, 3))))
    (kx_sB (kx_sL (ks_iload_n hx hb rfl (by decide +kernel : decode cX2_expect 43 = .ok (.iload_n 3, 1))))
    (kx_sL (ks_iconst hx hb (by decide +kernel) (by decide +kernel : decode cX2_expect 44 = .ok (.iconst 1, 1))))))))
    (kx_sB (kx_sB (kx_sB (kx_sL (ks_isub hx hb (by decide +kernel : decode cX2_expect 45 = .ok (.isub, 1))))
    (kx_sL (ks_iald hx hb X.2.1 (by decide +kernel : decode cX2_expect 46 = .ok (.iaload, 1)))))
    (kx_sB (kx_sL (ks_iast hx hb X.2.1 (by decide +kernel : decode cX2_expect 47 = .ok (.iastore, 1))))
    (kx_sL (ks_iinc hx hb (by decide +kernel) (by decide) (by decide +kernel : decode cX2_expect 48 = .ok (.iinc 3 (-1), 3))))))
    (kx_sB (kx_sB (kx_sL (ks_goto hx hb (by decide) (by decide +kernel : decode cX2_expect 51 = .ok (.goto (-37), 3))))
    (kx_sL (ks_aload_n hx hb rfl (by decide +kernel : decode cX2_expect 54 = .ok (.aload_n 0, 1)))))
    (kx_sB (kx_sL (ks_getR hx hb hts X.1.2.2.2.1 X.2.1 kf_2 (j := 4) rfl kw_201 (by decide +kernel : decode cX2_expect 55 = .ok (.getfield 24, 3))))
    (kx_sB (kx_sL (ks_iload_n hx hb rfl (by decide +kernel : decode cX2_expect 58 = .ok (.iload_n 3, 1))))
    (kx_sL (ks_aload_n hx hb rfl (by decide +kernel : decode cX2_expect 59 = .ok (.aload_n 0, 1))))))))))
    (kx_sB (kx_sB (kx_sB (kx_sB (kx_sB (kx_sL (ks_getI hx hb hts X.1.2.2.2.1 X.2.1 kf_2 (j := 5) rfl kw_202 (by decide +kernel : decode cX2_expect 60 = .ok (.getfield 27, 3))))
    (kx_sL (ks_iast hx hb X.2.1 (by decide +kernel : decode cX2_expect 63 = .ok (.iastore, 1)))))
    (kx_sB (kx_sL (ks_aload_n hx hb rfl (by decide +kernel : decode cX2_expect 64 = .ok (.aload_n 0, 1))))
    (kx_sL (ks_getR hx hb hts X.1.2.2.2.1 X.2.1 kf_2 (j := 0) rfl kw_197 (by decide +kernel : decode cX2_expect 65 = .ok (.getfield 9, 3))))))
    (kx_sB (kx_sB (kx_sL (ks_aload_n hx hb rfl (by decide +kernel : decode cX2_expect 68 = .ok (.aload_n 0, 1))))
    (kx_sL (ks_getI hx hb hts X.1.2.2.2.1 X.2.1 kf_2 (j := 5) rfl kw_202 (by decide +kernel : decode cX2_expect 69 = .ok (.getfield 27, 3)))))
    (kx_sB (kx_sL (ks_iload_n hx hb rfl (by decide +kernel : decode cX2_expect 72 = .ok (.iload_n 1, 1))))
    (kx_sB (kx_sL (ks_iast hx hb X.2.1 (by decide +kernel : decode cX2_expect 73 = .ok (.iastore, 1))))
    (kx_sL (ks_aload_n hx hb rfl (by decide +kernel : decode cX2_expect 74 = .ok (.aload_n 0, 1))))))))
    (kx_sB (kx_sB (kx_sB (kx_sL (ks_getR hx hb hts X.1.2.2.2.1 X.2.1 kf_2 (j := 1) rfl kw_198 (by decide +kernel : decode cX2_expect 75 = .ok (.getfield 15, 3))))
    (kx_sL (ks_aload_n hx hb rfl (by decide +kernel : decode cX2_expect 78 = .ok (.aload_n 0, 1)))))
    (kx_sB (kx_sL (ks_getI hx hb hts X.1.2.2.2.1 X.2.1 kf_2 (j := 5) rfl kw_202 (by decide +kernel : decode cX2_expect 79 = .ok (.getfield 27, 3))))
    (kx_sL (ks_iload_n hx hb rfl (by decide +kernel : decode cX2_expect 82 = .ok (.iload_n 2, 1))))))
    (kx_sB (kx_sB (kx_sL (ks_iast hx hb X.2.1 (by decide +kernel : decode cX2_expect 83 = .ok (.iastore, 1))))
    (kx_sL (ks_aload_n hx hb rfl (by decide +kernel : decode cX2_expect 84 = .ok (.aload_n 0, 1)))))
    (kx_sB (kx_sL (ks_getR hx hb hts X.1.2.2.2.1 X.2.1 kf_2 (j := 2) rfl kw_199 (by decide +kernel : decode cX2_expect 85 = .ok (.getfield 18, 3))))
    (kx_sB (kx_sL (ks_aload_n hx hb rfl (by decide +kernel : decode cX2_expect 88 = .ok (.aload_n 0, 1))))
    (kx_sL (ks_getI hx hb hts X.1.2.2.2.1 X.2.1 kf_2 (j := 5) rfl kw_202 (by decide +kernel : decode cX2_expect 89 = .ok (.getfield 27, 3)))))))))
    (kx_sB (kx_sB (kx_sB (kx_sB (kx_sL (ks_iconst hx hb (by decide +kernel) (by decide +kernel : decode cX2_expect 92 = .ok (.iconst (-1), 1))))
    (kx_sL (ks_iast hx hb X.2.1 (by decide +kernel : decode cX2_expect 93 = .ok (.iastore, 1)))))
    (kx_sB (kx_sL (ks_aload_n hx hb rfl (by decide +kernel : decode cX2_expect 94 = .ok (.aload_n 0, 1))))
    (kx_sL (ks_getR hx hb hts X.1.2.2.2.1 X.2.1 kf_2 (j := 3) rfl kw_200 (by decide +kernel : decode cX2_expect 95 = .ok (.getfield 21, 3))))))
    (kx_sB (kx_sB (kx_sL (ks_aload_n hx hb rfl (by decide +kernel : decode cX2_expect 98 = .ok (.aload_n 0, 1))))
    (kx_sL (ks_getI hx hb hts X.1.2.2.2.1 X.2.1 kf_2 (j := 5) rfl kw_202 (by decide +kernel : decode cX2_expect 99 = .ok (.getfield 27, 3)))))
    (kx_sB (kx_sL (ks_iconst hx hb (by decide +kernel) (by decide +kernel : decode cX2_expect 102 = .ok (.iconst (-1), 1))))
    (kx_sB (kx_sL (ks_iast hx hb X.2.1 (by decide +kernel : decode cX2_expect 103 = .ok (.iastore, 1))))
    (kx_sL (ks_aload_n hx hb rfl (by decide +kernel : decode cX2_expect 104 = .ok (.aload_n 0, 1))))))))
    (kx_sB (kx_sB (kx_sB (kx_sL (ks_dup hx hb (by decide +kernel : decode cX2_expect 105 = .ok (.dup, 1))))
    (kx_sL (ks_getI hx hb hts X.1.2.2.2.1 X.2.1 kf_2 (j := 5) rfl kw_202 (by decide +kernel : decode cX2_expect 106 = .ok (.getfield 27, 3)))))
    (kx_sB (kx_sL (ks_iconst hx hb (by decide +kernel) (by decide +kernel : decode cX2_expect 109 = .ok (.iconst 1, 1))))
    (kx_sB (kx_sL (ks_iadd hx hb (by decide +kernel : decode cX2_expect 110 = .ok (.iadd, 1))))
    (kx_sL (ks_putI hx hb hts X.1.2.2.2.1 X.2.1 kf_2 (j := 5) rfl kw_202 (by decide +kernel) (by decide +kernel) (by decide +kernel : decode cX2_expect 111 = .ok (.putfield 27, 3)))))))
    (kx_sB (kx_sB (kx_sL (ks_aload_n hx hb rfl (by decide +kernel : decode cX2_expect 114 = .ok (.aload_n 0, 1))))
    (kx_sL (ks_getI hx hb hts X.1.2.2.2.1 X.2.1 kf_2 (j := 5) rfl kw_202 (by decide +kernel : decode cX2_expect 115 = .ok (.getfield 27, 3)))))
    (kx_sB (kx_sL (ks_iconst hx hb (by decide +kernel) (by decide +kernel : decode cX2_expect 118 = .ok (.iconst 1, 1))))
    (kx_sB (kx_sL (ks_isub hx hb (by decide +kernel : decode cX2_expect 119 = .ok (.isub, 1))))
    (kx_sL (ks_iret Z hx hb hr (by decide +kernel : decode cX2_expect 120 = .ok (.ireturn, 1))))))))))))
def tb_X2_firstPlaceOf : Nat → kx_T := (kx_br 27 (kx_br 14 (kx_br 6 (kx_br 2 (kx_br 1 (kx_lf 0 (ki_ic (0) 1)) (kx_lf 1 (ki_istore 2 2))) (kx_br 3 (kx_lf 2 (ki_aload 0 3)) (kx_lf 3 (ki_getI 2 5 6)))) (kx_br 8 (kx_br 7 (kx_lf 6 (ki_istore 3 7)) (kx_lf 7 (ki_ic (0) 8))) (kx_br 10 (kx_lf 8 (ki_istore 4 10)) (kx_br 12 (kx_lf 10 (ki_iload 4 12)) (kx_lf 12 (ki_ic (32) 14)))))) (kx_br 22 (kx_br 18 (kx_br 17 (kx_lf 14 (ki_icmp_ge 60 17)) (kx_lf 17 (ki_iload 2 18))) (kx_br 19 (kx_lf 18 (ki_iload 3 19)) (kx_lf 19 (ki_icmp_ge 60 22)))) (kx_br 24 (kx_br 23 (kx_lf 22 (ki_iload 2 23)) (kx_lf 23 (ki_iload 3 24))) (kx_br 25 (kx_lf 24 (ki_iadd 25)) (kx_br 26 (kx_lf 25 (ki_ic (2) 26)) (kx_lf 26 (ki_idiv 27))))))) (kx_br 45 (kx_br 33 (kx_br 30 (kx_br 29 (kx_lf 27 (ki_istore 5 29)) (kx_lf 29 (ki_aload 0 30))) (kx_br 31 (kx_lf 30 (ki_aload 0 31)) (kx_lf 31 (ki_iload 5 33)))) (kx_br 39 (kx_br 36 (kx_lf 33 (ki_cv 2 1 2 sp_X2_shipInPlace 36)) (kx_lf 36 (ki_cv 2 1 2 sp_X2_hourOf 39))) (kx_br 40 (kx_lf 39 (ki_iload 1 40)) (kx_br 43 (kx_lf 40 (ki_icmp_ge 51 43)) (kx_lf 43 (ki_iload 5 45)))))) (kx_br 53 (kx_br 47 (kx_br 46 (kx_lf 45 (ki_ic (1) 46)) (kx_lf 46 (ki_iadd 47))) (kx_br 48 (kx_lf 47 (ki_istore 2 48)) (kx_br 51 (kx_lf 48 (ki_goto 54)) (kx_lf 51 (ki_iload 5 53))))) (kx_br 57 (kx_br 54 (kx_lf 53 (ki_istore 3 54)) (kx_lf 54 (ki_iinc 4 (1) 57))) (kx_br 60 (kx_lf 57 (ki_goto 10)) (kx_br 61 (kx_lf 60 (ki_iload 2 61)) (kx_lf 61 (ki_iret))))))))
def sp_X2_firstPlaceOf : kx_Sp := kx_sp tb_X2_firstPlaceOf 6
set_option maxRecDepth 100000 in
set_option maxHeartbeats 4000000 in
theorem kc_X2_firstPlaceOf (l : Launch) : kx_ok1 l yX2_firstPlaceOf (kx_wd yX2_firstPlaceOf cX2_firstPlaceOf 6 (some .int)) ({ frames := 2, cells := 0, slots := 0, locals := 43 }) sp_X2_firstPlaceOf 6 0 0 := kx_met (by decide) ⟨rfl, rfl⟩ (fun p e s m args below meth c Q D C4 A cnt0 ad0 P X Z hr hn => by
  have hx := X.1.1
  have hb := X.1.2.1
  have hts := X.1.2.2.2.2
  exact (kx_sB (kx_sB (kx_sB (kx_sB (kx_sB (kx_sL (ks_iconst hx hb (by decide +kernel) (by decide +kernel : decode cX2_firstPlaceOf 0 = .ok (.iconst 0, 1))))
    (kx_sL (ks_istore_n hx hb rfl (by decide) (by decide +kernel : decode cX2_firstPlaceOf 1 = .ok (.istore_n 2, 1)))))
    (kx_sB (kx_sL (ks_aload_n hx hb rfl (by decide +kernel : decode cX2_firstPlaceOf 2 = .ok (.aload_n 0, 1))))
    (kx_sL (ks_getI hx hb hts X.1.2.2.2.1 X.2.1 kf_2 (j := 5) rfl kw_202 (by decide +kernel : decode cX2_firstPlaceOf 3 = .ok (.getfield 27, 3))))))
    (kx_sB (kx_sB (kx_sL (ks_istore_n hx hb rfl (by decide) (by decide +kernel : decode cX2_firstPlaceOf 6 = .ok (.istore_n 3, 1))))
    (kx_sL (ks_iconst hx hb (by decide +kernel) (by decide +kernel : decode cX2_firstPlaceOf 7 = .ok (.iconst 0, 1)))))
    (kx_sB (kx_sL (ks_istore hx hb (by decide) (by decide +kernel : decode cX2_firstPlaceOf 8 = .ok (.istore 4, 2))))
    (kx_sB (kx_sL (ks_iload hx hb (by decide +kernel : decode cX2_firstPlaceOf 10 = .ok (.iload 4, 2))))
    (kx_sL (ks_bipush hx hb (by decide +kernel) (by decide +kernel : decode cX2_firstPlaceOf 12 = .ok (.bipush 32, 2))))))))
    (kx_sB (kx_sB (kx_sB (kx_sL (ks_icmp_ge hx hb (by decide) (by decide +kernel : decode cX2_firstPlaceOf 14 = .ok (.if_icmp .ge 46, 3))))
    (kx_sL (ks_iload_n hx hb rfl (by decide +kernel : decode cX2_firstPlaceOf 17 = .ok (.iload_n 2, 1)))))
    (kx_sB (kx_sL (ks_iload_n hx hb rfl (by decide +kernel : decode cX2_firstPlaceOf 18 = .ok (.iload_n 3, 1))))
    (kx_sL (ks_icmp_ge hx hb (by decide) (by decide +kernel : decode cX2_firstPlaceOf 19 = .ok (.if_icmp .ge 41, 3))))))
    (kx_sB (kx_sB (kx_sL (ks_iload_n hx hb rfl (by decide +kernel : decode cX2_firstPlaceOf 22 = .ok (.iload_n 2, 1))))
    (kx_sL (ks_iload_n hx hb rfl (by decide +kernel : decode cX2_firstPlaceOf 23 = .ok (.iload_n 3, 1)))))
    (kx_sB (kx_sL (ks_iadd hx hb (by decide +kernel : decode cX2_firstPlaceOf 24 = .ok (.iadd, 1))))
    (kx_sB (kx_sL (ks_iconst hx hb (by decide +kernel) (by decide +kernel : decode cX2_firstPlaceOf 25 = .ok (.iconst 2, 1))))
    (kx_sL (ks_idiv hx hb (by decide +kernel : decode cX2_firstPlaceOf 26 = .ok (.idiv, 1)))))))))
    (kx_sB (kx_sB (kx_sB (kx_sB (kx_sL (ks_istore hx hb (by decide) (by decide +kernel : decode cX2_firstPlaceOf 27 = .ok (.istore 5, 2))))
    (kx_sL (ks_aload_n hx hb rfl (by decide +kernel : decode cX2_firstPlaceOf 29 = .ok (.aload_n 0, 1)))))
    (kx_sB (kx_sL (ks_aload_n hx hb rfl (by decide +kernel : decode cX2_firstPlaceOf 30 = .ok (.aload_n 0, 1))))
    (kx_sL (ks_iload hx hb (by decide +kernel : decode cX2_firstPlaceOf 31 = .ok (.iload 5, 2))))))
    (kx_sB (kx_sB (kx_sL (ks_cv X (kc_X2_shipInPlace l) ⟨rfl, rfl⟩ kf_2 kw_698 kw_699 kw_700 kw_701 kw_8 (by decide +kernel) (by decide) (by decide +kernel : decode cX2_firstPlaceOf 33 = .ok (.invokevirtual 39, 3))))
    (kx_sL (ks_cv X (kc_X2_hourOf l) ⟨rfl, rfl⟩ kf_2 kw_707 kw_493 kw_494 kw_495 kw_8 (by decide +kernel) (by decide) (by decide +kernel : decode cX2_firstPlaceOf 36 = .ok (.invokevirtual 47, 3)))))
    (kx_sB (kx_sL (ks_iload_n hx hb rfl (by decide +kernel : decode cX2_firstPlaceOf 39 = .ok (.iload_n 1, 1))))
    (kx_sB (kx_sL (ks_icmp_ge hx hb (by decide) (by decide +kernel : decode cX2_firstPlaceOf 40 = .ok (.if_icmp .ge 11, 3))))
    (kx_sL (ks_iload hx hb (by decide +kernel : decode cX2_firstPlaceOf 43 = .ok (.iload 5, 2))))))))
    (kx_sB (kx_sB (kx_sB (kx_sL (ks_iconst hx hb (by decide +kernel) (by decide +kernel : decode cX2_firstPlaceOf 45 = .ok (.iconst 1, 1))))
    (kx_sL (ks_iadd hx hb (by decide +kernel : decode cX2_firstPlaceOf 46 = .ok (.iadd, 1)))))
    (kx_sB (kx_sL (ks_istore_n hx hb rfl (by decide) (by decide +kernel : decode cX2_firstPlaceOf 47 = .ok (.istore_n 2, 1))))
    (kx_sB (kx_sL (ks_goto hx hb (by decide) (by decide +kernel : decode cX2_firstPlaceOf 48 = .ok (.goto 6, 3))))
    (kx_sL (ks_iload hx hb (by decide +kernel : decode cX2_firstPlaceOf 51 = .ok (.iload 5, 2)))))))
    (kx_sB (kx_sB (kx_sL (ks_istore_n hx hb rfl (by decide) (by decide +kernel : decode cX2_firstPlaceOf 53 = .ok (.istore_n 3, 1))))
    (kx_sL (ks_iinc hx hb (by decide +kernel) (by decide) (by decide +kernel : decode cX2_firstPlaceOf 54 = .ok (.iinc 4 1, 3)))))
    (kx_sB (kx_sL (ks_goto hx hb (by decide) (by decide +kernel : decode cX2_firstPlaceOf 57 = .ok (.goto (-47), 3))))
    (kx_sB (kx_sL (ks_iload_n hx hb rfl (by decide +kernel : decode cX2_firstPlaceOf 60 = .ok (.iload_n 2, 1))))
    (kx_sL (ks_iret Z hx hb hr (by decide +kernel : decode cX2_firstPlaceOf 61 = .ok (.ireturn, 1)))))))))))
def tb_X2_isPlaceOf : Nat → kx_T := (kx_br 14 (kx_br 6 (kx_br 2 (kx_br 1 (kx_lf 0 (ki_aload 0 1)) (kx_lf 1 (ki_aload 0 2))) (kx_br 3 (kx_lf 2 (ki_iload 2 3)) (kx_lf 3 (ki_cv 2 1 2 sp_X2_shipInPlace 6)))) (kx_br 12 (kx_br 9 (kx_lf 6 (ki_cv 2 1 2 sp_X2_has 9)) (kx_lf 9 (ki_if_eq 29 12))) (kx_br 13 (kx_lf 12 (ki_aload 0 13)) (kx_lf 13 (ki_aload 0 14))))) (kx_br 22 (kx_br 18 (kx_br 15 (kx_lf 14 (ki_iload 2 15)) (kx_lf 15 (ki_cv 2 1 2 sp_X2_shipInPlace 18))) (kx_br 21 (kx_lf 18 (ki_cv 2 1 2 sp_X2_hourOf 21)) (kx_lf 21 (ki_iload 1 22)))) (kx_br 26 (kx_br 25 (kx_lf 22 (ki_icmp_ne 29 25)) (kx_lf 25 (ki_ic (1) 26))) (kx_br 29 (kx_lf 26 (ki_goto 30)) (kx_br 30 (kx_lf 29 (ki_ic (0) 30)) (kx_lf 30 (ki_zret)))))))
def sp_X2_isPlaceOf : kx_Sp := kx_sp tb_X2_isPlaceOf 3
set_option maxRecDepth 100000 in
set_option maxHeartbeats 4000000 in
theorem kc_X2_isPlaceOf (l : Launch) : kx_ok1 l yX2_isPlaceOf (kx_wd yX2_isPlaceOf cX2_isPlaceOf 3 (some .boolean)) ({ frames := 2, cells := 0, slots := 0, locals := 43 }) sp_X2_isPlaceOf 3 0 0 := kx_met (by decide) ⟨rfl, rfl⟩ (fun p e s m args below meth c Q D C4 A cnt0 ad0 P X Z hr hn => by
  have hx := X.1.1
  have hb := X.1.2.1
  have hts := X.1.2.2.2.2
  exact (kx_sB (kx_sB (kx_sB (kx_sB (kx_sL (ks_aload_n hx hb rfl (by decide +kernel : decode cX2_isPlaceOf 0 = .ok (.aload_n 0, 1))))
    (kx_sL (ks_aload_n hx hb rfl (by decide +kernel : decode cX2_isPlaceOf 1 = .ok (.aload_n 0, 1)))))
    (kx_sB (kx_sL (ks_iload_n hx hb rfl (by decide +kernel : decode cX2_isPlaceOf 2 = .ok (.iload_n 2, 1))))
    (kx_sL (ks_cv X (kc_X2_shipInPlace l) ⟨rfl, rfl⟩ kf_2 kw_698 kw_699 kw_700 kw_701 kw_8 (by decide +kernel) (by decide) (by decide +kernel : decode cX2_isPlaceOf 3 = .ok (.invokevirtual 39, 3))))))
    (kx_sB (kx_sB (kx_sL (ks_cv X (kc_X2_has l) ⟨rfl, rfl⟩ kf_2 kw_481 kw_454 kw_455 kw_456 kw_8 (by decide +kernel) (by decide) (by decide +kernel : decode cX2_isPlaceOf 6 = .ok (.invokevirtual 31, 3))))
    (kx_sL (ks_if_eq hx hb (by decide) (by decide +kernel : decode cX2_isPlaceOf 9 = .ok (.ifCond .eq 20, 3)))))
    (kx_sB (kx_sL (ks_aload_n hx hb rfl (by decide +kernel : decode cX2_isPlaceOf 12 = .ok (.aload_n 0, 1))))
    (kx_sL (ks_aload_n hx hb rfl (by decide +kernel : decode cX2_isPlaceOf 13 = .ok (.aload_n 0, 1)))))))
    (kx_sB (kx_sB (kx_sB (kx_sL (ks_iload_n hx hb rfl (by decide +kernel : decode cX2_isPlaceOf 14 = .ok (.iload_n 2, 1))))
    (kx_sL (ks_cv X (kc_X2_shipInPlace l) ⟨rfl, rfl⟩ kf_2 kw_698 kw_699 kw_700 kw_701 kw_8 (by decide +kernel) (by decide) (by decide +kernel : decode cX2_isPlaceOf 15 = .ok (.invokevirtual 39, 3)))))
    (kx_sB (kx_sL (ks_cv X (kc_X2_hourOf l) ⟨rfl, rfl⟩ kf_2 kw_707 kw_493 kw_494 kw_495 kw_8 (by decide +kernel) (by decide) (by decide +kernel : decode cX2_isPlaceOf 18 = .ok (.invokevirtual 47, 3))))
    (kx_sL (ks_iload_n hx hb rfl (by decide +kernel : decode cX2_isPlaceOf 21 = .ok (.iload_n 1, 1))))))
    (kx_sB (kx_sB (kx_sL (ks_icmp_ne hx hb (by decide) (by decide +kernel : decode cX2_isPlaceOf 22 = .ok (.if_icmp .ne 7, 3))))
    (kx_sL (ks_iconst hx hb (by decide +kernel) (by decide +kernel : decode cX2_isPlaceOf 25 = .ok (.iconst 1, 1)))))
    (kx_sB (kx_sL (ks_goto hx hb (by decide) (by decide +kernel : decode cX2_isPlaceOf 26 = .ok (.goto 4, 3))))
    (kx_sB (kx_sL (ks_iconst hx hb (by decide +kernel) (by decide +kernel : decode cX2_isPlaceOf 29 = .ok (.iconst 0, 1))))
    (kx_sL (ks_zret Z hx hb hr (by decide +kernel : decode cX2_isPlaceOf 30 = .ok (.ireturn, 1))))))))))
def tb_X2_becameOf : Nat → kx_T := (kx_br 13 (kx_br 5 (kx_br 1 (kx_lf 0 (ki_aload 0 1)) (kx_br 2 (kx_lf 1 (ki_iload 1 2)) (kx_lf 2 (ki_cv 2 1 2 sp_X2_has 5)))) (kx_br 9 (kx_br 8 (kx_lf 5 (ki_if_eq 22 8)) (kx_lf 8 (ki_aload 0 9))) (kx_br 12 (kx_lf 9 (ki_getR 2 2 27 (fun o => o) 12)) (kx_lf 12 (ki_iload 1 13))))) (kx_br 19 (kx_br 15 (kx_br 14 (kx_lf 13 (ki_iload 2 14)) (kx_lf 14 (ki_iast 15))) (kx_br 16 (kx_lf 15 (ki_aload 0 16)) (kx_lf 16 (ki_getR 2 3 28 (fun o => o) 19)))) (kx_br 21 (kx_br 20 (kx_lf 19 (ki_iload 1 20)) (kx_lf 20 (ki_iload 3 21))) (kx_br 22 (kx_lf 21 (ki_iast 22)) (kx_lf 22 (ki_vret))))))
def sp_X2_becameOf : kx_Sp := kx_sp tb_X2_becameOf 4
set_option maxRecDepth 100000 in
set_option maxHeartbeats 4000000 in
theorem kc_X2_becameOf (l : Launch) : kx_ok1 l yX2_becameOf (kx_wd yX2_becameOf cX2_becameOf 4 none) ({ frames := 1, cells := 0, slots := 0, locals := 21 }) sp_X2_becameOf 4 0 0 := kx_met (by decide) ⟨rfl, rfl⟩ (fun p e s m args below meth c Q D C4 A cnt0 ad0 P X Z hr hn => by
  have hx := X.1.1
  have hb := X.1.2.1
  have hts := X.1.2.2.2.2
  exact (kx_sB (kx_sB (kx_sB (kx_sL (ks_aload_n hx hb rfl (by decide +kernel : decode cX2_becameOf 0 = .ok (.aload_n 0, 1))))
    (kx_sB (kx_sL (ks_iload_n hx hb rfl (by decide +kernel : decode cX2_becameOf 1 = .ok (.iload_n 1, 1))))
    (kx_sL (ks_cv X (kc_X2_has l) ⟨rfl, rfl⟩ kf_2 kw_481 kw_454 kw_455 kw_456 kw_8 (by decide +kernel) (by decide) (by decide +kernel : decode cX2_becameOf 2 = .ok (.invokevirtual 31, 3))))))
    (kx_sB (kx_sB (kx_sL (ks_if_eq hx hb (by decide) (by decide +kernel : decode cX2_becameOf 5 = .ok (.ifCond .eq 17, 3))))
    (kx_sL (ks_aload_n hx hb rfl (by decide +kernel : decode cX2_becameOf 8 = .ok (.aload_n 0, 1)))))
    (kx_sB (kx_sL (ks_getR hx hb hts X.1.2.2.2.1 X.2.1 kf_2 (j := 2) rfl kw_199 (by decide +kernel : decode cX2_becameOf 9 = .ok (.getfield 18, 3))))
    (kx_sL (ks_iload_n hx hb rfl (by decide +kernel : decode cX2_becameOf 12 = .ok (.iload_n 1, 1)))))))
    (kx_sB (kx_sB (kx_sB (kx_sL (ks_iload_n hx hb rfl (by decide +kernel : decode cX2_becameOf 13 = .ok (.iload_n 2, 1))))
    (kx_sL (ks_iast hx hb X.2.1 (by decide +kernel : decode cX2_becameOf 14 = .ok (.iastore, 1)))))
    (kx_sB (kx_sL (ks_aload_n hx hb rfl (by decide +kernel : decode cX2_becameOf 15 = .ok (.aload_n 0, 1))))
    (kx_sL (ks_getR hx hb hts X.1.2.2.2.1 X.2.1 kf_2 (j := 3) rfl kw_200 (by decide +kernel : decode cX2_becameOf 16 = .ok (.getfield 21, 3))))))
    (kx_sB (kx_sB (kx_sL (ks_iload_n hx hb rfl (by decide +kernel : decode cX2_becameOf 19 = .ok (.iload_n 1, 1))))
    (kx_sL (ks_iload_n hx hb rfl (by decide +kernel : decode cX2_becameOf 20 = .ok (.iload_n 3, 1)))))
    (kx_sB (kx_sL (ks_iast hx hb X.2.1 (by decide +kernel : decode cX2_becameOf 21 = .ok (.iastore, 1))))
    (kx_sL (ks_vret Z hx hb hr (by decide +kernel : decode cX2_becameOf 22 = .ok (.return_, 1)))))))))
def tb_X10_kindAbove : Nat → kx_T := (kx_br 48 (kx_br 45 (kx_br 1 (kx_lf 0 (ki_iload 0 1)) (kx_br 44 (kx_lf 1 (ki_sw [((1), 44), ((2), 44), ((3), 46), ((4), 46), ((5), 48), ((6), 48), ((7), 50)] 53)) (kx_lf 44 (ki_ic (0) 45)))) (kx_br 46 (kx_lf 45 (ki_iret)) (kx_br 47 (kx_lf 46 (ki_ic (1) 47)) (kx_lf 47 (ki_iret))))) (kx_br 52 (kx_br 49 (kx_lf 48 (ki_ic (2) 49)) (kx_br 50 (kx_lf 49 (ki_iret)) (kx_lf 50 (ki_ic (6) 52)))) (kx_br 53 (kx_lf 52 (ki_iret)) (kx_br 54 (kx_lf 53 (ki_ic (-1) 54)) (kx_lf 54 (ki_iret))))))
def sp_X10_kindAbove : kx_Sp := kx_sp tb_X10_kindAbove 1
set_option maxRecDepth 100000 in
set_option maxHeartbeats 4000000 in
theorem kc_X10_kindAbove (l : Launch) : kx_ok1 l yX10_kindAbove (kx_wd yX10_kindAbove cX10_kindAbove 1 (some .int)) ({ frames := 0, cells := 0, slots := 0, locals := 0 }) sp_X10_kindAbove 1 0 0 := kx_met (by decide) ⟨rfl, rfl⟩ (fun p e s m args below meth c Q D C4 A cnt0 ad0 P X Z hr hn => by
  have hx := X.1.1
  have hb := X.1.2.1
  have hts := X.1.2.2.2.2
  exact (kx_sB (kx_sB (kx_sB (kx_sL (ks_iload_n hx hb rfl (by decide +kernel : decode cX10_kindAbove 0 = .ok (.iload_n 0, 1))))
    (kx_sB (kx_sL (ks_tab hx hb (by decide) (by decide +kernel) (by decide +kernel) (by decide +kernel : decode cX10_kindAbove 1 = .ok (.tableswitch 52 1 7 #[43, 43, 45, 45, 47, 47, 49], 43))))
    (kx_sL (ks_iconst hx hb (by decide +kernel) (by decide +kernel : decode cX10_kindAbove 44 = .ok (.iconst 0, 1))))))
    (kx_sB (kx_sL (ks_iret Z hx hb hr (by decide +kernel : decode cX10_kindAbove 45 = .ok (.ireturn, 1))))
    (kx_sB (kx_sL (ks_iconst hx hb (by decide +kernel) (by decide +kernel : decode cX10_kindAbove 46 = .ok (.iconst 1, 1))))
    (kx_sL (ks_iret Z hx hb hr (by decide +kernel : decode cX10_kindAbove 47 = .ok (.ireturn, 1)))))))
    (kx_sB (kx_sB (kx_sL (ks_iconst hx hb (by decide +kernel) (by decide +kernel : decode cX10_kindAbove 48 = .ok (.iconst 2, 1))))
    (kx_sB (kx_sL (ks_iret Z hx hb hr (by decide +kernel : decode cX10_kindAbove 49 = .ok (.ireturn, 1))))
    (kx_sL (ks_bipush hx hb (by decide +kernel) (by decide +kernel : decode cX10_kindAbove 50 = .ok (.bipush 6, 2))))))
    (kx_sB (kx_sL (ks_iret Z hx hb hr (by decide +kernel : decode cX10_kindAbove 52 = .ok (.ireturn, 1))))
    (kx_sB (kx_sL (ks_iconst hx hb (by decide +kernel) (by decide +kernel : decode cX10_kindAbove 53 = .ok (.iconst (-1), 1))))
    (kx_sL (ks_iret Z hx hb hr (by decide +kernel : decode cX10_kindAbove 54 = .ok (.ireturn, 1)))))))))
def tb_X10_isUnder : Nat → kx_T := (kx_br 16 (kx_br 5 (kx_br 2 (kx_br 1 (kx_lf 0 (ki_iload 0 1)) (kx_lf 1 (ki_istore 2 2))) (kx_br 3 (kx_lf 2 (ki_ic (0) 3)) (kx_br 4 (kx_lf 3 (ki_istore 3 4)) (kx_lf 4 (ki_iload 3 5))))) (kx_br 11 (kx_br 7 (kx_lf 5 (ki_ic (7) 7)) (kx_br 10 (kx_lf 7 (ki_icmp_gt 33 10)) (kx_lf 10 (ki_iload 2 11)))) (kx_br 12 (kx_lf 11 (ki_ic (-1) 12)) (kx_br 15 (kx_lf 12 (ki_icmp_eq 33 15)) (kx_lf 15 (ki_iload 2 16)))))) (kx_br 23 (kx_br 20 (kx_br 17 (kx_lf 16 (ki_iload 1 17)) (kx_lf 17 (ki_icmp_ne 22 20))) (kx_br 21 (kx_lf 20 (ki_ic (1) 21)) (kx_br 22 (kx_lf 21 (ki_zret)) (kx_lf 22 (ki_iload 2 23))))) (kx_br 30 (kx_br 26 (kx_lf 23 (ki_cs 1 1 sp_X10_kindAbove 26)) (kx_br 27 (kx_lf 26 (ki_istore 2 27)) (kx_lf 27 (ki_iinc 3 (1) 30)))) (kx_br 33 (kx_lf 30 (ki_goto 4)) (kx_br 34 (kx_lf 33 (ki_ic (0) 34)) (kx_lf 34 (ki_zret)))))))
def sp_X10_isUnder : kx_Sp := kx_sp tb_X10_isUnder 4
set_option maxRecDepth 100000 in
set_option maxHeartbeats 4000000 in
theorem kc_X10_isUnder (l : Launch) : kx_ok1 l yX10_isUnder (kx_wd yX10_isUnder cX10_isUnder 4 (some .boolean)) ({ frames := 1, cells := 0, slots := 0, locals := 20 }) sp_X10_isUnder 4 0 0 := kx_met (by decide) ⟨rfl, rfl⟩ (fun p e s m args below meth c Q D C4 A cnt0 ad0 P X Z hr hn => by
  have hx := X.1.1
  have hb := X.1.2.1
  have hts := X.1.2.2.2.2
  exact (kx_sB (kx_sB (kx_sB (kx_sB (kx_sL (ks_iload_n hx hb rfl (by decide +kernel : decode cX10_isUnder 0 = .ok (.iload_n 0, 1))))
    (kx_sL (ks_istore_n hx hb rfl (by decide) (by decide +kernel : decode cX10_isUnder 1 = .ok (.istore_n 2, 1)))))
    (kx_sB (kx_sL (ks_iconst hx hb (by decide +kernel) (by decide +kernel : decode cX10_isUnder 2 = .ok (.iconst 0, 1))))
    (kx_sB (kx_sL (ks_istore_n hx hb rfl (by decide) (by decide +kernel : decode cX10_isUnder 3 = .ok (.istore_n 3, 1))))
    (kx_sL (ks_iload_n hx hb rfl (by decide +kernel : decode cX10_isUnder 4 = .ok (.iload_n 3, 1)))))))
    (kx_sB (kx_sB (kx_sL (ks_bipush hx hb (by decide +kernel) (by decide +kernel : decode cX10_isUnder 5 = .ok (.bipush 7, 2))))
    (kx_sB (kx_sL (ks_icmp_gt hx hb (by decide) (by decide +kernel : decode cX10_isUnder 7 = .ok (.if_icmp .gt 26, 3))))
    (kx_sL (ks_iload_n hx hb rfl (by decide +kernel : decode cX10_isUnder 10 = .ok (.iload_n 2, 1))))))
    (kx_sB (kx_sL (ks_iconst hx hb (by decide +kernel) (by decide +kernel : decode cX10_isUnder 11 = .ok (.iconst (-1), 1))))
    (kx_sB (kx_sL (ks_icmp_eq hx hb (by decide) (by decide +kernel : decode cX10_isUnder 12 = .ok (.if_icmp .eq 21, 3))))
    (kx_sL (ks_iload_n hx hb rfl (by decide +kernel : decode cX10_isUnder 15 = .ok (.iload_n 2, 1))))))))
    (kx_sB (kx_sB (kx_sB (kx_sL (ks_iload_n hx hb rfl (by decide +kernel : decode cX10_isUnder 16 = .ok (.iload_n 1, 1))))
    (kx_sL (ks_icmp_ne hx hb (by decide) (by decide +kernel : decode cX10_isUnder 17 = .ok (.if_icmp .ne 5, 3)))))
    (kx_sB (kx_sL (ks_iconst hx hb (by decide +kernel) (by decide +kernel : decode cX10_isUnder 20 = .ok (.iconst 1, 1))))
    (kx_sB (kx_sL (ks_zret Z hx hb hr (by decide +kernel : decode cX10_isUnder 21 = .ok (.ireturn, 1))))
    (kx_sL (ks_iload_n hx hb rfl (by decide +kernel : decode cX10_isUnder 22 = .ok (.iload_n 2, 1)))))))
    (kx_sB (kx_sB (kx_sL (ks_cs X (kc_X10_kindAbove l) ⟨rfl, rfl⟩ kw_485 kw_486 kw_487 kw_1 (by decide +kernel) (by decide) (by decide +kernel : decode cX10_isUnder 23 = .ok (.invokestatic 395, 3))))
    (kx_sB (kx_sL (ks_istore_n hx hb rfl (by decide) (by decide +kernel : decode cX10_isUnder 26 = .ok (.istore_n 2, 1))))
    (kx_sL (ks_iinc hx hb (by decide +kernel) (by decide) (by decide +kernel : decode cX10_isUnder 27 = .ok (.iinc 3 1, 3))))))
    (kx_sB (kx_sL (ks_goto hx hb (by decide) (by decide +kernel : decode cX10_isUnder 30 = .ok (.goto (-26), 3))))
    (kx_sB (kx_sL (ks_iconst hx hb (by decide +kernel) (by decide +kernel : decode cX10_isUnder 33 = .ok (.iconst 0, 1))))
    (kx_sL (ks_zret Z hx hb hr (by decide +kernel : decode cX10_isUnder 34 = .ok (.ireturn, 1))))))))))
def tb_X2_countFates : Nat → kx_T := (kx_br 22 (kx_br 8 (kx_br 3 (kx_br 1 (kx_lf 0 (ki_ic (0) 1)) (kx_br 2 (kx_lf 1 (ki_istore 3 2)) (kx_lf 2 (ki_ic (0) 3)))) (kx_br 5 (kx_lf 3 (ki_istore 4 5)) (kx_br 7 (kx_lf 5 (ki_iload 4 7)) (kx_lf 7 (ki_aload 0 8))))) (kx_br 15 (kx_br 11 (kx_lf 8 (ki_getI 2 5 11)) (kx_br 14 (kx_lf 11 (ki_icmp_ge 48 14)) (kx_lf 14 (ki_aload 0 15)))) (kx_br 20 (kx_br 18 (kx_lf 15 (ki_getR 2 2 27 (fun o => o) 18)) (kx_lf 18 (ki_iload 4 20))) (kx_br 21 (kx_lf 20 (ki_iald 21)) (kx_lf 21 (ki_iload 2 22)))))) (kx_br 33 (kx_br 29 (kx_br 25 (kx_lf 22 (ki_icmp_ne 42 25)) (kx_br 26 (kx_lf 25 (ki_aload 0 26)) (kx_lf 26 (ki_getR 2 0 25 (fun o => o) 29)))) (kx_br 31 (kx_lf 29 (ki_iload 4 31)) (kx_br 32 (kx_lf 31 (ki_iald 32)) (kx_lf 32 (ki_iload 1 33))))) (kx_br 42 (kx_br 36 (kx_lf 33 (ki_cs 2 4 sp_X10_isUnder 36)) (kx_br 39 (kx_lf 36 (ki_if_eq 42 39)) (kx_lf 39 (ki_iinc 3 (1) 42)))) (kx_br 48 (kx_br 45 (kx_lf 42 (ki_iinc 4 (1) 45)) (kx_lf 45 (ki_goto 5))) (kx_br 49 (kx_lf 48 (ki_iload 3 49)) (kx_lf 49 (ki_iret)))))))
def sp_X2_countFates : kx_Sp := kx_sp tb_X2_countFates 5
set_option maxRecDepth 100000 in
set_option maxHeartbeats 4000000 in
theorem kc_X2_countFates (l : Launch) : kx_ok1 l yX2_countFates (kx_wd yX2_countFates cX2_countFates 5 (some .int)) ({ frames := 2, cells := 0, slots := 0, locals := 43 }) sp_X2_countFates 5 0 0 := kx_met (by decide) ⟨rfl, rfl⟩ (fun p e s m args below meth c Q D C4 A cnt0 ad0 P X Z hr hn => by
  have hx := X.1.1
  have hb := X.1.2.1
  have hts := X.1.2.2.2.2
  exact (kx_sB (kx_sB (kx_sB (kx_sB (kx_sL (ks_iconst hx hb (by decide +kernel) (by decide +kernel : decode cX2_countFates 0 = .ok (.iconst 0, 1))))
    (kx_sB (kx_sL (ks_istore_n hx hb rfl (by decide) (by decide +kernel : decode cX2_countFates 1 = .ok (.istore_n 3, 1))))
    (kx_sL (ks_iconst hx hb (by decide +kernel) (by decide +kernel : decode cX2_countFates 2 = .ok (.iconst 0, 1))))))
    (kx_sB (kx_sL (ks_istore hx hb (by decide) (by decide +kernel : decode cX2_countFates 3 = .ok (.istore 4, 2))))
    (kx_sB (kx_sL (ks_iload hx hb (by decide +kernel : decode cX2_countFates 5 = .ok (.iload 4, 2))))
    (kx_sL (ks_aload_n hx hb rfl (by decide +kernel : decode cX2_countFates 7 = .ok (.aload_n 0, 1)))))))
    (kx_sB (kx_sB (kx_sL (ks_getI hx hb hts X.1.2.2.2.1 X.2.1 kf_2 (j := 5) rfl kw_202 (by decide +kernel : decode cX2_countFates 8 = .ok (.getfield 27, 3))))
    (kx_sB (kx_sL (ks_icmp_ge hx hb (by decide) (by decide +kernel : decode cX2_countFates 11 = .ok (.if_icmp .ge 37, 3))))
    (kx_sL (ks_aload_n hx hb rfl (by decide +kernel : decode cX2_countFates 14 = .ok (.aload_n 0, 1))))))
    (kx_sB (kx_sB (kx_sL (ks_getR hx hb hts X.1.2.2.2.1 X.2.1 kf_2 (j := 2) rfl kw_199 (by decide +kernel : decode cX2_countFates 15 = .ok (.getfield 18, 3))))
    (kx_sL (ks_iload hx hb (by decide +kernel : decode cX2_countFates 18 = .ok (.iload 4, 2)))))
    (kx_sB (kx_sL (ks_iald hx hb X.2.1 (by decide +kernel : decode cX2_countFates 20 = .ok (.iaload, 1))))
    (kx_sL (ks_iload_n hx hb rfl (by decide +kernel : decode cX2_countFates 21 = .ok (.iload_n 2, 1))))))))
    (kx_sB (kx_sB (kx_sB (kx_sL (ks_icmp_ne hx hb (by decide) (by decide +kernel : decode cX2_countFates 22 = .ok (.if_icmp .ne 20, 3))))
    (kx_sB (kx_sL (ks_aload_n hx hb rfl (by decide +kernel : decode cX2_countFates 25 = .ok (.aload_n 0, 1))))
    (kx_sL (ks_getR hx hb hts X.1.2.2.2.1 X.2.1 kf_2 (j := 0) rfl kw_197 (by decide +kernel : decode cX2_countFates 26 = .ok (.getfield 9, 3))))))
    (kx_sB (kx_sL (ks_iload hx hb (by decide +kernel : decode cX2_countFates 29 = .ok (.iload 4, 2))))
    (kx_sB (kx_sL (ks_iald hx hb X.2.1 (by decide +kernel : decode cX2_countFates 31 = .ok (.iaload, 1))))
    (kx_sL (ks_iload_n hx hb rfl (by decide +kernel : decode cX2_countFates 32 = .ok (.iload_n 1, 1)))))))
    (kx_sB (kx_sB (kx_sL (ks_csN X (kc_X10_isUnder l) ⟨rfl, rfl⟩ (host := "KeptLight") (by decide +kernel) kw_483 kw_484 kw_1 (by decide +kernel) (by decide) (by decide +kernel : decode cX2_countFates 33 = .ok (.invokestatic 56, 3))))
    (kx_sB (kx_sL (ks_if_eq hx hb (by decide) (by decide +kernel : decode cX2_countFates 36 = .ok (.ifCond .eq 6, 3))))
    (kx_sL (ks_iinc hx hb (by decide +kernel) (by decide) (by decide +kernel : decode cX2_countFates 39 = .ok (.iinc 3 1, 3))))))
    (kx_sB (kx_sB (kx_sL (ks_iinc hx hb (by decide +kernel) (by decide) (by decide +kernel : decode cX2_countFates 42 = .ok (.iinc 4 1, 3))))
    (kx_sL (ks_goto hx hb (by decide) (by decide +kernel : decode cX2_countFates 45 = .ok (.goto (-40), 3)))))
    (kx_sB (kx_sL (ks_iload_n hx hb rfl (by decide +kernel : decode cX2_countFates 48 = .ok (.iload_n 3, 1))))
    (kx_sL (ks_iret Z hx hb hr (by decide +kernel : decode cX2_countFates 49 = .ok (.ireturn, 1))))))))))
def tb_X2_become : Nat → kx_T := (kx_br 42 (kx_br 21 (kx_br 9 (kx_br 4 (kx_br 1 (kx_lf 0 (ki_aload 1 1)) (kx_lf 1 (ki_getR 2 0 25 (fun o => o) 4))) (kx_br 5 (kx_lf 4 (ki_ic (0) 5)) (kx_br 6 (kx_lf 5 (ki_aload 0 6)) (kx_lf 6 (ki_getR 2 0 25 (fun o => o) 9))))) (kx_br 16 (kx_br 10 (kx_lf 9 (ki_ic (0) 10)) (kx_br 13 (kx_lf 10 (ki_ic (200) 13)) (kx_lf 13 (ki_acopy 16)))) (kx_br 17 (kx_lf 16 (ki_aload 1 17)) (kx_br 20 (kx_lf 17 (ki_getR 2 1 26 (fun o => o) 20)) (kx_lf 20 (ki_ic (0) 21)))))) (kx_br 32 (kx_br 25 (kx_br 22 (kx_lf 21 (ki_aload 0 22)) (kx_lf 22 (ki_getR 2 1 26 (fun o => o) 25))) (kx_br 26 (kx_lf 25 (ki_ic (0) 26)) (kx_br 29 (kx_lf 26 (ki_ic (200) 29)) (kx_lf 29 (ki_acopy 32))))) (kx_br 37 (kx_br 33 (kx_lf 32 (ki_aload 1 33)) (kx_br 36 (kx_lf 33 (ki_getR 2 2 27 (fun o => o) 36)) (kx_lf 36 (ki_ic (0) 37)))) (kx_br 38 (kx_lf 37 (ki_aload 0 38)) (kx_br 41 (kx_lf 38 (ki_getR 2 2 27 (fun o => o) 41)) (kx_lf 41 (ki_ic (0) 42))))))) (kx_br 65 (kx_br 53 (kx_br 48 (kx_br 45 (kx_lf 42 (ki_ic (200) 45)) (kx_lf 45 (ki_acopy 48))) (kx_br 49 (kx_lf 48 (ki_aload 1 49)) (kx_br 52 (kx_lf 49 (ki_getR 2 3 28 (fun o => o) 52)) (kx_lf 52 (ki_ic (0) 53))))) (kx_br 58 (kx_br 54 (kx_lf 53 (ki_aload 0 54)) (kx_br 57 (kx_lf 54 (ki_getR 2 3 28 (fun o => o) 57)) (kx_lf 57 (ki_ic (0) 58)))) (kx_br 61 (kx_lf 58 (ki_ic (200) 61)) (kx_br 64 (kx_lf 61 (ki_acopy 64)) (kx_lf 64 (ki_aload 1 65)))))) (kx_br 77 (kx_br 70 (kx_br 68 (kx_lf 65 (ki_getR 2 4 29 (fun o => o) 68)) (kx_br 69 (kx_lf 68 (ki_ic (0) 69)) (kx_lf 69 (ki_aload 0 70)))) (kx_br 73 (kx_lf 70 (ki_getR 2 4 29 (fun o => o) 73)) (kx_br 74 (kx_lf 73 (ki_ic (0) 74)) (kx_lf 74 (ki_ic (200) 77))))) (kx_br 82 (kx_br 80 (kx_lf 77 (ki_acopy 80)) (kx_br 81 (kx_lf 80 (ki_aload 0 81)) (kx_lf 81 (ki_aload 1 82)))) (kx_br 85 (kx_lf 82 (ki_getI 2 5 85)) (kx_br 88 (kx_lf 85 (ki_putI 2 5 88)) (kx_lf 88 (ki_vret))))))))
def sp_X2_become : kx_Sp := kx_sp tb_X2_become 2
set_option maxRecDepth 100000 in
set_option maxHeartbeats 4000000 in
theorem kc_X2_become (l : Launch) : kx_ok1 l yX2_become (kx_wd yX2_become cX2_become 2 none) ({ frames := 1, cells := 0, slots := 0, locals := 40 }) sp_X2_become 2 0 0 := kx_met (by decide) ⟨rfl, rfl⟩ (fun p e s m args below meth c Q D C4 A cnt0 ad0 P X Z hr hn => by
  have hx := X.1.1
  have hb := X.1.2.1
  have hts := X.1.2.2.2.2
  exact (kx_sB (kx_sB (kx_sB (kx_sB (kx_sB (kx_sL (ks_aload_n hx hb rfl (by decide +kernel : decode cX2_become 0 = .ok (.aload_n 1, 1))))
    (kx_sL (ks_getR hx hb hts X.1.2.2.2.1 X.2.1 kf_2 (j := 0) rfl kw_197 (by decide +kernel : decode cX2_become 1 = .ok (.getfield 9, 3)))))
    (kx_sB (kx_sL (ks_iconst hx hb (by decide +kernel) (by decide +kernel : decode cX2_become 4 = .ok (.iconst 0, 1))))
    (kx_sB (kx_sL (ks_aload_n hx hb rfl (by decide +kernel : decode cX2_become 5 = .ok (.aload_n 0, 1))))
    (kx_sL (ks_getR hx hb hts X.1.2.2.2.1 X.2.1 kf_2 (j := 0) rfl kw_197 (by decide +kernel : decode cX2_become 6 = .ok (.getfield 9, 3)))))))
    (kx_sB (kx_sB (kx_sL (ks_iconst hx hb (by decide +kernel) (by decide +kernel : decode cX2_become 9 = .ok (.iconst 0, 1))))
    (kx_sB (kx_sL (ks_sipush hx hb (by decide +kernel) (by decide +kernel : decode cX2_become 10 = .ok (.sipush 200, 3))))
    (kx_sL (ks_acopy hx hb X.2.1 hts X.1.2.2.1 X.1.2.2.2.1 kw_1010 kw_432 kw_431 kw_14 (by decide) (by decide +kernel) (by decide +kernel : decode cX2_become 13 = .ok (.invokestatic 60, 3))))))
    (kx_sB (kx_sL (ks_aload_n hx hb rfl (by decide +kernel : decode cX2_become 16 = .ok (.aload_n 1, 1))))
    (kx_sB (kx_sL (ks_getR hx hb hts X.1.2.2.2.1 X.2.1 kf_2 (j := 1) rfl kw_198 (by decide +kernel : decode cX2_become 17 = .ok (.getfield 15, 3))))
    (kx_sL (ks_iconst hx hb (by decide +kernel) (by decide +kernel : decode cX2_become 20 = .ok (.iconst 0, 1))))))))
    (kx_sB (kx_sB (kx_sB (kx_sL (ks_aload_n hx hb rfl (by decide +kernel : decode cX2_become 21 = .ok (.aload_n 0, 1))))
    (kx_sL (ks_getR hx hb hts X.1.2.2.2.1 X.2.1 kf_2 (j := 1) rfl kw_198 (by decide +kernel : decode cX2_become 22 = .ok (.getfield 15, 3)))))
    (kx_sB (kx_sL (ks_iconst hx hb (by decide +kernel) (by decide +kernel : decode cX2_become 25 = .ok (.iconst 0, 1))))
    (kx_sB (kx_sL (ks_sipush hx hb (by decide +kernel) (by decide +kernel : decode cX2_become 26 = .ok (.sipush 200, 3))))
    (kx_sL (ks_acopy hx hb X.2.1 hts X.1.2.2.1 X.1.2.2.2.1 kw_1010 kw_432 kw_431 kw_14 (by decide) (by decide +kernel) (by decide +kernel : decode cX2_become 29 = .ok (.invokestatic 60, 3)))))))
    (kx_sB (kx_sB (kx_sL (ks_aload_n hx hb rfl (by decide +kernel : decode cX2_become 32 = .ok (.aload_n 1, 1))))
    (kx_sB (kx_sL (ks_getR hx hb hts X.1.2.2.2.1 X.2.1 kf_2 (j := 2) rfl kw_199 (by decide +kernel : decode cX2_become 33 = .ok (.getfield 18, 3))))
    (kx_sL (ks_iconst hx hb (by decide +kernel) (by decide +kernel : decode cX2_become 36 = .ok (.iconst 0, 1))))))
    (kx_sB (kx_sL (ks_aload_n hx hb rfl (by decide +kernel : decode cX2_become 37 = .ok (.aload_n 0, 1))))
    (kx_sB (kx_sL (ks_getR hx hb hts X.1.2.2.2.1 X.2.1 kf_2 (j := 2) rfl kw_199 (by decide +kernel : decode cX2_become 38 = .ok (.getfield 18, 3))))
    (kx_sL (ks_iconst hx hb (by decide +kernel) (by decide +kernel : decode cX2_become 41 = .ok (.iconst 0, 1)))))))))
    (kx_sB (kx_sB (kx_sB (kx_sB (kx_sL (ks_sipush hx hb (by decide +kernel) (by decide +kernel : decode cX2_become 42 = .ok (.sipush 200, 3))))
    (kx_sL (ks_acopy hx hb X.2.1 hts X.1.2.2.1 X.1.2.2.2.1 kw_1010 kw_432 kw_431 kw_14 (by decide) (by decide +kernel) (by decide +kernel : decode cX2_become 45 = .ok (.invokestatic 60, 3)))))
    (kx_sB (kx_sL (ks_aload_n hx hb rfl (by decide +kernel : decode cX2_become 48 = .ok (.aload_n 1, 1))))
    (kx_sB (kx_sL (ks_getR hx hb hts X.1.2.2.2.1 X.2.1 kf_2 (j := 3) rfl kw_200 (by decide +kernel : decode cX2_become 49 = .ok (.getfield 21, 3))))
    (kx_sL (ks_iconst hx hb (by decide +kernel) (by decide +kernel : decode cX2_become 52 = .ok (.iconst 0, 1)))))))
    (kx_sB (kx_sB (kx_sL (ks_aload_n hx hb rfl (by decide +kernel : decode cX2_become 53 = .ok (.aload_n 0, 1))))
    (kx_sB (kx_sL (ks_getR hx hb hts X.1.2.2.2.1 X.2.1 kf_2 (j := 3) rfl kw_200 (by decide +kernel : decode cX2_become 54 = .ok (.getfield 21, 3))))
    (kx_sL (ks_iconst hx hb (by decide +kernel) (by decide +kernel : decode cX2_become 57 = .ok (.iconst 0, 1))))))
    (kx_sB (kx_sL (ks_sipush hx hb (by decide +kernel) (by decide +kernel : decode cX2_become 58 = .ok (.sipush 200, 3))))
    (kx_sB (kx_sL (ks_acopy hx hb X.2.1 hts X.1.2.2.1 X.1.2.2.2.1 kw_1010 kw_432 kw_431 kw_14 (by decide) (by decide +kernel) (by decide +kernel : decode cX2_become 61 = .ok (.invokestatic 60, 3))))
    (kx_sL (ks_aload_n hx hb rfl (by decide +kernel : decode cX2_become 64 = .ok (.aload_n 1, 1))))))))
    (kx_sB (kx_sB (kx_sB (kx_sL (ks_getR hx hb hts X.1.2.2.2.1 X.2.1 kf_2 (j := 4) rfl kw_201 (by decide +kernel : decode cX2_become 65 = .ok (.getfield 24, 3))))
    (kx_sB (kx_sL (ks_iconst hx hb (by decide +kernel) (by decide +kernel : decode cX2_become 68 = .ok (.iconst 0, 1))))
    (kx_sL (ks_aload_n hx hb rfl (by decide +kernel : decode cX2_become 69 = .ok (.aload_n 0, 1))))))
    (kx_sB (kx_sL (ks_getR hx hb hts X.1.2.2.2.1 X.2.1 kf_2 (j := 4) rfl kw_201 (by decide +kernel : decode cX2_become 70 = .ok (.getfield 24, 3))))
    (kx_sB (kx_sL (ks_iconst hx hb (by decide +kernel) (by decide +kernel : decode cX2_become 73 = .ok (.iconst 0, 1))))
    (kx_sL (ks_sipush hx hb (by decide +kernel) (by decide +kernel : decode cX2_become 74 = .ok (.sipush 200, 3)))))))
    (kx_sB (kx_sB (kx_sL (ks_acopy hx hb X.2.1 hts X.1.2.2.1 X.1.2.2.2.1 kw_1010 kw_432 kw_431 kw_14 (by decide) (by decide +kernel) (by decide +kernel : decode cX2_become 77 = .ok (.invokestatic 60, 3))))
    (kx_sB (kx_sL (ks_aload_n hx hb rfl (by decide +kernel : decode cX2_become 80 = .ok (.aload_n 0, 1))))
    (kx_sL (ks_aload_n hx hb rfl (by decide +kernel : decode cX2_become 81 = .ok (.aload_n 1, 1))))))
    (kx_sB (kx_sL (ks_getI hx hb hts X.1.2.2.2.1 X.2.1 kf_2 (j := 5) rfl kw_202 (by decide +kernel : decode cX2_become 82 = .ok (.getfield 27, 3))))
    (kx_sB (kx_sL (ks_putI hx hb hts X.1.2.2.2.1 X.2.1 kf_2 (j := 5) rfl kw_202 (by decide +kernel) (by decide +kernel) (by decide +kernel : decode cX2_become 85 = .ok (.putfield 27, 3))))
    (kx_sL (ks_vret Z hx hb hr (by decide +kernel : decode cX2_become 88 = .ok (.return_, 1)))))))))))
def tb_X3_has : Nat → kx_T := (kx_br 9 (kx_br 4 (kx_br 1 (kx_lf 0 (ki_iload 1 1)) (kx_lf 1 (ki_if_lt 16 4))) (kx_br 5 (kx_lf 4 (ki_iload 1 5)) (kx_br 6 (kx_lf 5 (ki_aload 0 6)) (kx_lf 6 (ki_getI 3 4 9))))) (kx_br 13 (kx_br 12 (kx_lf 9 (ki_icmp_ge 16 12)) (kx_lf 12 (ki_ic (1) 13))) (kx_br 16 (kx_lf 13 (ki_goto 17)) (kx_br 17 (kx_lf 16 (ki_ic (0) 17)) (kx_lf 17 (ki_zret))))))
def sp_X3_has : kx_Sp := kx_sp tb_X3_has 2
set_option maxRecDepth 100000 in
set_option maxHeartbeats 4000000 in
theorem kc_X3_has (l : Launch) : kx_ok1 l yX3_has (kx_wd yX3_has cX3_has 2 (some .boolean)) ({ frames := 0, cells := 0, slots := 0, locals := 0 }) sp_X3_has 2 0 0 := kx_met (by decide) ⟨rfl, rfl⟩ (fun p e s m args below meth c Q D C4 A cnt0 ad0 P X Z hr hn => by
  have hx := X.1.1
  have hb := X.1.2.1
  have hts := X.1.2.2.2.2
  exact (kx_sB (kx_sB (kx_sB (kx_sL (ks_iload_n hx hb rfl (by decide +kernel : decode cX3_has 0 = .ok (.iload_n 1, 1))))
    (kx_sL (ks_if_lt hx hb (by decide) (by decide +kernel : decode cX3_has 1 = .ok (.ifCond .lt 15, 3)))))
    (kx_sB (kx_sL (ks_iload_n hx hb rfl (by decide +kernel : decode cX3_has 4 = .ok (.iload_n 1, 1))))
    (kx_sB (kx_sL (ks_aload_n hx hb rfl (by decide +kernel : decode cX3_has 5 = .ok (.aload_n 0, 1))))
    (kx_sL (ks_getI hx hb hts X.1.2.2.2.1 X.2.1 kf_3 (j := 4) rfl kw_229 (by decide +kernel : decode cX3_has 6 = .ok (.getfield 24, 3)))))))
    (kx_sB (kx_sB (kx_sL (ks_icmp_ge hx hb (by decide) (by decide +kernel : decode cX3_has 9 = .ok (.if_icmp .ge 7, 3))))
    (kx_sL (ks_iconst hx hb (by decide +kernel) (by decide +kernel : decode cX3_has 12 = .ok (.iconst 1, 1)))))
    (kx_sB (kx_sL (ks_goto hx hb (by decide) (by decide +kernel : decode cX3_has 13 = .ok (.goto 4, 3))))
    (kx_sB (kx_sL (ks_iconst hx hb (by decide +kernel) (by decide +kernel : decode cX3_has 16 = .ok (.iconst 0, 1))))
    (kx_sL (ks_zret Z hx hb hr (by decide +kernel : decode cX3_has 17 = .ok (.ireturn, 1)))))))))
def tb_X3_write : Nat → kx_T := (kx_br 31 (kx_br 18 (kx_br 10 (kx_br 4 (kx_br 1 (kx_lf 0 (ki_aload 0 1)) (kx_lf 1 (ki_getI 3 4 4))) (kx_br 7 (kx_lf 4 (ki_ic (400) 7)) (kx_lf 7 (ki_icmp_ge 61 10)))) (kx_br 14 (kx_br 11 (kx_lf 10 (ki_aload 0 11)) (kx_lf 11 (ki_getR 3 0 30 (fun o => o) 14))) (kx_br 15 (kx_lf 14 (ki_aload 0 15)) (kx_lf 15 (ki_getI 3 4 18))))) (kx_br 24 (kx_br 20 (kx_br 19 (kx_lf 18 (ki_iload 1 19)) (kx_lf 19 (ki_iast 20))) (kx_br 21 (kx_lf 20 (ki_aload 0 21)) (kx_lf 21 (ki_getR 3 1 31 (fun o => o) 24)))) (kx_br 28 (kx_br 25 (kx_lf 24 (ki_aload 0 25)) (kx_lf 25 (ki_getI 3 4 28))) (kx_br 29 (kx_lf 28 (ki_iload 2 29)) (kx_br 30 (kx_lf 29 (ki_iast 30)) (kx_lf 30 (ki_aload 0 31))))))) (kx_br 48 (kx_br 39 (kx_br 35 (kx_br 34 (kx_lf 31 (ki_getR 3 2 32 (fun o => o) 34)) (kx_lf 34 (ki_aload 0 35))) (kx_br 38 (kx_lf 35 (ki_getI 3 4 38)) (kx_lf 38 (ki_iload 3 39)))) (kx_br 41 (kx_br 40 (kx_lf 39 (ki_iast 40)) (kx_lf 40 (ki_aload 0 41))) (kx_br 44 (kx_lf 41 (ki_getR 3 3 33 (fun o => o) 44)) (kx_br 45 (kx_lf 44 (ki_aload 0 45)) (kx_lf 45 (ki_getI 3 4 48)))))) (kx_br 53 (kx_br 51 (kx_br 50 (kx_lf 48 (ki_iload 4 50)) (kx_lf 50 (ki_iast 51))) (kx_br 52 (kx_lf 51 (ki_aload 0 52)) (kx_lf 52 (ki_dup 53)))) (kx_br 57 (kx_br 56 (kx_lf 53 (ki_getI 3 4 56)) (kx_lf 56 (ki_ic (1) 57))) (kx_br 58 (kx_lf 57 (ki_iadd 58)) (kx_br 61 (kx_lf 58 (ki_putI 3 4 61)) (kx_lf 61 (ki_vret))))))))
def sp_X3_write : kx_Sp := kx_sp tb_X3_write 5
set_option maxRecDepth 100000 in
set_option maxHeartbeats 4000000 in
theorem kc_X3_write (l : Launch) : kx_ok1 l yX3_write (kx_wd yX3_write cX3_write 5 none) ({ frames := 0, cells := 0, slots := 0, locals := 0 }) sp_X3_write 5 0 0 := kx_met (by decide) ⟨rfl, rfl⟩ (fun p e s m args below meth c Q D C4 A cnt0 ad0 P X Z hr hn => by
  have hx := X.1.1
  have hb := X.1.2.1
  have hts := X.1.2.2.2.2
  exact (kx_sB (kx_sB (kx_sB (kx_sB (kx_sB (kx_sL (ks_aload_n hx hb rfl (by decide +kernel : decode cX3_write 0 = .ok (.aload_n 0, 1))))
    (kx_sL (ks_getI hx hb hts X.1.2.2.2.1 X.2.1 kf_3 (j := 4) rfl kw_229 (by decide +kernel : decode cX3_write 1 = .ok (.getfield 24, 3)))))
    (kx_sB (kx_sL (ks_sipush hx hb (by decide +kernel) (by decide +kernel : decode cX3_write 4 = .ok (.sipush 400, 3))))
    (kx_sL (ks_icmp_ge hx hb (by decide) (by decide +kernel : decode cX3_write 7 = .ok (.if_icmp .ge 54, 3))))))
    (kx_sB (kx_sB (kx_sL (ks_aload_n hx hb rfl (by decide +kernel : decode cX3_write 10 = .ok (.aload_n 0, 1))))
    (kx_sL (ks_getR hx hb hts X.1.2.2.2.1 X.2.1 kf_3 (j := 0) rfl kw_225 (by decide +kernel : decode cX3_write 11 = .ok (.getfield 11, 3)))))
    (kx_sB (kx_sL (ks_aload_n hx hb rfl (by decide +kernel : decode cX3_write 14 = .ok (.aload_n 0, 1))))
    (kx_sL (ks_getI hx hb hts X.1.2.2.2.1 X.2.1 kf_3 (j := 4) rfl kw_229 (by decide +kernel : decode cX3_write 15 = .ok (.getfield 24, 3)))))))
    (kx_sB (kx_sB (kx_sB (kx_sL (ks_iload_n hx hb rfl (by decide +kernel : decode cX3_write 18 = .ok (.iload_n 1, 1))))
    (kx_sL (ks_iast hx hb X.2.1 (by decide +kernel : decode cX3_write 19 = .ok (.iastore, 1)))))
    (kx_sB (kx_sL (ks_aload_n hx hb rfl (by decide +kernel : decode cX3_write 20 = .ok (.aload_n 0, 1))))
    (kx_sL (ks_getR hx hb hts X.1.2.2.2.1 X.2.1 kf_3 (j := 1) rfl kw_226 (by decide +kernel : decode cX3_write 21 = .ok (.getfield 15, 3))))))
    (kx_sB (kx_sB (kx_sL (ks_aload_n hx hb rfl (by decide +kernel : decode cX3_write 24 = .ok (.aload_n 0, 1))))
    (kx_sL (ks_getI hx hb hts X.1.2.2.2.1 X.2.1 kf_3 (j := 4) rfl kw_229 (by decide +kernel : decode cX3_write 25 = .ok (.getfield 24, 3)))))
    (kx_sB (kx_sL (ks_iload_n hx hb rfl (by decide +kernel : decode cX3_write 28 = .ok (.iload_n 2, 1))))
    (kx_sB (kx_sL (ks_iast hx hb X.2.1 (by decide +kernel : decode cX3_write 29 = .ok (.iastore, 1))))
    (kx_sL (ks_aload_n hx hb rfl (by decide +kernel : decode cX3_write 30 = .ok (.aload_n 0, 1)))))))))
    (kx_sB (kx_sB (kx_sB (kx_sB (kx_sL (ks_getR hx hb hts X.1.2.2.2.1 X.2.1 kf_3 (j := 2) rfl kw_227 (by decide +kernel : decode cX3_write 31 = .ok (.getfield 18, 3))))
    (kx_sL (ks_aload_n hx hb rfl (by decide +kernel : decode cX3_write 34 = .ok (.aload_n 0, 1)))))
    (kx_sB (kx_sL (ks_getI hx hb hts X.1.2.2.2.1 X.2.1 kf_3 (j := 4) rfl kw_229 (by decide +kernel : decode cX3_write 35 = .ok (.getfield 24, 3))))
    (kx_sL (ks_iload_n hx hb rfl (by decide +kernel : decode cX3_write 38 = .ok (.iload_n 3, 1))))))
    (kx_sB (kx_sB (kx_sL (ks_iast hx hb X.2.1 (by decide +kernel : decode cX3_write 39 = .ok (.iastore, 1))))
    (kx_sL (ks_aload_n hx hb rfl (by decide +kernel : decode cX3_write 40 = .ok (.aload_n 0, 1)))))
    (kx_sB (kx_sL (ks_getR hx hb hts X.1.2.2.2.1 X.2.1 kf_3 (j := 3) rfl kw_228 (by decide +kernel : decode cX3_write 41 = .ok (.getfield 21, 3))))
    (kx_sB (kx_sL (ks_aload_n hx hb rfl (by decide +kernel : decode cX3_write 44 = .ok (.aload_n 0, 1))))
    (kx_sL (ks_getI hx hb hts X.1.2.2.2.1 X.2.1 kf_3 (j := 4) rfl kw_229 (by decide +kernel : decode cX3_write 45 = .ok (.getfield 24, 3))))))))
    (kx_sB (kx_sB (kx_sB (kx_sL (ks_iload hx hb (by decide +kernel : decode cX3_write 48 = .ok (.iload 4, 2))))
    (kx_sL (ks_iast hx hb X.2.1 (by decide +kernel : decode cX3_write 50 = .ok (.iastore, 1)))))
    (kx_sB (kx_sL (ks_aload_n hx hb rfl (by decide +kernel : decode cX3_write 51 = .ok (.aload_n 0, 1))))
    (kx_sL (ks_dup hx hb (by decide +kernel : decode cX3_write 52 = .ok (.dup, 1))))))
    (kx_sB (kx_sB (kx_sL (ks_getI hx hb hts X.1.2.2.2.1 X.2.1 kf_3 (j := 4) rfl kw_229 (by decide +kernel : decode cX3_write 53 = .ok (.getfield 24, 3))))
    (kx_sL (ks_iconst hx hb (by decide +kernel) (by decide +kernel : decode cX3_write 56 = .ok (.iconst 1, 1)))))
    (kx_sB (kx_sL (ks_iadd hx hb (by decide +kernel : decode cX3_write 57 = .ok (.iadd, 1))))
    (kx_sB (kx_sL (ks_putI hx hb hts X.1.2.2.2.1 X.2.1 kf_3 (j := 4) rfl kw_229 (by decide +kernel) (by decide +kernel) (by decide +kernel : decode cX3_write 58 = .ok (.putfield 24, 3))))
    (kx_sL (ks_vret Z hx hb hr (by decide +kernel : decode cX3_write 61 = .ok (.return_, 1)))))))))))
def tb_X3_hourOf : Nat → kx_T := (kx_br 9 (kx_br 2 (kx_br 1 (kx_lf 0 (ki_aload 0 1)) (kx_lf 1 (ki_iload 1 2))) (kx_br 5 (kx_lf 2 (ki_cv 3 1 2 sp_X3_has 5)) (kx_br 8 (kx_lf 5 (ki_if_eq 17 8)) (kx_lf 8 (ki_aload 0 9))))) (kx_br 14 (kx_br 12 (kx_lf 9 (ki_getR 3 0 30 (fun o => o) 12)) (kx_br 13 (kx_lf 12 (ki_iload 1 13)) (kx_lf 13 (ki_iald 14)))) (kx_br 17 (kx_lf 14 (ki_goto 18)) (kx_br 18 (kx_lf 17 (ki_ic (-1) 18)) (kx_lf 18 (ki_iret))))))
def sp_X3_hourOf : kx_Sp := kx_sp tb_X3_hourOf 2
set_option maxRecDepth 100000 in
set_option maxHeartbeats 4000000 in
theorem kc_X3_hourOf (l : Launch) : kx_ok1 l yX3_hourOf (kx_wd yX3_hourOf cX3_hourOf 2 (some .int)) ({ frames := 1, cells := 0, slots := 0, locals := 21 }) sp_X3_hourOf 2 0 0 := kx_met (by decide) ⟨rfl, rfl⟩ (fun p e s m args below meth c Q D C4 A cnt0 ad0 P X Z hr hn => by
  have hx := X.1.1
  have hb := X.1.2.1
  have hts := X.1.2.2.2.2
  exact (kx_sB (kx_sB (kx_sB (kx_sL (ks_aload_n hx hb rfl (by decide +kernel : decode cX3_hourOf 0 = .ok (.aload_n 0, 1))))
    (kx_sL (ks_iload_n hx hb rfl (by decide +kernel : decode cX3_hourOf 1 = .ok (.iload_n 1, 1)))))
    (kx_sB (kx_sL (ks_cv X (kc_X3_has l) ⟨rfl, rfl⟩ kf_3 kw_862 kw_855 kw_856 kw_857 kw_9 (by decide +kernel) (by decide) (by decide +kernel : decode cX3_hourOf 2 = .ok (.invokevirtual 28, 3))))
    (kx_sB (kx_sL (ks_if_eq hx hb (by decide) (by decide +kernel : decode cX3_hourOf 5 = .ok (.ifCond .eq 12, 3))))
    (kx_sL (ks_aload_n hx hb rfl (by decide +kernel : decode cX3_hourOf 8 = .ok (.aload_n 0, 1)))))))
    (kx_sB (kx_sB (kx_sL (ks_getR hx hb hts X.1.2.2.2.1 X.2.1 kf_3 (j := 0) rfl kw_225 (by decide +kernel : decode cX3_hourOf 9 = .ok (.getfield 11, 3))))
    (kx_sB (kx_sL (ks_iload_n hx hb rfl (by decide +kernel : decode cX3_hourOf 12 = .ok (.iload_n 1, 1))))
    (kx_sL (ks_iald hx hb X.2.1 (by decide +kernel : decode cX3_hourOf 13 = .ok (.iaload, 1))))))
    (kx_sB (kx_sL (ks_goto hx hb (by decide) (by decide +kernel : decode cX3_hourOf 14 = .ok (.goto 4, 3))))
    (kx_sB (kx_sL (ks_iconst hx hb (by decide +kernel) (by decide +kernel : decode cX3_hourOf 17 = .ok (.iconst (-1), 1))))
    (kx_sL (ks_iret Z hx hb hr (by decide +kernel : decode cX3_hourOf 18 = .ok (.ireturn, 1)))))))))
def tb_X3_sortOf : Nat → kx_T := (kx_br 9 (kx_br 2 (kx_br 1 (kx_lf 0 (ki_aload 0 1)) (kx_lf 1 (ki_iload 1 2))) (kx_br 5 (kx_lf 2 (ki_cv 3 1 2 sp_X3_has 5)) (kx_br 8 (kx_lf 5 (ki_if_eq 17 8)) (kx_lf 8 (ki_aload 0 9))))) (kx_br 14 (kx_br 12 (kx_lf 9 (ki_getR 3 1 31 (fun o => o) 12)) (kx_br 13 (kx_lf 12 (ki_iload 1 13)) (kx_lf 13 (ki_iald 14)))) (kx_br 17 (kx_lf 14 (ki_goto 18)) (kx_br 18 (kx_lf 17 (ki_ic (-1) 18)) (kx_lf 18 (ki_iret))))))
def sp_X3_sortOf : kx_Sp := kx_sp tb_X3_sortOf 2
set_option maxRecDepth 100000 in
set_option maxHeartbeats 4000000 in
theorem kc_X3_sortOf (l : Launch) : kx_ok1 l yX3_sortOf (kx_wd yX3_sortOf cX3_sortOf 2 (some .int)) ({ frames := 1, cells := 0, slots := 0, locals := 21 }) sp_X3_sortOf 2 0 0 := kx_met (by decide) ⟨rfl, rfl⟩ (fun p e s m args below meth c Q D C4 A cnt0 ad0 P X Z hr hn => by
  have hx := X.1.1
  have hb := X.1.2.1
  have hts := X.1.2.2.2.2
  exact (kx_sB (kx_sB (kx_sB (kx_sL (ks_aload_n hx hb rfl (by decide +kernel : decode cX3_sortOf 0 = .ok (.aload_n 0, 1))))
    (kx_sL (ks_iload_n hx hb rfl (by decide +kernel : decode cX3_sortOf 1 = .ok (.iload_n 1, 1)))))
    (kx_sB (kx_sL (ks_cv X (kc_X3_has l) ⟨rfl, rfl⟩ kf_3 kw_862 kw_855 kw_856 kw_857 kw_9 (by decide +kernel) (by decide) (by decide +kernel : decode cX3_sortOf 2 = .ok (.invokevirtual 28, 3))))
    (kx_sB (kx_sL (ks_if_eq hx hb (by decide) (by decide +kernel : decode cX3_sortOf 5 = .ok (.ifCond .eq 12, 3))))
    (kx_sL (ks_aload_n hx hb rfl (by decide +kernel : decode cX3_sortOf 8 = .ok (.aload_n 0, 1)))))))
    (kx_sB (kx_sB (kx_sL (ks_getR hx hb hts X.1.2.2.2.1 X.2.1 kf_3 (j := 1) rfl kw_226 (by decide +kernel : decode cX3_sortOf 9 = .ok (.getfield 15, 3))))
    (kx_sB (kx_sL (ks_iload_n hx hb rfl (by decide +kernel : decode cX3_sortOf 12 = .ok (.iload_n 1, 1))))
    (kx_sL (ks_iald hx hb X.2.1 (by decide +kernel : decode cX3_sortOf 13 = .ok (.iaload, 1))))))
    (kx_sB (kx_sL (ks_goto hx hb (by decide) (by decide +kernel : decode cX3_sortOf 14 = .ok (.goto 4, 3))))
    (kx_sB (kx_sL (ks_iconst hx hb (by decide +kernel) (by decide +kernel : decode cX3_sortOf 17 = .ok (.iconst (-1), 1))))
    (kx_sL (ks_iret Z hx hb hr (by decide +kernel : decode cX3_sortOf 18 = .ok (.ireturn, 1)))))))))
def tb_X3_shipOfEntry : Nat → kx_T := (kx_br 9 (kx_br 2 (kx_br 1 (kx_lf 0 (ki_aload 0 1)) (kx_lf 1 (ki_iload 1 2))) (kx_br 5 (kx_lf 2 (ki_cv 3 1 2 sp_X3_has 5)) (kx_br 8 (kx_lf 5 (ki_if_eq 17 8)) (kx_lf 8 (ki_aload 0 9))))) (kx_br 14 (kx_br 12 (kx_lf 9 (ki_getR 3 2 32 (fun o => o) 12)) (kx_br 13 (kx_lf 12 (ki_iload 1 13)) (kx_lf 13 (ki_iald 14)))) (kx_br 17 (kx_lf 14 (ki_goto 18)) (kx_br 18 (kx_lf 17 (ki_ic (-1) 18)) (kx_lf 18 (ki_iret))))))
def sp_X3_shipOfEntry : kx_Sp := kx_sp tb_X3_shipOfEntry 2
set_option maxRecDepth 100000 in
set_option maxHeartbeats 4000000 in
theorem kc_X3_shipOfEntry (l : Launch) : kx_ok1 l yX3_shipOfEntry (kx_wd yX3_shipOfEntry cX3_shipOfEntry 2 (some .int)) ({ frames := 1, cells := 0, slots := 0, locals := 21 }) sp_X3_shipOfEntry 2 0 0 := kx_met (by decide) ⟨rfl, rfl⟩ (fun p e s m args below meth c Q D C4 A cnt0 ad0 P X Z hr hn => by
  have hx := X.1.1
  have hb := X.1.2.1
  have hts := X.1.2.2.2.2
  exact (kx_sB (kx_sB (kx_sB (kx_sL (ks_aload_n hx hb rfl (by decide +kernel : decode cX3_shipOfEntry 0 = .ok (.aload_n 0, 1))))
    (kx_sL (ks_iload_n hx hb rfl (by decide +kernel : decode cX3_shipOfEntry 1 = .ok (.iload_n 1, 1)))))
    (kx_sB (kx_sL (ks_cv X (kc_X3_has l) ⟨rfl, rfl⟩ kf_3 kw_862 kw_855 kw_856 kw_857 kw_9 (by decide +kernel) (by decide) (by decide +kernel : decode cX3_shipOfEntry 2 = .ok (.invokevirtual 28, 3))))
    (kx_sB (kx_sL (ks_if_eq hx hb (by decide) (by decide +kernel : decode cX3_shipOfEntry 5 = .ok (.ifCond .eq 12, 3))))
    (kx_sL (ks_aload_n hx hb rfl (by decide +kernel : decode cX3_shipOfEntry 8 = .ok (.aload_n 0, 1)))))))
    (kx_sB (kx_sB (kx_sL (ks_getR hx hb hts X.1.2.2.2.1 X.2.1 kf_3 (j := 2) rfl kw_227 (by decide +kernel : decode cX3_shipOfEntry 9 = .ok (.getfield 18, 3))))
    (kx_sB (kx_sL (ks_iload_n hx hb rfl (by decide +kernel : decode cX3_shipOfEntry 12 = .ok (.iload_n 1, 1))))
    (kx_sL (ks_iald hx hb X.2.1 (by decide +kernel : decode cX3_shipOfEntry 13 = .ok (.iaload, 1))))))
    (kx_sB (kx_sL (ks_goto hx hb (by decide) (by decide +kernel : decode cX3_shipOfEntry 14 = .ok (.goto 4, 3))))
    (kx_sB (kx_sL (ks_iconst hx hb (by decide +kernel) (by decide +kernel : decode cX3_shipOfEntry 17 = .ok (.iconst (-1), 1))))
    (kx_sL (ks_iret Z hx hb hr (by decide +kernel : decode cX3_shipOfEntry 18 = .ok (.ireturn, 1)))))))))
def tb_X3_writerOf : Nat → kx_T := (kx_br 9 (kx_br 2 (kx_br 1 (kx_lf 0 (ki_aload 0 1)) (kx_lf 1 (ki_iload 1 2))) (kx_br 5 (kx_lf 2 (ki_cv 3 1 2 sp_X3_has 5)) (kx_br 8 (kx_lf 5 (ki_if_eq 17 8)) (kx_lf 8 (ki_aload 0 9))))) (kx_br 14 (kx_br 12 (kx_lf 9 (ki_getR 3 3 33 (fun o => o) 12)) (kx_br 13 (kx_lf 12 (ki_iload 1 13)) (kx_lf 13 (ki_iald 14)))) (kx_br 17 (kx_lf 14 (ki_goto 18)) (kx_br 18 (kx_lf 17 (ki_ic (-1) 18)) (kx_lf 18 (ki_iret))))))
def sp_X3_writerOf : kx_Sp := kx_sp tb_X3_writerOf 2
set_option maxRecDepth 100000 in
set_option maxHeartbeats 4000000 in
theorem kc_X3_writerOf (l : Launch) : kx_ok1 l yX3_writerOf (kx_wd yX3_writerOf cX3_writerOf 2 (some .int)) ({ frames := 1, cells := 0, slots := 0, locals := 21 }) sp_X3_writerOf 2 0 0 := kx_met (by decide) ⟨rfl, rfl⟩ (fun p e s m args below meth c Q D C4 A cnt0 ad0 P X Z hr hn => by
  have hx := X.1.1
  have hb := X.1.2.1
  have hts := X.1.2.2.2.2
  exact (kx_sB (kx_sB (kx_sB (kx_sL (ks_aload_n hx hb rfl (by decide +kernel : decode cX3_writerOf 0 = .ok (.aload_n 0, 1))))
    (kx_sL (ks_iload_n hx hb rfl (by decide +kernel : decode cX3_writerOf 1 = .ok (.iload_n 1, 1)))))
    (kx_sB (kx_sL (ks_cv X (kc_X3_has l) ⟨rfl, rfl⟩ kf_3 kw_862 kw_855 kw_856 kw_857 kw_9 (by decide +kernel) (by decide) (by decide +kernel : decode cX3_writerOf 2 = .ok (.invokevirtual 28, 3))))
    (kx_sB (kx_sL (ks_if_eq hx hb (by decide) (by decide +kernel : decode cX3_writerOf 5 = .ok (.ifCond .eq 12, 3))))
    (kx_sL (ks_aload_n hx hb rfl (by decide +kernel : decode cX3_writerOf 8 = .ok (.aload_n 0, 1)))))))
    (kx_sB (kx_sB (kx_sL (ks_getR hx hb hts X.1.2.2.2.1 X.2.1 kf_3 (j := 3) rfl kw_228 (by decide +kernel : decode cX3_writerOf 9 = .ok (.getfield 21, 3))))
    (kx_sB (kx_sL (ks_iload_n hx hb rfl (by decide +kernel : decode cX3_writerOf 12 = .ok (.iload_n 1, 1))))
    (kx_sL (ks_iald hx hb X.2.1 (by decide +kernel : decode cX3_writerOf 13 = .ok (.iaload, 1))))))
    (kx_sB (kx_sL (ks_goto hx hb (by decide) (by decide +kernel : decode cX3_writerOf 14 = .ok (.goto 4, 3))))
    (kx_sB (kx_sL (ks_iconst hx hb (by decide +kernel) (by decide +kernel : decode cX3_writerOf 17 = .ok (.iconst (-1), 1))))
    (kx_sL (ks_iret Z hx hb hr (by decide +kernel : decode cX3_writerOf 18 = .ok (.ireturn, 1)))))))))
def tb_X3_countOf : Nat → kx_T := (kx_br 18 (kx_br 6 (kx_br 3 (kx_br 1 (kx_lf 0 (ki_ic (0) 1)) (kx_br 2 (kx_lf 1 (ki_istore 2 2)) (kx_lf 2 (ki_ic (0) 3)))) (kx_br 4 (kx_lf 3 (ki_istore 3 4)) (kx_br 5 (kx_lf 4 (ki_iload 3 5)) (kx_lf 5 (ki_aload 0 6))))) (kx_br 13 (kx_br 9 (kx_lf 6 (ki_getI 3 4 9)) (kx_br 12 (kx_lf 9 (ki_icmp_ge 36 12)) (kx_lf 12 (ki_iload 2 13)))) (kx_br 14 (kx_lf 13 (ki_aload 0 14)) (kx_br 17 (kx_lf 14 (ki_getR 3 1 31 (fun o => o) 17)) (kx_lf 17 (ki_iload 3 18)))))) (kx_br 28 (kx_br 23 (kx_br 19 (kx_lf 18 (ki_iald 19)) (kx_br 20 (kx_lf 19 (ki_iload 1 20)) (kx_lf 20 (ki_icmp_ne 27 23)))) (kx_br 24 (kx_lf 23 (ki_ic (1) 24)) (kx_br 27 (kx_lf 24 (ki_goto 28)) (kx_lf 27 (ki_ic (0) 28))))) (kx_br 33 (kx_br 29 (kx_lf 28 (ki_iadd 29)) (kx_br 30 (kx_lf 29 (ki_istore 2 30)) (kx_lf 30 (ki_iinc 3 (1) 33)))) (kx_br 36 (kx_lf 33 (ki_goto 4)) (kx_br 37 (kx_lf 36 (ki_iload 2 37)) (kx_lf 37 (ki_iret)))))))
def sp_X3_countOf : kx_Sp := kx_sp tb_X3_countOf 4
set_option maxRecDepth 100000 in
set_option maxHeartbeats 4000000 in
theorem kc_X3_countOf (l : Launch) : kx_ok1 l yX3_countOf (kx_wd yX3_countOf cX3_countOf 4 (some .int)) ({ frames := 0, cells := 0, slots := 0, locals := 0 }) sp_X3_countOf 4 0 0 := kx_met (by decide) ⟨rfl, rfl⟩ (fun p e s m args below meth c Q D C4 A cnt0 ad0 P X Z hr hn => by
  have hx := X.1.1
  have hb := X.1.2.1
  have hts := X.1.2.2.2.2
  exact (kx_sB (kx_sB (kx_sB (kx_sB (kx_sL (ks_iconst hx hb (by decide +kernel) (by decide +kernel : decode cX3_countOf 0 = .ok (.iconst 0, 1))))
    (kx_sB (kx_sL (ks_istore_n hx hb rfl (by decide) (by decide +kernel : decode cX3_countOf 1 = .ok (.istore_n 2, 1))))
    (kx_sL (ks_iconst hx hb (by decide +kernel) (by decide +kernel : decode cX3_countOf 2 = .ok (.iconst 0, 1))))))
    (kx_sB (kx_sL (ks_istore_n hx hb rfl (by decide) (by decide +kernel : decode cX3_countOf 3 = .ok (.istore_n 3, 1))))
    (kx_sB (kx_sL (ks_iload_n hx hb rfl (by decide +kernel : decode cX3_countOf 4 = .ok (.iload_n 3, 1))))
    (kx_sL (ks_aload_n hx hb rfl (by decide +kernel : decode cX3_countOf 5 = .ok (.aload_n 0, 1)))))))
    (kx_sB (kx_sB (kx_sL (ks_getI hx hb hts X.1.2.2.2.1 X.2.1 kf_3 (j := 4) rfl kw_229 (by decide +kernel : decode cX3_countOf 6 = .ok (.getfield 24, 3))))
    (kx_sB (kx_sL (ks_icmp_ge hx hb (by decide) (by decide +kernel : decode cX3_countOf 9 = .ok (.if_icmp .ge 27, 3))))
    (kx_sL (ks_iload_n hx hb rfl (by decide +kernel : decode cX3_countOf 12 = .ok (.iload_n 2, 1))))))
    (kx_sB (kx_sL (ks_aload_n hx hb rfl (by decide +kernel : decode cX3_countOf 13 = .ok (.aload_n 0, 1))))
    (kx_sB (kx_sL (ks_getR hx hb hts X.1.2.2.2.1 X.2.1 kf_3 (j := 1) rfl kw_226 (by decide +kernel : decode cX3_countOf 14 = .ok (.getfield 15, 3))))
    (kx_sL (ks_iload_n hx hb rfl (by decide +kernel : decode cX3_countOf 17 = .ok (.iload_n 3, 1))))))))
    (kx_sB (kx_sB (kx_sB (kx_sL (ks_iald hx hb X.2.1 (by decide +kernel : decode cX3_countOf 18 = .ok (.iaload, 1))))
    (kx_sB (kx_sL (ks_iload_n hx hb rfl (by decide +kernel : decode cX3_countOf 19 = .ok (.iload_n 1, 1))))
    (kx_sL (ks_icmp_ne hx hb (by decide) (by decide +kernel : decode cX3_countOf 20 = .ok (.if_icmp .ne 7, 3))))))
    (kx_sB (kx_sL (ks_iconst hx hb (by decide +kernel) (by decide +kernel : decode cX3_countOf 23 = .ok (.iconst 1, 1))))
    (kx_sB (kx_sL (ks_goto hx hb (by decide) (by decide +kernel : decode cX3_countOf 24 = .ok (.goto 4, 3))))
    (kx_sL (ks_iconst hx hb (by decide +kernel) (by decide +kernel : decode cX3_countOf 27 = .ok (.iconst 0, 1)))))))
    (kx_sB (kx_sB (kx_sL (ks_iadd hx hb (by decide +kernel : decode cX3_countOf 28 = .ok (.iadd, 1))))
    (kx_sB (kx_sL (ks_istore_n hx hb rfl (by decide) (by decide +kernel : decode cX3_countOf 29 = .ok (.istore_n 2, 1))))
    (kx_sL (ks_iinc hx hb (by decide +kernel) (by decide) (by decide +kernel : decode cX3_countOf 30 = .ok (.iinc 3 1, 3))))))
    (kx_sB (kx_sL (ks_goto hx hb (by decide) (by decide +kernel : decode cX3_countOf 33 = .ok (.goto (-29), 3))))
    (kx_sB (kx_sL (ks_iload_n hx hb rfl (by decide +kernel : decode cX3_countOf 36 = .ok (.iload_n 2, 1))))
    (kx_sL (ks_iret Z hx hb hr (by decide +kernel : decode cX3_countOf 37 = .ok (.ireturn, 1))))))))))
def tb_X3_become : Nat → kx_T := (kx_br 36 (kx_br 17 (kx_br 6 (kx_br 4 (kx_br 1 (kx_lf 0 (ki_aload 1 1)) (kx_lf 1 (ki_getR 3 0 30 (fun o => o) 4))) (kx_br 5 (kx_lf 4 (ki_ic (0) 5)) (kx_lf 5 (ki_aload 0 6)))) (kx_br 10 (kx_br 9 (kx_lf 6 (ki_getR 3 0 30 (fun o => o) 9)) (kx_lf 9 (ki_ic (0) 10))) (kx_br 13 (kx_lf 10 (ki_ic (400) 13)) (kx_br 16 (kx_lf 13 (ki_acopy 16)) (kx_lf 16 (ki_aload 1 17)))))) (kx_br 25 (kx_br 21 (kx_br 20 (kx_lf 17 (ki_getR 3 1 31 (fun o => o) 20)) (kx_lf 20 (ki_ic (0) 21))) (kx_br 22 (kx_lf 21 (ki_aload 0 22)) (kx_lf 22 (ki_getR 3 1 31 (fun o => o) 25)))) (kx_br 29 (kx_br 26 (kx_lf 25 (ki_ic (0) 26)) (kx_lf 26 (ki_ic (400) 29))) (kx_br 32 (kx_lf 29 (ki_acopy 32)) (kx_br 33 (kx_lf 32 (ki_aload 1 33)) (kx_lf 33 (ki_getR 3 2 32 (fun o => o) 36))))))) (kx_br 53 (kx_br 42 (kx_br 38 (kx_br 37 (kx_lf 36 (ki_ic (0) 37)) (kx_lf 37 (ki_aload 0 38))) (kx_br 41 (kx_lf 38 (ki_getR 3 2 32 (fun o => o) 41)) (kx_lf 41 (ki_ic (0) 42)))) (kx_br 48 (kx_br 45 (kx_lf 42 (ki_ic (400) 45)) (kx_lf 45 (ki_acopy 48))) (kx_br 49 (kx_lf 48 (ki_aload 1 49)) (kx_br 52 (kx_lf 49 (ki_getR 3 3 33 (fun o => o) 52)) (kx_lf 52 (ki_ic (0) 53)))))) (kx_br 64 (kx_br 57 (kx_br 54 (kx_lf 53 (ki_aload 0 54)) (kx_lf 54 (ki_getR 3 3 33 (fun o => o) 57))) (kx_br 58 (kx_lf 57 (ki_ic (0) 58)) (kx_br 61 (kx_lf 58 (ki_ic (400) 61)) (kx_lf 61 (ki_acopy 64))))) (kx_br 66 (kx_br 65 (kx_lf 64 (ki_aload 0 65)) (kx_lf 65 (ki_aload 1 66))) (kx_br 69 (kx_lf 66 (ki_getI 3 4 69)) (kx_br 72 (kx_lf 69 (ki_putI 3 4 72)) (kx_lf 72 (ki_vret))))))))
def sp_X3_become : kx_Sp := kx_sp tb_X3_become 2
set_option maxRecDepth 100000 in
set_option maxHeartbeats 4000000 in
theorem kc_X3_become (l : Launch) : kx_ok1 l yX3_become (kx_wd yX3_become cX3_become 2 none) ({ frames := 1, cells := 0, slots := 0, locals := 40 }) sp_X3_become 2 0 0 := kx_met (by decide) ⟨rfl, rfl⟩ (fun p e s m args below meth c Q D C4 A cnt0 ad0 P X Z hr hn => by
  have hx := X.1.1
  have hb := X.1.2.1
  have hts := X.1.2.2.2.2
  exact (kx_sB (kx_sB (kx_sB (kx_sB (kx_sB (kx_sL (ks_aload_n hx hb rfl (by decide +kernel : decode cX3_become 0 = .ok (.aload_n 1, 1))))
    (kx_sL (ks_getR hx hb hts X.1.2.2.2.1 X.2.1 kf_3 (j := 0) rfl kw_225 (by decide +kernel : decode cX3_become 1 = .ok (.getfield 11, 3)))))
    (kx_sB (kx_sL (ks_iconst hx hb (by decide +kernel) (by decide +kernel : decode cX3_become 4 = .ok (.iconst 0, 1))))
    (kx_sL (ks_aload_n hx hb rfl (by decide +kernel : decode cX3_become 5 = .ok (.aload_n 0, 1))))))
    (kx_sB (kx_sB (kx_sL (ks_getR hx hb hts X.1.2.2.2.1 X.2.1 kf_3 (j := 0) rfl kw_225 (by decide +kernel : decode cX3_become 6 = .ok (.getfield 11, 3))))
    (kx_sL (ks_iconst hx hb (by decide +kernel) (by decide +kernel : decode cX3_become 9 = .ok (.iconst 0, 1)))))
    (kx_sB (kx_sL (ks_sipush hx hb (by decide +kernel) (by decide +kernel : decode cX3_become 10 = .ok (.sipush 400, 3))))
    (kx_sB (kx_sL (ks_acopy hx hb X.2.1 hts X.1.2.2.1 X.1.2.2.2.1 kw_1015 kw_432 kw_431 kw_14 (by decide) (by decide +kernel) (by decide +kernel : decode cX3_become 13 = .ok (.invokestatic 32, 3))))
    (kx_sL (ks_aload_n hx hb rfl (by decide +kernel : decode cX3_become 16 = .ok (.aload_n 1, 1))))))))
    (kx_sB (kx_sB (kx_sB (kx_sL (ks_getR hx hb hts X.1.2.2.2.1 X.2.1 kf_3 (j := 1) rfl kw_226 (by decide +kernel : decode cX3_become 17 = .ok (.getfield 15, 3))))
    (kx_sL (ks_iconst hx hb (by decide +kernel) (by decide +kernel : decode cX3_become 20 = .ok (.iconst 0, 1)))))
    (kx_sB (kx_sL (ks_aload_n hx hb rfl (by decide +kernel : decode cX3_become 21 = .ok (.aload_n 0, 1))))
    (kx_sL (ks_getR hx hb hts X.1.2.2.2.1 X.2.1 kf_3 (j := 1) rfl kw_226 (by decide +kernel : decode cX3_become 22 = .ok (.getfield 15, 3))))))
    (kx_sB (kx_sB (kx_sL (ks_iconst hx hb (by decide +kernel) (by decide +kernel : decode cX3_become 25 = .ok (.iconst 0, 1))))
    (kx_sL (ks_sipush hx hb (by decide +kernel) (by decide +kernel : decode cX3_become 26 = .ok (.sipush 400, 3)))))
    (kx_sB (kx_sL (ks_acopy hx hb X.2.1 hts X.1.2.2.1 X.1.2.2.2.1 kw_1015 kw_432 kw_431 kw_14 (by decide) (by decide +kernel) (by decide +kernel : decode cX3_become 29 = .ok (.invokestatic 32, 3))))
    (kx_sB (kx_sL (ks_aload_n hx hb rfl (by decide +kernel : decode cX3_become 32 = .ok (.aload_n 1, 1))))
    (kx_sL (ks_getR hx hb hts X.1.2.2.2.1 X.2.1 kf_3 (j := 2) rfl kw_227 (by decide +kernel : decode cX3_become 33 = .ok (.getfield 18, 3)))))))))
    (kx_sB (kx_sB (kx_sB (kx_sB (kx_sL (ks_iconst hx hb (by decide +kernel) (by decide +kernel : decode cX3_become 36 = .ok (.iconst 0, 1))))
    (kx_sL (ks_aload_n hx hb rfl (by decide +kernel : decode cX3_become 37 = .ok (.aload_n 0, 1)))))
    (kx_sB (kx_sL (ks_getR hx hb hts X.1.2.2.2.1 X.2.1 kf_3 (j := 2) rfl kw_227 (by decide +kernel : decode cX3_become 38 = .ok (.getfield 18, 3))))
    (kx_sL (ks_iconst hx hb (by decide +kernel) (by decide +kernel : decode cX3_become 41 = .ok (.iconst 0, 1))))))
    (kx_sB (kx_sB (kx_sL (ks_sipush hx hb (by decide +kernel) (by decide +kernel : decode cX3_become 42 = .ok (.sipush 400, 3))))
    (kx_sL (ks_acopy hx hb X.2.1 hts X.1.2.2.1 X.1.2.2.2.1 kw_1015 kw_432 kw_431 kw_14 (by decide) (by decide +kernel) (by decide +kernel : decode cX3_become 45 = .ok (.invokestatic 32, 3)))))
    (kx_sB (kx_sL (ks_aload_n hx hb rfl (by decide +kernel : decode cX3_become 48 = .ok (.aload_n 1, 1))))
    (kx_sB (kx_sL (ks_getR hx hb hts X.1.2.2.2.1 X.2.1 kf_3 (j := 3) rfl kw_228 (by decide +kernel : decode cX3_become 49 = .ok (.getfield 21, 3))))
    (kx_sL (ks_iconst hx hb (by decide +kernel) (by decide +kernel : decode cX3_become 52 = .ok (.iconst 0, 1))))))))
    (kx_sB (kx_sB (kx_sB (kx_sL (ks_aload_n hx hb rfl (by decide +kernel : decode cX3_become 53 = .ok (.aload_n 0, 1))))
    (kx_sL (ks_getR hx hb hts X.1.2.2.2.1 X.2.1 kf_3 (j := 3) rfl kw_228 (by decide +kernel : decode cX3_become 54 = .ok (.getfield 21, 3)))))
    (kx_sB (kx_sL (ks_iconst hx hb (by decide +kernel) (by decide +kernel : decode cX3_become 57 = .ok (.iconst 0, 1))))
    (kx_sB (kx_sL (ks_sipush hx hb (by decide +kernel) (by decide +kernel : decode cX3_become 58 = .ok (.sipush 400, 3))))
    (kx_sL (ks_acopy hx hb X.2.1 hts X.1.2.2.1 X.1.2.2.2.1 kw_1015 kw_432 kw_431 kw_14 (by decide) (by decide +kernel) (by decide +kernel : decode cX3_become 61 = .ok (.invokestatic 32, 3)))))))
    (kx_sB (kx_sB (kx_sL (ks_aload_n hx hb rfl (by decide +kernel : decode cX3_become 64 = .ok (.aload_n 0, 1))))
    (kx_sL (ks_aload_n hx hb rfl (by decide +kernel : decode cX3_become 65 = .ok (.aload_n 1, 1)))))
    (kx_sB (kx_sL (ks_getI hx hb hts X.1.2.2.2.1 X.2.1 kf_3 (j := 4) rfl kw_229 (by decide +kernel : decode cX3_become 66 = .ok (.getfield 24, 3))))
    (kx_sB (kx_sL (ks_putI hx hb hts X.1.2.2.2.1 X.2.1 kf_3 (j := 4) rfl kw_229 (by decide +kernel) (by decide +kernel) (by decide +kernel : decode cX3_become 69 = .ok (.putfield 24, 3))))
    (kx_sL (ks_vret Z hx hb hr (by decide +kernel : decode cX3_become 72 = .ok (.return_, 1)))))))))))
def tb_X4_content : Nat → kx_T := (kx_br 1 (kx_lf 0 (ki_aload 0 1)) (kx_br 4 (kx_lf 1 (ki_getI 4 2 4)) (kx_lf 4 (ki_iret))))
def sp_X4_content : kx_Sp := kx_sp tb_X4_content 1
set_option maxRecDepth 100000 in
set_option maxHeartbeats 4000000 in
theorem kc_X4_content (l : Launch) : kx_ok1 l yX4_content (kx_wd yX4_content cX4_content 1 (some .int)) ({ frames := 0, cells := 0, slots := 0, locals := 0 }) sp_X4_content 1 0 0 := kx_met (by decide) ⟨rfl, rfl⟩ (fun p e s m args below meth c Q D C4 A cnt0 ad0 P X Z hr hn => by
  have hx := X.1.1
  have hb := X.1.2.1
  have hts := X.1.2.2.2.2
  exact (kx_sB (kx_sL (ks_aload_n hx hb rfl (by decide +kernel : decode cX4_content 0 = .ok (.aload_n 0, 1))))
    (kx_sB (kx_sL (ks_getI hx hb hts X.1.2.2.2.1 X.2.1 kf_4 (j := 2) rfl kw_327 (by decide +kernel : decode cX4_content 1 = .ok (.getfield 19, 3))))
    (kx_sL (ks_iret Z hx hb hr (by decide +kernel : decode cX4_content 4 = .ok (.ireturn, 1)))))))
def tb_X4_isEmpty : Nat → kx_T := (kx_br 8 (kx_br 4 (kx_br 1 (kx_lf 0 (ki_aload 0 1)) (kx_lf 1 (ki_getI 4 2 4))) (kx_br 5 (kx_lf 4 (ki_ic (-1) 5)) (kx_lf 5 (ki_icmp_ne 12 8)))) (kx_br 12 (kx_br 9 (kx_lf 8 (ki_ic (1) 9)) (kx_lf 9 (ki_goto 13))) (kx_br 13 (kx_lf 12 (ki_ic (0) 13)) (kx_lf 13 (ki_zret)))))
def sp_X4_isEmpty : kx_Sp := kx_sp tb_X4_isEmpty 1
set_option maxRecDepth 100000 in
set_option maxHeartbeats 4000000 in
theorem kc_X4_isEmpty (l : Launch) : kx_ok1 l yX4_isEmpty (kx_wd yX4_isEmpty cX4_isEmpty 1 (some .boolean)) ({ frames := 0, cells := 0, slots := 0, locals := 0 }) sp_X4_isEmpty 1 0 0 := kx_met (by decide) ⟨rfl, rfl⟩ (fun p e s m args below meth c Q D C4 A cnt0 ad0 P X Z hr hn => by
  have hx := X.1.1
  have hb := X.1.2.1
  have hts := X.1.2.2.2.2
  exact (kx_sB (kx_sB (kx_sB (kx_sL (ks_aload_n hx hb rfl (by decide +kernel : decode cX4_isEmpty 0 = .ok (.aload_n 0, 1))))
    (kx_sL (ks_getI hx hb hts X.1.2.2.2.1 X.2.1 kf_4 (j := 2) rfl kw_327 (by decide +kernel : decode cX4_isEmpty 1 = .ok (.getfield 19, 3)))))
    (kx_sB (kx_sL (ks_iconst hx hb (by decide +kernel) (by decide +kernel : decode cX4_isEmpty 4 = .ok (.iconst (-1), 1))))
    (kx_sL (ks_icmp_ne hx hb (by decide) (by decide +kernel : decode cX4_isEmpty 5 = .ok (.if_icmp .ne 7, 3))))))
    (kx_sB (kx_sB (kx_sL (ks_iconst hx hb (by decide +kernel) (by decide +kernel : decode cX4_isEmpty 8 = .ok (.iconst 1, 1))))
    (kx_sL (ks_goto hx hb (by decide) (by decide +kernel : decode cX4_isEmpty 9 = .ok (.goto 4, 3)))))
    (kx_sB (kx_sL (ks_iconst hx hb (by decide +kernel) (by decide +kernel : decode cX4_isEmpty 12 = .ok (.iconst 0, 1))))
    (kx_sL (ks_zret Z hx hb hr (by decide +kernel : decode cX4_isEmpty 13 = .ok (.ireturn, 1))))))))
def tb_X4_isShip : Nat → kx_T := (kx_br 9 (kx_br 4 (kx_br 1 (kx_lf 0 (ki_aload 0 1)) (kx_lf 1 (ki_getI 4 2 4))) (kx_br 6 (kx_lf 4 (ki_ic (10) 6)) (kx_lf 6 (ki_icmp_lt 13 9)))) (kx_br 13 (kx_br 10 (kx_lf 9 (ki_ic (1) 10)) (kx_lf 10 (ki_goto 14))) (kx_br 14 (kx_lf 13 (ki_ic (0) 14)) (kx_lf 14 (ki_zret)))))
def sp_X4_isShip : kx_Sp := kx_sp tb_X4_isShip 1
set_option maxRecDepth 100000 in
set_option maxHeartbeats 4000000 in
theorem kc_X4_isShip (l : Launch) : kx_ok1 l yX4_isShip (kx_wd yX4_isShip cX4_isShip 1 (some .boolean)) ({ frames := 0, cells := 0, slots := 0, locals := 0 }) sp_X4_isShip 1 0 0 := kx_met (by decide) ⟨rfl, rfl⟩ (fun p e s m args below meth c Q D C4 A cnt0 ad0 P X Z hr hn => by
  have hx := X.1.1
  have hb := X.1.2.1
  have hts := X.1.2.2.2.2
  exact (kx_sB (kx_sB (kx_sB (kx_sL (ks_aload_n hx hb rfl (by decide +kernel : decode cX4_isShip 0 = .ok (.aload_n 0, 1))))
    (kx_sL (ks_getI hx hb hts X.1.2.2.2.1 X.2.1 kf_4 (j := 2) rfl kw_327 (by decide +kernel : decode cX4_isShip 1 = .ok (.getfield 19, 3)))))
    (kx_sB (kx_sL (ks_bipush hx hb (by decide +kernel) (by decide +kernel : decode cX4_isShip 4 = .ok (.bipush 10, 2))))
    (kx_sL (ks_icmp_lt hx hb (by decide) (by decide +kernel : decode cX4_isShip 6 = .ok (.if_icmp .lt 7, 3))))))
    (kx_sB (kx_sB (kx_sL (ks_iconst hx hb (by decide +kernel) (by decide +kernel : decode cX4_isShip 9 = .ok (.iconst 1, 1))))
    (kx_sL (ks_goto hx hb (by decide) (by decide +kernel : decode cX4_isShip 10 = .ok (.goto 4, 3)))))
    (kx_sB (kx_sL (ks_iconst hx hb (by decide +kernel) (by decide +kernel : decode cX4_isShip 13 = .ok (.iconst 0, 1))))
    (kx_sL (ks_zret Z hx hb hr (by decide +kernel : decode cX4_isShip 14 = .ok (.ireturn, 1))))))))
def tb_X4_isOfSameSort : Nat → kx_T := (kx_br 8 (kx_br 4 (kx_br 1 (kx_lf 0 (ki_aload 0 1)) (kx_lf 1 (ki_getI 4 2 4))) (kx_br 5 (kx_lf 4 (ki_aload 1 5)) (kx_lf 5 (ki_getI 4 2 8)))) (kx_br 12 (kx_br 11 (kx_lf 8 (ki_icmp_ne 15 11)) (kx_lf 11 (ki_ic (1) 12))) (kx_br 15 (kx_lf 12 (ki_goto 16)) (kx_br 16 (kx_lf 15 (ki_ic (0) 16)) (kx_lf 16 (ki_zret))))))
def sp_X4_isOfSameSort : kx_Sp := kx_sp tb_X4_isOfSameSort 2
set_option maxRecDepth 100000 in
set_option maxHeartbeats 4000000 in
theorem kc_X4_isOfSameSort (l : Launch) : kx_ok1 l yX4_isOfSameSort (kx_wd yX4_isOfSameSort cX4_isOfSameSort 2 (some .boolean)) ({ frames := 0, cells := 0, slots := 0, locals := 0 }) sp_X4_isOfSameSort 2 0 0 := kx_met (by decide) ⟨rfl, rfl⟩ (fun p e s m args below meth c Q D C4 A cnt0 ad0 P X Z hr hn => by
  have hx := X.1.1
  have hb := X.1.2.1
  have hts := X.1.2.2.2.2
  exact (kx_sB (kx_sB (kx_sB (kx_sL (ks_aload_n hx hb rfl (by decide +kernel : decode cX4_isOfSameSort 0 = .ok (.aload_n 0, 1))))
    (kx_sL (ks_getI hx hb hts X.1.2.2.2.1 X.2.1 kf_4 (j := 2) rfl kw_327 (by decide +kernel : decode cX4_isOfSameSort 1 = .ok (.getfield 19, 3)))))
    (kx_sB (kx_sL (ks_aload_n hx hb rfl (by decide +kernel : decode cX4_isOfSameSort 4 = .ok (.aload_n 1, 1))))
    (kx_sL (ks_getI hx hb hts X.1.2.2.2.1 X.2.1 kf_4 (j := 2) rfl kw_327 (by decide +kernel : decode cX4_isOfSameSort 5 = .ok (.getfield 19, 3))))))
    (kx_sB (kx_sB (kx_sL (ks_icmp_ne hx hb (by decide) (by decide +kernel : decode cX4_isOfSameSort 8 = .ok (.if_icmp .ne 7, 3))))
    (kx_sL (ks_iconst hx hb (by decide +kernel) (by decide +kernel : decode cX4_isOfSameSort 11 = .ok (.iconst 1, 1)))))
    (kx_sB (kx_sL (ks_goto hx hb (by decide) (by decide +kernel : decode cX4_isOfSameSort 12 = .ok (.goto 4, 3))))
    (kx_sB (kx_sL (ks_iconst hx hb (by decide +kernel) (by decide +kernel : decode cX4_isOfSameSort 15 = .ok (.iconst 0, 1))))
    (kx_sL (ks_zret Z hx hb hr (by decide +kernel : decode cX4_isOfSameSort 16 = .ok (.ireturn, 1)))))))))
def tb_X4_shipNumber : Nat → kx_T := (kx_br 11 (kx_br 4 (kx_br 1 (kx_lf 0 (ki_aload 0 1)) (kx_lf 1 (ki_cv 4 0 1 sp_X4_isShip 4))) (kx_br 7 (kx_lf 4 (ki_if_eq 17 7)) (kx_br 8 (kx_lf 7 (ki_aload 0 8)) (kx_lf 8 (ki_getI 4 2 11))))) (kx_br 14 (kx_br 13 (kx_lf 11 (ki_ic (10) 13)) (kx_lf 13 (ki_isub 14))) (kx_br 17 (kx_lf 14 (ki_goto 18)) (kx_br 18 (kx_lf 17 (ki_ic (-1) 18)) (kx_lf 18 (ki_iret))))))
def sp_X4_shipNumber : kx_Sp := kx_sp tb_X4_shipNumber 1
set_option maxRecDepth 100000 in
set_option maxHeartbeats 4000000 in
theorem kc_X4_shipNumber (l : Launch) : kx_ok1 l yX4_shipNumber (kx_wd yX4_shipNumber cX4_shipNumber 1 (some .int)) ({ frames := 1, cells := 0, slots := 0, locals := 20 }) sp_X4_shipNumber 1 0 0 := kx_met (by decide) ⟨rfl, rfl⟩ (fun p e s m args below meth c Q D C4 A cnt0 ad0 P X Z hr hn => by
  have hx := X.1.1
  have hb := X.1.2.1
  have hts := X.1.2.2.2.2
  exact (kx_sB (kx_sB (kx_sB (kx_sL (ks_aload_n hx hb rfl (by decide +kernel : decode cX4_shipNumber 0 = .ok (.aload_n 0, 1))))
    (kx_sL (ks_cv X (kc_X4_isShip l) ⟨rfl, rfl⟩ kf_4 kw_476 kw_392 kw_393 kw_394 kw_12 (by decide +kernel) (by decide) (by decide +kernel : decode cX4_shipNumber 1 = .ok (.invokevirtual 22, 3)))))
    (kx_sB (kx_sL (ks_if_eq hx hb (by decide) (by decide +kernel : decode cX4_shipNumber 4 = .ok (.ifCond .eq 13, 3))))
    (kx_sB (kx_sL (ks_aload_n hx hb rfl (by decide +kernel : decode cX4_shipNumber 7 = .ok (.aload_n 0, 1))))
    (kx_sL (ks_getI hx hb hts X.1.2.2.2.1 X.2.1 kf_4 (j := 2) rfl kw_327 (by decide +kernel : decode cX4_shipNumber 8 = .ok (.getfield 19, 3)))))))
    (kx_sB (kx_sB (kx_sL (ks_bipush hx hb (by decide +kernel) (by decide +kernel : decode cX4_shipNumber 11 = .ok (.bipush 10, 2))))
    (kx_sL (ks_isub hx hb (by decide +kernel : decode cX4_shipNumber 13 = .ok (.isub, 1)))))
    (kx_sB (kx_sL (ks_goto hx hb (by decide) (by decide +kernel : decode cX4_shipNumber 14 = .ok (.goto 4, 3))))
    (kx_sB (kx_sL (ks_iconst hx hb (by decide +kernel) (by decide +kernel : decode cX4_shipNumber 17 = .ok (.iconst (-1), 1))))
    (kx_sL (ks_iret Z hx hb hr (by decide +kernel : decode cX4_shipNumber 18 = .ok (.ireturn, 1)))))))))
def tb_X4_takeNothing : Nat → kx_T := (kx_br 5 (kx_br 1 (kx_lf 0 (ki_aload 0 1)) (kx_br 2 (kx_lf 1 (ki_ic (-1) 2)) (kx_lf 2 (ki_putI 4 2 5)))) (kx_br 7 (kx_br 6 (kx_lf 5 (ki_aload 0 6)) (kx_lf 6 (ki_ic (0) 7))) (kx_br 10 (kx_lf 7 (ki_putI 4 1 10)) (kx_lf 10 (ki_vret)))))
def sp_X4_takeNothing : kx_Sp := kx_sp tb_X4_takeNothing 1
set_option maxRecDepth 100000 in
set_option maxHeartbeats 4000000 in
theorem kc_X4_takeNothing (l : Launch) : kx_ok1 l yX4_takeNothing (kx_wd yX4_takeNothing cX4_takeNothing 1 none) ({ frames := 0, cells := 0, slots := 0, locals := 0 }) sp_X4_takeNothing 1 0 0 := kx_met (by decide) ⟨rfl, rfl⟩ (fun p e s m args below meth c Q D C4 A cnt0 ad0 P X Z hr hn => by
  have hx := X.1.1
  have hb := X.1.2.1
  have hts := X.1.2.2.2.2
  exact (kx_sB (kx_sB (kx_sL (ks_aload_n hx hb rfl (by decide +kernel : decode cX4_takeNothing 0 = .ok (.aload_n 0, 1))))
    (kx_sB (kx_sL (ks_iconst hx hb (by decide +kernel) (by decide +kernel : decode cX4_takeNothing 1 = .ok (.iconst (-1), 1))))
    (kx_sL (ks_putI hx hb hts X.1.2.2.2.1 X.2.1 kf_4 (j := 2) rfl kw_327 (by decide +kernel) (by decide +kernel) (by decide +kernel : decode cX4_takeNothing 2 = .ok (.putfield 19, 3))))))
    (kx_sB (kx_sB (kx_sL (ks_aload_n hx hb rfl (by decide +kernel : decode cX4_takeNothing 5 = .ok (.aload_n 0, 1))))
    (kx_sL (ks_iconst hx hb (by decide +kernel) (by decide +kernel : decode cX4_takeNothing 6 = .ok (.iconst 0, 1)))))
    (kx_sB (kx_sL (ks_putI hx hb hts X.1.2.2.2.1 X.2.1 kf_4 (j := 1) rfl kw_326 (by decide +kernel) (by decide +kernel) (by decide +kernel : decode cX4_takeNothing 7 = .ok (.putfield 15, 3))))
    (kx_sL (ks_vret Z hx hb hr (by decide +kernel : decode cX4_takeNothing 10 = .ok (.return_, 1))))))))
def tb_X4_takeShip : Nat → kx_T := (kx_br 5 (kx_br 3 (kx_br 1 (kx_lf 0 (ki_aload 0 1)) (kx_lf 1 (ki_ic (10) 3))) (kx_br 4 (kx_lf 3 (ki_iload 1 4)) (kx_lf 4 (ki_iadd 5)))) (kx_br 9 (kx_br 8 (kx_lf 5 (ki_putI 4 2 8)) (kx_lf 8 (ki_aload 0 9))) (kx_br 10 (kx_lf 9 (ki_ic (0) 10)) (kx_br 13 (kx_lf 10 (ki_putI 4 1 13)) (kx_lf 13 (ki_vret))))))
def sp_X4_takeShip : kx_Sp := kx_sp tb_X4_takeShip 2
set_option maxRecDepth 100000 in
set_option maxHeartbeats 4000000 in
theorem kc_X4_takeShip (l : Launch) : kx_ok1 l yX4_takeShip (kx_wd yX4_takeShip cX4_takeShip 2 none) ({ frames := 0, cells := 0, slots := 0, locals := 0 }) sp_X4_takeShip 2 0 0 := kx_met (by decide) ⟨rfl, rfl⟩ (fun p e s m args below meth c Q D C4 A cnt0 ad0 P X Z hr hn => by
  have hx := X.1.1
  have hb := X.1.2.1
  have hts := X.1.2.2.2.2
  exact (kx_sB (kx_sB (kx_sB (kx_sL (ks_aload_n hx hb rfl (by decide +kernel : decode cX4_takeShip 0 = .ok (.aload_n 0, 1))))
    (kx_sL (ks_bipush hx hb (by decide +kernel) (by decide +kernel : decode cX4_takeShip 1 = .ok (.bipush 10, 2)))))
    (kx_sB (kx_sL (ks_iload_n hx hb rfl (by decide +kernel : decode cX4_takeShip 3 = .ok (.iload_n 1, 1))))
    (kx_sL (ks_iadd hx hb (by decide +kernel : decode cX4_takeShip 4 = .ok (.iadd, 1))))))
    (kx_sB (kx_sB (kx_sL (ks_putI hx hb hts X.1.2.2.2.1 X.2.1 kf_4 (j := 2) rfl kw_327 (by decide +kernel) (by decide +kernel) (by decide +kernel : decode cX4_takeShip 5 = .ok (.putfield 19, 3))))
    (kx_sL (ks_aload_n hx hb rfl (by decide +kernel : decode cX4_takeShip 8 = .ok (.aload_n 0, 1)))))
    (kx_sB (kx_sL (ks_iconst hx hb (by decide +kernel) (by decide +kernel : decode cX4_takeShip 9 = .ok (.iconst 0, 1))))
    (kx_sB (kx_sL (ks_putI hx hb hts X.1.2.2.2.1 X.2.1 kf_4 (j := 1) rfl kw_326 (by decide +kernel) (by decide +kernel) (by decide +kernel : decode cX4_takeShip 10 = .ok (.putfield 15, 3))))
    (kx_sL (ks_vret Z hx hb hr (by decide +kernel : decode cX4_takeShip 13 = .ok (.return_, 1)))))))))
def tb_J7_fill_d0a16 : Nat → kx_T := (kx_br 9 (kx_br 3 (kx_br 1 (kx_lf 0 (ki_ic (0) 1)) (kx_br 2 (kx_lf 1 (ki_istore 3 2)) (kx_lf 2 (ki_aload 0 3)))) (kx_br 6 (kx_br 4 (kx_lf 3 (ki_alen 4)) (kx_lf 4 (ki_istore 4 6))) (kx_br 7 (kx_lf 6 (ki_iload 3 7)) (kx_lf 7 (ki_iload 4 9))))) (kx_br 15 (kx_br 13 (kx_br 12 (kx_lf 9 (ki_icmp_ge 22 12)) (kx_lf 12 (ki_aload 0 13))) (kx_br 14 (kx_lf 13 (ki_iload 3 14)) (kx_lf 14 (ki_lload 1 15)))) (kx_br 19 (kx_br 16 (kx_lf 15 (ki_last 16)) (kx_lf 16 (ki_iinc 3 (1) 19))) (kx_br 22 (kx_lf 19 (ki_goto 6)) (kx_lf 22 (ki_vret))))))
def sp_J7_fill_d0a16 : kx_Sp := kx_sp tb_J7_fill_d0a16 5
set_option maxRecDepth 100000 in
set_option maxHeartbeats 4000000 in
theorem kc_J7_fill_d0a16 (l : Launch) : kx_ok1 l yJ7_fill_d0a16 (kx_wd yJ7_fill_d0a16 cJ7_fill_d0a16 5 none) ({ frames := 0, cells := 0, slots := 0, locals := 0 }) sp_J7_fill_d0a16 5 0 0 := kx_metF (by decide +kernel) ⟨rfl, rfl⟩ (fun p e s m args below meth c Q D C4 A cnt0 ad0 P X Z hr hn => by
  have hx := X.1.1
  have hb := X.1.2.1
  have hts := X.1.2.2.2.2
  exact (kx_sB (kx_sB (kx_sB (kx_sL (ks_iconst hx hb (by decide +kernel) (by decide +kernel : decode cJ7_fill_d0a16 0 = .ok (.iconst 0, 1))))
    (kx_sB (kx_sL (ks_istore_n hx hb rfl (by decide) (by decide +kernel : decode cJ7_fill_d0a16 1 = .ok (.istore_n 3, 1))))
    (kx_sL (ks_aload_n hx hb rfl (by decide +kernel : decode cJ7_fill_d0a16 2 = .ok (.aload_n 0, 1))))))
    (kx_sB (kx_sB (kx_sL (ks_alen hx hb X.2.1 (by decide +kernel : decode cJ7_fill_d0a16 3 = .ok (.arraylength, 1))))
    (kx_sL (ks_istore hx hb (by decide) (by decide +kernel : decode cJ7_fill_d0a16 4 = .ok (.istore 4, 2)))))
    (kx_sB (kx_sL (ks_iload_n hx hb rfl (by decide +kernel : decode cJ7_fill_d0a16 6 = .ok (.iload_n 3, 1))))
    (kx_sL (ks_iload hx hb (by decide +kernel : decode cJ7_fill_d0a16 7 = .ok (.iload 4, 2)))))))
    (kx_sB (kx_sB (kx_sB (kx_sL (ks_icmp_ge hx hb (by decide) (by decide +kernel : decode cJ7_fill_d0a16 9 = .ok (.if_icmp .ge 13, 3))))
    (kx_sL (ks_aload_n hx hb rfl (by decide +kernel : decode cJ7_fill_d0a16 12 = .ok (.aload_n 0, 1)))))
    (kx_sB (kx_sL (ks_iload_n hx hb rfl (by decide +kernel : decode cJ7_fill_d0a16 13 = .ok (.iload_n 3, 1))))
    (kx_sL (ks_lload_n hx hb rfl (by decide +kernel : decode cJ7_fill_d0a16 14 = .ok (.lload_n 1, 1))))))
    (kx_sB (kx_sB (kx_sL (ks_last hx hb X.2.1 (by decide +kernel : decode cJ7_fill_d0a16 15 = .ok (.lastore, 1))))
    (kx_sL (ks_iinc hx hb (by decide +kernel) (by decide) (by decide +kernel : decode cJ7_fill_d0a16 16 = .ok (.iinc 3 1, 3)))))
    (kx_sB (kx_sL (ks_goto hx hb (by decide) (by decide +kernel : decode cJ7_fill_d0a16 19 = .ok (.goto (-13), 3))))
    (kx_sL (ks_vret Z hx hb hr (by decide +kernel : decode cJ7_fill_d0a16 22 = .ok (.return_, 1)))))))))
def tb_X4_takeRow : Nat → kx_T := (kx_br 7 (kx_br 2 (kx_br 1 (kx_lf 0 (ki_aload 0 1)) (kx_lf 1 (ki_iload 1 2))) (kx_br 5 (kx_lf 2 (ki_putI 4 2 5)) (kx_br 6 (kx_lf 5 (ki_aload 0 6)) (kx_lf 6 (ki_iload 2 7))))) (kx_br 14 (kx_br 10 (kx_lf 7 (ki_putI 4 1 10)) (kx_br 11 (kx_lf 10 (ki_aload 0 11)) (kx_lf 11 (ki_getR 4 0 34 (fun o => o) 14)))) (kx_br 15 (kx_lf 14 (ki_lc (0) 15)) (kx_br 18 (kx_lf 15 (ki_cs 2 5 sp_J7_fill_d0a16 18)) (kx_lf 18 (ki_vret))))))
def sp_X4_takeRow : kx_Sp := kx_sp tb_X4_takeRow 3
set_option maxRecDepth 100000 in
set_option maxHeartbeats 4000000 in
theorem kc_X4_takeRow (l : Launch) : kx_ok1 l yX4_takeRow (kx_wd yX4_takeRow cX4_takeRow 3 none) ({ frames := 1, cells := 0, slots := 0, locals := 24 }) sp_X4_takeRow 3 0 0 := kx_met (by decide) ⟨rfl, rfl⟩ (fun p e s m args below meth c Q D C4 A cnt0 ad0 P X Z hr hn => by
  have hx := X.1.1
  have hb := X.1.2.1
  have hts := X.1.2.2.2.2
  exact (kx_sB (kx_sB (kx_sB (kx_sL (ks_aload_n hx hb rfl (by decide +kernel : decode cX4_takeRow 0 = .ok (.aload_n 0, 1))))
    (kx_sL (ks_iload_n hx hb rfl (by decide +kernel : decode cX4_takeRow 1 = .ok (.iload_n 1, 1)))))
    (kx_sB (kx_sL (ks_putI hx hb hts X.1.2.2.2.1 X.2.1 kf_4 (j := 2) rfl kw_327 (by decide +kernel) (by decide +kernel) (by decide +kernel : decode cX4_takeRow 2 = .ok (.putfield 19, 3))))
    (kx_sB (kx_sL (ks_aload_n hx hb rfl (by decide +kernel : decode cX4_takeRow 5 = .ok (.aload_n 0, 1))))
    (kx_sL (ks_iload_n hx hb rfl (by decide +kernel : decode cX4_takeRow 6 = .ok (.iload_n 2, 1)))))))
    (kx_sB (kx_sB (kx_sL (ks_putI hx hb hts X.1.2.2.2.1 X.2.1 kf_4 (j := 1) rfl kw_326 (by decide +kernel) (by decide +kernel) (by decide +kernel : decode cX4_takeRow 7 = .ok (.putfield 15, 3))))
    (kx_sB (kx_sL (ks_aload_n hx hb rfl (by decide +kernel : decode cX4_takeRow 10 = .ok (.aload_n 0, 1))))
    (kx_sL (ks_getR hx hb hts X.1.2.2.2.1 X.2.1 kf_4 (j := 0) rfl kw_325 (by decide +kernel : decode cX4_takeRow 11 = .ok (.getfield 11, 3))))))
    (kx_sB (kx_sL (ks_lconst hx hb (by decide +kernel) (by decide +kernel : decode cX4_takeRow 14 = .ok (.lconst 0, 1))))
    (kx_sB (kx_sL (ks_cs X (kc_J7_fill_d0a16 l) ⟨rfl, rfl⟩ kw_380 kw_381 kw_382 kw_7 (by decide +kernel) (by decide) (by decide +kernel : decode cX4_takeRow 15 = .ok (.invokestatic 26, 3))))
    (kx_sL (ks_vret Z hx hb hr (by decide +kernel : decode cX4_takeRow 18 = .ok (.return_, 1)))))))))
def tb_X4_hasElement : Nat → kx_T := (kx_br 6 (kx_br 2 (kx_br 1 (kx_lf 0 (ki_iload 1 1)) (kx_lf 1 (ki_ic (0) 2))) (kx_br 3 (kx_lf 2 (ki_aload 0 3)) (kx_lf 3 (ki_getI 4 1 6)))) (kx_br 8 (kx_br 7 (kx_lf 6 (ki_ic (1) 7)) (kx_lf 7 (ki_isub 8))) (kx_br 11 (kx_lf 8 (ki_cs 3 3 sp_X10_isWithin 11)) (kx_lf 11 (ki_zret)))))
def sp_X4_hasElement : kx_Sp := kx_sp tb_X4_hasElement 2
set_option maxRecDepth 100000 in
set_option maxHeartbeats 4000000 in
theorem kc_X4_hasElement (l : Launch) : kx_ok1 l yX4_hasElement (kx_wd yX4_hasElement cX4_hasElement 2 (some .boolean)) ({ frames := 1, cells := 0, slots := 0, locals := 22 }) sp_X4_hasElement 2 0 0 := kx_met (by decide) ⟨rfl, rfl⟩ (fun p e s m args below meth c Q D C4 A cnt0 ad0 P X Z hr hn => by
  have hx := X.1.1
  have hb := X.1.2.1
  have hts := X.1.2.2.2.2
  exact (kx_sB (kx_sB (kx_sB (kx_sL (ks_iload_n hx hb rfl (by decide +kernel : decode cX4_hasElement 0 = .ok (.iload_n 1, 1))))
    (kx_sL (ks_iconst hx hb (by decide +kernel) (by decide +kernel : decode cX4_hasElement 1 = .ok (.iconst 0, 1)))))
    (kx_sB (kx_sL (ks_aload_n hx hb rfl (by decide +kernel : decode cX4_hasElement 2 = .ok (.aload_n 0, 1))))
    (kx_sL (ks_getI hx hb hts X.1.2.2.2.1 X.2.1 kf_4 (j := 1) rfl kw_326 (by decide +kernel : decode cX4_hasElement 3 = .ok (.getfield 15, 3))))))
    (kx_sB (kx_sB (kx_sL (ks_iconst hx hb (by decide +kernel) (by decide +kernel : decode cX4_hasElement 6 = .ok (.iconst 1, 1))))
    (kx_sL (ks_isub hx hb (by decide +kernel : decode cX4_hasElement 7 = .ok (.isub, 1)))))
    (kx_sB (kx_sL (ks_csN X (kc_X10_isWithin l) ⟨rfl, rfl⟩ (host := "KeptLight") (by decide +kernel) kw_370 kw_371 kw_1 (by decide +kernel) (by decide) (by decide +kernel : decode cX4_hasElement 8 = .ok (.invokestatic 32, 3))))
    (kx_sL (ks_zret Z hx hb hr (by decide +kernel : decode cX4_hasElement 11 = .ok (.ireturn, 1))))))))
def tb_X4_hasElements : Nat → kx_T := (kx_br 17 (kx_br 6 (kx_br 4 (kx_br 1 (kx_lf 0 (ki_iload 2 1)) (kx_lf 1 (ki_if_lt 30 4))) (kx_br 5 (kx_lf 4 (ki_iload 1 5)) (kx_lf 5 (ki_ic (0) 6)))) (kx_br 10 (kx_br 7 (kx_lf 6 (ki_aload 0 7)) (kx_lf 7 (ki_getI 4 1 10))) (kx_br 13 (kx_lf 10 (ki_cs 3 3 sp_X10_isWithin 13)) (kx_br 16 (kx_lf 13 (ki_if_eq 30 16)) (kx_lf 16 (ki_iload 2 17)))))) (kx_br 23 (kx_br 21 (kx_br 18 (kx_lf 17 (ki_aload 0 18)) (kx_lf 18 (ki_getI 4 1 21))) (kx_br 22 (kx_lf 21 (ki_iload 1 22)) (kx_lf 22 (ki_isub 23)))) (kx_br 27 (kx_br 26 (kx_lf 23 (ki_icmp_gt 30 26)) (kx_lf 26 (ki_ic (1) 27))) (kx_br 30 (kx_lf 27 (ki_goto 31)) (kx_br 31 (kx_lf 30 (ki_ic (0) 31)) (kx_lf 31 (ki_zret)))))))
def sp_X4_hasElements : kx_Sp := kx_sp tb_X4_hasElements 3
set_option maxRecDepth 100000 in
set_option maxHeartbeats 4000000 in
theorem kc_X4_hasElements (l : Launch) : kx_ok1 l yX4_hasElements (kx_wd yX4_hasElements cX4_hasElements 3 (some .boolean)) ({ frames := 1, cells := 0, slots := 0, locals := 22 }) sp_X4_hasElements 3 0 0 := kx_met (by decide) ⟨rfl, rfl⟩ (fun p e s m args below meth c Q D C4 A cnt0 ad0 P X Z hr hn => by
  have hx := X.1.1
  have hb := X.1.2.1
  have hts := X.1.2.2.2.2
  exact (kx_sB (kx_sB (kx_sB (kx_sB (kx_sL (ks_iload_n hx hb rfl (by decide +kernel : decode cX4_hasElements 0 = .ok (.iload_n 2, 1))))
    (kx_sL (ks_if_lt hx hb (by decide) (by decide +kernel : decode cX4_hasElements 1 = .ok (.ifCond .lt 29, 3)))))
    (kx_sB (kx_sL (ks_iload_n hx hb rfl (by decide +kernel : decode cX4_hasElements 4 = .ok (.iload_n 1, 1))))
    (kx_sL (ks_iconst hx hb (by decide +kernel) (by decide +kernel : decode cX4_hasElements 5 = .ok (.iconst 0, 1))))))
    (kx_sB (kx_sB (kx_sL (ks_aload_n hx hb rfl (by decide +kernel : decode cX4_hasElements 6 = .ok (.aload_n 0, 1))))
    (kx_sL (ks_getI hx hb hts X.1.2.2.2.1 X.2.1 kf_4 (j := 1) rfl kw_326 (by decide +kernel : decode cX4_hasElements 7 = .ok (.getfield 15, 3)))))
    (kx_sB (kx_sL (ks_csN X (kc_X10_isWithin l) ⟨rfl, rfl⟩ (host := "KeptLight") (by decide +kernel) kw_370 kw_371 kw_1 (by decide +kernel) (by decide) (by decide +kernel : decode cX4_hasElements 10 = .ok (.invokestatic 32, 3))))
    (kx_sB (kx_sL (ks_if_eq hx hb (by decide) (by decide +kernel : decode cX4_hasElements 13 = .ok (.ifCond .eq 17, 3))))
    (kx_sL (ks_iload_n hx hb rfl (by decide +kernel : decode cX4_hasElements 16 = .ok (.iload_n 2, 1))))))))
    (kx_sB (kx_sB (kx_sB (kx_sL (ks_aload_n hx hb rfl (by decide +kernel : decode cX4_hasElements 17 = .ok (.aload_n 0, 1))))
    (kx_sL (ks_getI hx hb hts X.1.2.2.2.1 X.2.1 kf_4 (j := 1) rfl kw_326 (by decide +kernel : decode cX4_hasElements 18 = .ok (.getfield 15, 3)))))
    (kx_sB (kx_sL (ks_iload_n hx hb rfl (by decide +kernel : decode cX4_hasElements 21 = .ok (.iload_n 1, 1))))
    (kx_sL (ks_isub hx hb (by decide +kernel : decode cX4_hasElements 22 = .ok (.isub, 1))))))
    (kx_sB (kx_sB (kx_sL (ks_icmp_gt hx hb (by decide) (by decide +kernel : decode cX4_hasElements 23 = .ok (.if_icmp .gt 7, 3))))
    (kx_sL (ks_iconst hx hb (by decide +kernel) (by decide +kernel : decode cX4_hasElements 26 = .ok (.iconst 1, 1)))))
    (kx_sB (kx_sL (ks_goto hx hb (by decide) (by decide +kernel : decode cX4_hasElements 27 = .ok (.goto 4, 3))))
    (kx_sB (kx_sL (ks_iconst hx hb (by decide +kernel) (by decide +kernel : decode cX4_hasElements 30 = .ok (.iconst 0, 1))))
    (kx_sL (ks_zret Z hx hb hr (by decide +kernel : decode cX4_hasElements 31 = .ok (.ireturn, 1))))))))))

def tb_X4_valueAt : Nat → kx_T := (kx_br 9 (kx_br 2 (kx_br 1 (kx_lf 0 (ki_aload 0 1)) (kx_lf 1 (ki_iload 1 2))) (kx_br 5 (kx_lf 2 (ki_cv 4 1 2 sp_X4_hasElement 5)) (kx_br 8 (kx_lf 5 (ki_if_eq 17 8)) (kx_lf 8 (ki_aload 0 9))))) (kx_br 14 (kx_br 12 (kx_lf 9 (ki_getR 4 0 34 (fun o => o) 12)) (kx_br 13 (kx_lf 12 (ki_iload 1 13)) (kx_lf 13 (ki_lald 14)))) (kx_br 17 (kx_lf 14 (ki_goto 18)) (kx_br 18 (kx_lf 17 (ki_lc (0) 18)) (kx_lf 18 (ki_lret))))))
def sp_X4_valueAt : kx_Sp := kx_sp tb_X4_valueAt 2
set_option maxRecDepth 100000 in
set_option maxHeartbeats 4000000 in
theorem kc_X4_valueAt (l : Launch) : kx_ok1 l yX4_valueAt (kx_wd yX4_valueAt cX4_valueAt 2 (some .long)) ({ frames := 2, cells := 0, slots := 0, locals := 43 }) sp_X4_valueAt 2 0 0 := kx_met (by decide) ⟨rfl, rfl⟩ (fun p e s m args below meth c Q D C4 A cnt0 ad0 P X Z hr hn => by
  have hx := X.1.1
  have hb := X.1.2.1
  have hts := X.1.2.2.2.2
  exact (kx_sB (kx_sB (kx_sB (kx_sL (ks_aload_n hx hb rfl (by decide +kernel : decode cX4_valueAt 0 = .ok (.aload_n 0, 1))))
    (kx_sL (ks_iload_n hx hb rfl (by decide +kernel : decode cX4_valueAt 1 = .ok (.iload_n 1, 1)))))
    (kx_sB (kx_sL (ks_cv X (kc_X4_hasElement l) ⟨rfl, rfl⟩ kf_4 kw_408 kw_400 kw_401 kw_402 kw_12 (by decide +kernel) (by decide) (by decide +kernel : decode cX4_valueAt 2 = .ok (.invokevirtual 36, 3))))
    (kx_sB (kx_sL (ks_if_eq hx hb (by decide) (by decide +kernel : decode cX4_valueAt 5 = .ok (.ifCond .eq 12, 3))))
    (kx_sL (ks_aload_n hx hb rfl (by decide +kernel : decode cX4_valueAt 8 = .ok (.aload_n 0, 1)))))))
    (kx_sB (kx_sB (kx_sL (ks_getR hx hb hts X.1.2.2.2.1 X.2.1 kf_4 (j := 0) rfl kw_325 (by decide +kernel : decode cX4_valueAt 9 = .ok (.getfield 11, 3))))
    (kx_sB (kx_sL (ks_iload_n hx hb rfl (by decide +kernel : decode cX4_valueAt 12 = .ok (.iload_n 1, 1))))
    (kx_sL (ks_lald hx hb X.2.1 (by decide +kernel : decode cX4_valueAt 13 = .ok (.laload, 1))))))
    (kx_sB (kx_sL (ks_goto hx hb (by decide) (by decide +kernel : decode cX4_valueAt 14 = .ok (.goto 4, 3))))
    (kx_sB (kx_sL (ks_lconst hx hb (by decide +kernel) (by decide +kernel : decode cX4_valueAt 17 = .ok (.lconst 0, 1))))
    (kx_sL (ks_lret Z hx hb hr (by decide +kernel : decode cX4_valueAt 18 = .ok (.lreturn, 1)))))))))
def tb_X4_fitted : Nat → kx_T := (kx_br 50 (kx_br 43 (kx_br 40 (kx_br 1 (kx_lf 0 (ki_aload 0 1)) (kx_br 4 (kx_lf 1 (ki_getI 4 2 4)) (kx_lf 4 (ki_sw [((0), 40), ((1), 45), ((2), 50), ((3), 66), ((4), 54)] 66)))) (kx_br 41 (kx_lf 40 (ki_lload 1 41)) (kx_br 42 (kx_lf 41 (ki_l2i 42)) (kx_lf 42 (ki_i2b 43))))) (kx_br 46 (kx_br 44 (kx_lf 43 (ki_i2l 44)) (kx_br 45 (kx_lf 44 (ki_lret)) (kx_lf 45 (ki_lload 1 46)))) (kx_br 48 (kx_br 47 (kx_lf 46 (ki_l2i 47)) (kx_lf 47 (ki_i2s 48))) (kx_br 49 (kx_lf 48 (ki_i2l 49)) (kx_lf 49 (ki_lret)))))) (kx_br 57 (kx_br 53 (kx_br 51 (kx_lf 50 (ki_lload 1 51)) (kx_br 52 (kx_lf 51 (ki_l2i 52)) (kx_lf 52 (ki_i2l 53)))) (kx_br 55 (kx_br 54 (kx_lf 53 (ki_lret)) (kx_lf 54 (ki_lload 1 55))) (kx_br 56 (kx_lf 55 (ki_lc (0) 56)) (kx_lf 56 (ki_lcmp 57))))) (kx_br 64 (kx_br 60 (kx_lf 57 (ki_if_eq 64 60)) (kx_br 61 (kx_lf 60 (ki_lc (1) 61)) (kx_lf 61 (ki_goto 65)))) (kx_br 66 (kx_br 65 (kx_lf 64 (ki_lc (0) 65)) (kx_lf 65 (ki_lret))) (kx_br 67 (kx_lf 66 (ki_lload 1 67)) (kx_lf 67 (ki_lret)))))))
def sp_X4_fitted : kx_Sp := kx_sp tb_X4_fitted 3
set_option maxRecDepth 100000 in
set_option maxHeartbeats 4000000 in
theorem kc_X4_fitted (l : Launch) : kx_ok1 l yX4_fitted (kx_wd yX4_fitted cX4_fitted 3 (some .long)) ({ frames := 0, cells := 0, slots := 0, locals := 0 }) sp_X4_fitted 3 0 0 := kx_met (by decide) ⟨rfl, rfl⟩ (fun p e s m args below meth c Q D C4 A cnt0 ad0 P X Z hr hn => by
  have hx := X.1.1
  have hb := X.1.2.1
  have hts := X.1.2.2.2.2
  exact (kx_sB (kx_sB (kx_sB (kx_sB (kx_sL (ks_aload_n hx hb rfl (by decide +kernel : decode cX4_fitted 0 = .ok (.aload_n 0, 1))))
    (kx_sB (kx_sL (ks_getI hx hb hts X.1.2.2.2.1 X.2.1 kf_4 (j := 2) rfl kw_327 (by decide +kernel : decode cX4_fitted 1 = .ok (.getfield 19, 3))))
    (kx_sL (ks_tab hx hb (by decide) (by decide +kernel) (by decide +kernel) (by decide +kernel : decode cX4_fitted 4 = .ok (.tableswitch 62 0 4 #[36, 41, 46, 62, 50], 36))))))
    (kx_sB (kx_sL (ks_lload_n hx hb rfl (by decide +kernel : decode cX4_fitted 40 = .ok (.lload_n 1, 1))))
    (kx_sB (kx_sL (ks_l2i hx hb (by decide +kernel : decode cX4_fitted 41 = .ok (.l2i, 1))))
    (kx_sL (ks_i2b hx hb (by decide +kernel : decode cX4_fitted 42 = .ok (.i2b, 1)))))))
    (kx_sB (kx_sB (kx_sL (ks_i2l hx hb (by decide +kernel : decode cX4_fitted 43 = .ok (.i2l, 1))))
    (kx_sB (kx_sL (ks_lret Z hx hb hr (by decide +kernel : decode cX4_fitted 44 = .ok (.lreturn, 1))))
    (kx_sL (ks_lload_n hx hb rfl (by decide +kernel : decode cX4_fitted 45 = .ok (.lload_n 1, 1))))))
    (kx_sB (kx_sB (kx_sL (ks_l2i hx hb (by decide +kernel : decode cX4_fitted 46 = .ok (.l2i, 1))))
    (kx_sL (ks_i2s hx hb (by decide +kernel : decode cX4_fitted 47 = .ok (.i2s, 1)))))
    (kx_sB (kx_sL (ks_i2l hx hb (by decide +kernel : decode cX4_fitted 48 = .ok (.i2l, 1))))
    (kx_sL (ks_lret Z hx hb hr (by decide +kernel : decode cX4_fitted 49 = .ok (.lreturn, 1))))))))
    (kx_sB (kx_sB (kx_sB (kx_sL (ks_lload_n hx hb rfl (by decide +kernel : decode cX4_fitted 50 = .ok (.lload_n 1, 1))))
    (kx_sB (kx_sL (ks_l2i hx hb (by decide +kernel : decode cX4_fitted 51 = .ok (.l2i, 1))))
    (kx_sL (ks_i2l hx hb (by decide +kernel : decode cX4_fitted 52 = .ok (.i2l, 1))))))
    (kx_sB (kx_sB (kx_sL (ks_lret Z hx hb hr (by decide +kernel : decode cX4_fitted 53 = .ok (.lreturn, 1))))
    (kx_sL (ks_lload_n hx hb rfl (by decide +kernel : decode cX4_fitted 54 = .ok (.lload_n 1, 1)))))
    (kx_sB (kx_sL (ks_lconst hx hb (by decide +kernel) (by decide +kernel : decode cX4_fitted 55 = .ok (.lconst 0, 1))))
    (kx_sL (ks_lcmp hx hb (by decide +kernel : decode cX4_fitted 56 = .ok (.lcmp, 1)))))))
    (kx_sB (kx_sB (kx_sL (ks_if_eq hx hb (by decide) (by decide +kernel : decode cX4_fitted 57 = .ok (.ifCond .eq 7, 3))))
    (kx_sB (kx_sL (ks_lconst hx hb (by decide +kernel) (by decide +kernel : decode cX4_fitted 60 = .ok (.lconst 1, 1))))
    (kx_sL (ks_goto hx hb (by decide) (by decide +kernel : decode cX4_fitted 61 = .ok (.goto 4, 3))))))
    (kx_sB (kx_sB (kx_sL (ks_lconst hx hb (by decide +kernel) (by decide +kernel : decode cX4_fitted 64 = .ok (.lconst 0, 1))))
    (kx_sL (ks_lret Z hx hb hr (by decide +kernel : decode cX4_fitted 65 = .ok (.lreturn, 1)))))
    (kx_sB (kx_sL (ks_lload_n hx hb rfl (by decide +kernel : decode cX4_fitted 66 = .ok (.lload_n 1, 1))))
    (kx_sL (ks_lret Z hx hb hr (by decide +kernel : decode cX4_fitted 67 = .ok (.lreturn, 1))))))))))
def tb_X4_put : Nat → kx_T := (kx_br 12 (kx_br 5 (kx_br 1 (kx_lf 0 (ki_aload 0 1)) (kx_br 2 (kx_lf 1 (ki_iload 1 2)) (kx_lf 2 (ki_cv 4 1 2 sp_X4_hasElement 5)))) (kx_br 8 (kx_lf 5 (ki_if_eq 19 8)) (kx_br 9 (kx_lf 8 (ki_aload 0 9)) (kx_lf 9 (ki_getR 4 0 34 (fun o => o) 12))))) (kx_br 15 (kx_br 13 (kx_lf 12 (ki_iload 1 13)) (kx_br 14 (kx_lf 13 (ki_aload 0 14)) (kx_lf 14 (ki_lload 2 15)))) (kx_br 18 (kx_lf 15 (ki_cv 4 1 3 sp_X4_fitted 18)) (kx_br 19 (kx_lf 18 (ki_last 19)) (kx_lf 19 (ki_vret))))))
def sp_X4_put : kx_Sp := kx_sp tb_X4_put 4
set_option maxRecDepth 100000 in
set_option maxHeartbeats 4000000 in
theorem kc_X4_put (l : Launch) : kx_ok1 l yX4_put (kx_wd yX4_put cX4_put 4 none) ({ frames := 2, cells := 0, slots := 0, locals := 43 }) sp_X4_put 4 0 0 := kx_met (by decide) ⟨rfl, rfl⟩ (fun p e s m args below meth c Q D C4 A cnt0 ad0 P X Z hr hn => by
  have hx := X.1.1
  have hb := X.1.2.1
  have hts := X.1.2.2.2.2
  exact (kx_sB (kx_sB (kx_sB (kx_sL (ks_aload_n hx hb rfl (by decide +kernel : decode cX4_put 0 = .ok (.aload_n 0, 1))))
    (kx_sB (kx_sL (ks_iload_n hx hb rfl (by decide +kernel : decode cX4_put 1 = .ok (.iload_n 1, 1))))
    (kx_sL (ks_cv X (kc_X4_hasElement l) ⟨rfl, rfl⟩ kf_4 kw_408 kw_400 kw_401 kw_402 kw_12 (by decide +kernel) (by decide) (by decide +kernel : decode cX4_put 2 = .ok (.invokevirtual 36, 3))))))
    (kx_sB (kx_sL (ks_if_eq hx hb (by decide) (by decide +kernel : decode cX4_put 5 = .ok (.ifCond .eq 14, 3))))
    (kx_sB (kx_sL (ks_aload_n hx hb rfl (by decide +kernel : decode cX4_put 8 = .ok (.aload_n 0, 1))))
    (kx_sL (ks_getR hx hb hts X.1.2.2.2.1 X.2.1 kf_4 (j := 0) rfl kw_325 (by decide +kernel : decode cX4_put 9 = .ok (.getfield 11, 3)))))))
    (kx_sB (kx_sB (kx_sL (ks_iload_n hx hb rfl (by decide +kernel : decode cX4_put 12 = .ok (.iload_n 1, 1))))
    (kx_sB (kx_sL (ks_aload_n hx hb rfl (by decide +kernel : decode cX4_put 13 = .ok (.aload_n 0, 1))))
    (kx_sL (ks_lload_n hx hb rfl (by decide +kernel : decode cX4_put 14 = .ok (.lload_n 2, 1))))))
    (kx_sB (kx_sL (ks_cv X (kc_X4_fitted l) ⟨rfl, rfl⟩ kf_4 kw_409 kw_411 kv_3 kw_412 kw_12 (by decide +kernel) (by decide) (by decide +kernel : decode cX4_put 15 = .ok (.invokevirtual 40, 3))))
    (kx_sB (kx_sL (ks_last hx hb X.2.1 (by decide +kernel : decode cX4_put 18 = .ok (.lastore, 1))))
    (kx_sL (ks_vret Z hx hb hr (by decide +kernel : decode cX4_put 19 = .ok (.return_, 1)))))))))
def tb_X4_takeElements : Nat → kx_T := (kx_br 17 (kx_br 7 (kx_br 2 (kx_br 1 (kx_lf 0 (ki_aload 0 1)) (kx_lf 1 (ki_iload 1 2))) (kx_br 4 (kx_lf 2 (ki_iload 4 4)) (kx_lf 4 (ki_cv 4 2 3 sp_X4_hasElements 7)))) (kx_br 11 (kx_br 10 (kx_lf 7 (ki_if_eq 35 10)) (kx_lf 10 (ki_aload 2 11))) (kx_br 12 (kx_lf 11 (ki_iload 3 12)) (kx_br 14 (kx_lf 12 (ki_iload 4 14)) (kx_lf 14 (ki_cv 4 2 3 sp_X4_hasElements 17)))))) (kx_br 26 (kx_br 21 (kx_br 20 (kx_lf 17 (ki_if_eq 35 20)) (kx_lf 20 (ki_aload 2 21))) (kx_br 24 (kx_lf 21 (ki_getR 4 0 34 (fun o => o) 24)) (kx_br 25 (kx_lf 24 (ki_iload 3 25)) (kx_lf 25 (ki_aload 0 26))))) (kx_br 30 (kx_br 29 (kx_lf 26 (ki_getR 4 0 34 (fun o => o) 29)) (kx_lf 29 (ki_iload 1 30))) (kx_br 32 (kx_lf 30 (ki_iload 4 32)) (kx_br 35 (kx_lf 32 (ki_acopy 35)) (kx_lf 35 (ki_vret)))))))
def sp_X4_takeElements : kx_Sp := kx_sp tb_X4_takeElements 5
set_option maxRecDepth 100000 in
set_option maxHeartbeats 4000000 in
theorem kc_X4_takeElements (l : Launch) : kx_ok1 l yX4_takeElements (kx_wd yX4_takeElements cX4_takeElements 5 none) ({ frames := 2, cells := 0, slots := 0, locals := 44 }) sp_X4_takeElements 5 0 0 := kx_met (by decide) ⟨rfl, rfl⟩ (fun p e s m args below meth c Q D C4 A cnt0 ad0 P X Z hr hn => by
  have hx := X.1.1
  have hb := X.1.2.1
  have hts := X.1.2.2.2.2
  exact (kx_sB (kx_sB (kx_sB (kx_sB (kx_sL (ks_aload_n hx hb rfl (by decide +kernel : decode cX4_takeElements 0 = .ok (.aload_n 0, 1))))
    (kx_sL (ks_iload_n hx hb rfl (by decide +kernel : decode cX4_takeElements 1 = .ok (.iload_n 1, 1)))))
    (kx_sB (kx_sL (ks_iload hx hb (by decide +kernel : decode cX4_takeElements 2 = .ok (.iload 4, 2))))
    (kx_sL (ks_cv X (kc_X4_hasElements l) ⟨rfl, rfl⟩ kf_4 kw_429 kw_422 kw_423 kw_424 kw_12 (by decide +kernel) (by decide) (by decide +kernel : decode cX4_takeElements 4 = .ok (.invokevirtual 44, 3))))))
    (kx_sB (kx_sB (kx_sL (ks_if_eq hx hb (by decide) (by decide +kernel : decode cX4_takeElements 7 = .ok (.ifCond .eq 28, 3))))
    (kx_sL (ks_aload_n hx hb rfl (by decide +kernel : decode cX4_takeElements 10 = .ok (.aload_n 2, 1)))))
    (kx_sB (kx_sL (ks_iload_n hx hb rfl (by decide +kernel : decode cX4_takeElements 11 = .ok (.iload_n 3, 1))))
    (kx_sB (kx_sL (ks_iload hx hb (by decide +kernel : decode cX4_takeElements 12 = .ok (.iload 4, 2))))
    (kx_sL (ks_cv X (kc_X4_hasElements l) ⟨rfl, rfl⟩ kf_4 kw_429 kw_422 kw_423 kw_424 kw_12 (by decide +kernel) (by decide) (by decide +kernel : decode cX4_takeElements 14 = .ok (.invokevirtual 44, 3))))))))
    (kx_sB (kx_sB (kx_sB (kx_sL (ks_if_eq hx hb (by decide) (by decide +kernel : decode cX4_takeElements 17 = .ok (.ifCond .eq 18, 3))))
    (kx_sL (ks_aload_n hx hb rfl (by decide +kernel : decode cX4_takeElements 20 = .ok (.aload_n 2, 1)))))
    (kx_sB (kx_sL (ks_getR hx hb hts X.1.2.2.2.1 X.2.1 kf_4 (j := 0) rfl kw_325 (by decide +kernel : decode cX4_takeElements 21 = .ok (.getfield 11, 3))))
    (kx_sB (kx_sL (ks_iload_n hx hb rfl (by decide +kernel : decode cX4_takeElements 24 = .ok (.iload_n 3, 1))))
    (kx_sL (ks_aload_n hx hb rfl (by decide +kernel : decode cX4_takeElements 25 = .ok (.aload_n 0, 1)))))))
    (kx_sB (kx_sB (kx_sL (ks_getR hx hb hts X.1.2.2.2.1 X.2.1 kf_4 (j := 0) rfl kw_325 (by decide +kernel : decode cX4_takeElements 26 = .ok (.getfield 11, 3))))
    (kx_sL (ks_iload_n hx hb rfl (by decide +kernel : decode cX4_takeElements 29 = .ok (.iload_n 1, 1)))))
    (kx_sB (kx_sL (ks_iload hx hb (by decide +kernel : decode cX4_takeElements 30 = .ok (.iload 4, 2))))
    (kx_sB (kx_sL (ks_acopy hx hb X.2.1 hts X.1.2.2.1 X.1.2.2.2.1 kw_430 kw_432 kw_431 kw_14 (by decide) (by decide +kernel) (by decide +kernel : decode cX4_takeElements 32 = .ok (.invokestatic 48, 3))))
    (kx_sL (ks_vret Z hx hb hr (by decide +kernel : decode cX4_takeElements 35 = .ok (.return_, 1))))))))))
def tb_X5_isFull : Nat → kx_T := (kx_br 9 (kx_br 4 (kx_br 1 (kx_lf 0 (ki_aload 0 1)) (kx_lf 1 (ki_getI 5 2 4))) (kx_br 6 (kx_lf 4 (ki_ic (20) 6)) (kx_lf 6 (ki_icmp_lt 13 9)))) (kx_br 13 (kx_br 10 (kx_lf 9 (ki_ic (1) 10)) (kx_lf 10 (ki_goto 14))) (kx_br 14 (kx_lf 13 (ki_ic (0) 14)) (kx_lf 14 (ki_zret)))))
def sp_X5_isFull : kx_Sp := kx_sp tb_X5_isFull 1
set_option maxRecDepth 100000 in
set_option maxHeartbeats 4000000 in
theorem kc_X5_isFull (l : Launch) : kx_ok1 l yX5_isFull (kx_wd yX5_isFull cX5_isFull 1 (some .boolean)) ({ frames := 0, cells := 0, slots := 0, locals := 0 }) sp_X5_isFull 1 0 0 := kx_met (by decide) ⟨rfl, rfl⟩ (fun p e s m args below meth c Q D C4 A cnt0 ad0 P X Z hr hn => by
  have hx := X.1.1
  have hb := X.1.2.1
  have hts := X.1.2.2.2.2
  exact (kx_sB (kx_sB (kx_sB (kx_sL (ks_aload_n hx hb rfl (by decide +kernel : decode cX5_isFull 0 = .ok (.aload_n 0, 1))))
    (kx_sL (ks_getI hx hb hts X.1.2.2.2.1 X.2.1 kf_5 (j := 2) rfl kw_44 (by decide +kernel : decode cX5_isFull 1 = .ok (.getfield 18, 3)))))
    (kx_sB (kx_sL (ks_bipush hx hb (by decide +kernel) (by decide +kernel : decode cX5_isFull 4 = .ok (.bipush 20, 2))))
    (kx_sL (ks_icmp_lt hx hb (by decide) (by decide +kernel : decode cX5_isFull 6 = .ok (.if_icmp .lt 7, 3))))))
    (kx_sB (kx_sB (kx_sL (ks_iconst hx hb (by decide +kernel) (by decide +kernel : decode cX5_isFull 9 = .ok (.iconst 1, 1))))
    (kx_sL (ks_goto hx hb (by decide) (by decide +kernel : decode cX5_isFull 10 = .ok (.goto 4, 3)))))
    (kx_sB (kx_sL (ks_iconst hx hb (by decide +kernel) (by decide +kernel : decode cX5_isFull 13 = .ok (.iconst 0, 1))))
    (kx_sL (ks_zret Z hx hb hr (by decide +kernel : decode cX5_isFull 14 = .ok (.ireturn, 1))))))))
def tb_X5_clear : Nat → kx_T := (kx_br 5 (kx_br 1 (kx_lf 0 (ki_aload 0 1)) (kx_br 2 (kx_lf 1 (ki_ic (0) 2)) (kx_lf 2 (ki_putI 5 2 5)))) (kx_br 7 (kx_br 6 (kx_lf 5 (ki_aload 0 6)) (kx_lf 6 (ki_ic (0) 7))) (kx_br 10 (kx_lf 7 (ki_putI 5 3 10)) (kx_lf 10 (ki_vret)))))
def sp_X5_clear : kx_Sp := kx_sp tb_X5_clear 1
set_option maxRecDepth 100000 in
set_option maxHeartbeats 4000000 in
theorem kc_X5_clear (l : Launch) : kx_ok1 l yX5_clear (kx_wd yX5_clear cX5_clear 1 none) ({ frames := 0, cells := 0, slots := 0, locals := 0 }) sp_X5_clear 1 0 0 := kx_met (by decide) ⟨rfl, rfl⟩ (fun p e s m args below meth c Q D C4 A cnt0 ad0 P X Z hr hn => by
  have hx := X.1.1
  have hb := X.1.2.1
  have hts := X.1.2.2.2.2
  exact (kx_sB (kx_sB (kx_sL (ks_aload_n hx hb rfl (by decide +kernel : decode cX5_clear 0 = .ok (.aload_n 0, 1))))
    (kx_sB (kx_sL (ks_iconst hx hb (by decide +kernel) (by decide +kernel : decode cX5_clear 1 = .ok (.iconst 0, 1))))
    (kx_sL (ks_putI hx hb hts X.1.2.2.2.1 X.2.1 kf_5 (j := 2) rfl kw_44 (by decide +kernel) (by decide +kernel) (by decide +kernel : decode cX5_clear 2 = .ok (.putfield 18, 3))))))
    (kx_sB (kx_sB (kx_sL (ks_aload_n hx hb rfl (by decide +kernel : decode cX5_clear 5 = .ok (.aload_n 0, 1))))
    (kx_sL (ks_iconst hx hb (by decide +kernel) (by decide +kernel : decode cX5_clear 6 = .ok (.iconst 0, 1)))))
    (kx_sB (kx_sL (ks_putI hx hb hts X.1.2.2.2.1 X.2.1 kf_5 (j := 3) rfl kw_46 (by decide +kernel) (by decide +kernel) (by decide +kernel : decode cX5_clear 7 = .ok (.putfield 22, 3))))
    (kx_sL (ks_vret Z hx hb hr (by decide +kernel : decode cX5_clear 10 = .ok (.return_, 1))))))))
def tb_X5_append : Nat → kx_T := (kx_br 26 (kx_br 15 (kx_br 7 (kx_br 1 (kx_lf 0 (ki_aload 0 1)) (kx_br 4 (kx_lf 1 (ki_cv 5 0 1 sp_X5_isFull 4)) (kx_lf 4 (ki_if_ne 47 7)))) (kx_br 11 (kx_br 8 (kx_lf 7 (ki_aload 0 8)) (kx_lf 8 (ki_getR 5 0 35 (fun o => o) 11))) (kx_br 12 (kx_lf 11 (ki_aload 0 12)) (kx_lf 12 (ki_getI 5 2 15))))) (kx_br 18 (kx_br 16 (kx_lf 15 (ki_iload 1 16)) (kx_br 17 (kx_lf 16 (ki_iast 17)) (kx_lf 17 (ki_aload 0 18)))) (kx_br 22 (kx_br 21 (kx_lf 18 (ki_getR 5 1 36 (fun o => o) 21)) (kx_lf 21 (ki_aload 0 22))) (kx_br 25 (kx_lf 22 (ki_getI 5 2 25)) (kx_lf 25 (ki_iload 2 26)))))) (kx_br 37 (kx_br 29 (kx_br 27 (kx_lf 26 (ki_iast 27)) (kx_br 28 (kx_lf 27 (ki_aload 0 28)) (kx_lf 28 (ki_dup 29)))) (kx_br 33 (kx_br 32 (kx_lf 29 (ki_getI 5 2 32)) (kx_lf 32 (ki_ic (1) 33))) (kx_br 34 (kx_lf 33 (ki_iadd 34)) (kx_lf 34 (ki_putI 5 2 37))))) (kx_br 42 (kx_br 38 (kx_lf 37 (ki_aload 0 38)) (kx_br 39 (kx_lf 38 (ki_dup 39)) (kx_lf 39 (ki_getI 5 3 42)))) (kx_br 44 (kx_br 43 (kx_lf 42 (ki_iload 2 43)) (kx_lf 43 (ki_iadd 44))) (kx_br 47 (kx_lf 44 (ki_putI 5 3 47)) (kx_lf 47 (ki_vret)))))))
def sp_X5_append : kx_Sp := kx_sp tb_X5_append 3
set_option maxRecDepth 100000 in
set_option maxHeartbeats 4000000 in
theorem kc_X5_append (l : Launch) : kx_ok1 l yX5_append (kx_wd yX5_append cX5_append 3 none) ({ frames := 1, cells := 0, slots := 0, locals := 20 }) sp_X5_append 3 0 0 := kx_met (by decide) ⟨rfl, rfl⟩ (fun p e s m args below meth c Q D C4 A cnt0 ad0 P X Z hr hn => by
  have hx := X.1.1
  have hb := X.1.2.1
  have hts := X.1.2.2.2.2
  exact (kx_sB (kx_sB (kx_sB (kx_sB (kx_sL (ks_aload_n hx hb rfl (by decide +kernel : decode cX5_append 0 = .ok (.aload_n 0, 1))))
    (kx_sB (kx_sL (ks_cv X (kc_X5_isFull l) ⟨rfl, rfl⟩ kf_5 kw_563 kw_545 kw_546 kw_547 kw_4 (by decide +kernel) (by decide) (by decide +kernel : decode cX5_append 1 = .ok (.invokevirtual 25, 3))))
    (kx_sL (ks_if_ne hx hb (by decide) (by decide +kernel : decode cX5_append 4 = .ok (.ifCond .ne 43, 3))))))
    (kx_sB (kx_sB (kx_sL (ks_aload_n hx hb rfl (by decide +kernel : decode cX5_append 7 = .ok (.aload_n 0, 1))))
    (kx_sL (ks_getR hx hb hts X.1.2.2.2.1 X.2.1 kf_5 (j := 0) rfl kw_42 (by decide +kernel : decode cX5_append 8 = .ok (.getfield 11, 3)))))
    (kx_sB (kx_sL (ks_aload_n hx hb rfl (by decide +kernel : decode cX5_append 11 = .ok (.aload_n 0, 1))))
    (kx_sL (ks_getI hx hb hts X.1.2.2.2.1 X.2.1 kf_5 (j := 2) rfl kw_44 (by decide +kernel : decode cX5_append 12 = .ok (.getfield 18, 3)))))))
    (kx_sB (kx_sB (kx_sL (ks_iload_n hx hb rfl (by decide +kernel : decode cX5_append 15 = .ok (.iload_n 1, 1))))
    (kx_sB (kx_sL (ks_iast hx hb X.2.1 (by decide +kernel : decode cX5_append 16 = .ok (.iastore, 1))))
    (kx_sL (ks_aload_n hx hb rfl (by decide +kernel : decode cX5_append 17 = .ok (.aload_n 0, 1))))))
    (kx_sB (kx_sB (kx_sL (ks_getR hx hb hts X.1.2.2.2.1 X.2.1 kf_5 (j := 1) rfl kw_43 (by decide +kernel : decode cX5_append 18 = .ok (.getfield 15, 3))))
    (kx_sL (ks_aload_n hx hb rfl (by decide +kernel : decode cX5_append 21 = .ok (.aload_n 0, 1)))))
    (kx_sB (kx_sL (ks_getI hx hb hts X.1.2.2.2.1 X.2.1 kf_5 (j := 2) rfl kw_44 (by decide +kernel : decode cX5_append 22 = .ok (.getfield 18, 3))))
    (kx_sL (ks_iload_n hx hb rfl (by decide +kernel : decode cX5_append 25 = .ok (.iload_n 2, 1))))))))
    (kx_sB (kx_sB (kx_sB (kx_sL (ks_iast hx hb X.2.1 (by decide +kernel : decode cX5_append 26 = .ok (.iastore, 1))))
    (kx_sB (kx_sL (ks_aload_n hx hb rfl (by decide +kernel : decode cX5_append 27 = .ok (.aload_n 0, 1))))
    (kx_sL (ks_dup hx hb (by decide +kernel : decode cX5_append 28 = .ok (.dup, 1))))))
    (kx_sB (kx_sB (kx_sL (ks_getI hx hb hts X.1.2.2.2.1 X.2.1 kf_5 (j := 2) rfl kw_44 (by decide +kernel : decode cX5_append 29 = .ok (.getfield 18, 3))))
    (kx_sL (ks_iconst hx hb (by decide +kernel) (by decide +kernel : decode cX5_append 32 = .ok (.iconst 1, 1)))))
    (kx_sB (kx_sL (ks_iadd hx hb (by decide +kernel : decode cX5_append 33 = .ok (.iadd, 1))))
    (kx_sL (ks_putI hx hb hts X.1.2.2.2.1 X.2.1 kf_5 (j := 2) rfl kw_44 (by decide +kernel) (by decide +kernel) (by decide +kernel : decode cX5_append 34 = .ok (.putfield 18, 3)))))))
    (kx_sB (kx_sB (kx_sL (ks_aload_n hx hb rfl (by decide +kernel : decode cX5_append 37 = .ok (.aload_n 0, 1))))
    (kx_sB (kx_sL (ks_dup hx hb (by decide +kernel : decode cX5_append 38 = .ok (.dup, 1))))
    (kx_sL (ks_getI hx hb hts X.1.2.2.2.1 X.2.1 kf_5 (j := 3) rfl kw_46 (by decide +kernel : decode cX5_append 39 = .ok (.getfield 22, 3))))))
    (kx_sB (kx_sB (kx_sL (ks_iload_n hx hb rfl (by decide +kernel : decode cX5_append 42 = .ok (.iload_n 2, 1))))
    (kx_sL (ks_iadd hx hb (by decide +kernel : decode cX5_append 43 = .ok (.iadd, 1)))))
    (kx_sB (kx_sL (ks_putI hx hb hts X.1.2.2.2.1 X.2.1 kf_5 (j := 3) rfl kw_46 (by decide +kernel) (by decide +kernel) (by decide +kernel : decode cX5_append 44 = .ok (.putfield 22, 3))))
    (kx_sL (ks_vret Z hx hb hr (by decide +kernel : decode cX5_append 47 = .ok (.return_, 1))))))))))
def tb_J9_floorMod_7cf53 : Nat → kx_T := (kx_br 10 (kx_br 4 (kx_br 2 (kx_br 1 (kx_lf 0 (ki_iload 0 1)) (kx_lf 1 (ki_iload 1 2))) (kx_br 3 (kx_lf 2 (ki_irem 3)) (kx_lf 3 (ki_istore 2 4)))) (kx_br 6 (kx_br 5 (kx_lf 4 (ki_iload 0 5)) (kx_lf 5 (ki_iload 1 6))) (kx_br 7 (kx_lf 6 (ki_ixor 7)) (kx_lf 7 (ki_if_ge 18 10))))) (kx_br 16 (kx_br 14 (kx_br 11 (kx_lf 10 (ki_iload 2 11)) (kx_lf 11 (ki_if_eq 18 14))) (kx_br 15 (kx_lf 14 (ki_iload 2 15)) (kx_lf 15 (ki_iload 1 16)))) (kx_br 18 (kx_br 17 (kx_lf 16 (ki_iadd 17)) (kx_lf 17 (ki_iret))) (kx_br 19 (kx_lf 18 (ki_iload 2 19)) (kx_lf 19 (ki_iret))))))
def sp_J9_floorMod_7cf53 : kx_Sp := kx_sp tb_J9_floorMod_7cf53 3
set_option maxRecDepth 100000 in
set_option maxHeartbeats 4000000 in
theorem kc_J9_floorMod_7cf53 (l : Launch) : kx_ok1 l yJ9_floorMod_7cf53 (kx_wd yJ9_floorMod_7cf53 cJ9_floorMod_7cf53 3 (some .int)) ({ frames := 0, cells := 0, slots := 0, locals := 0 }) sp_J9_floorMod_7cf53 3 0 0 := kx_metF (by decide +kernel) ⟨rfl, rfl⟩ (fun p e s m args below meth c Q D C4 A cnt0 ad0 P X Z hr hn => by
  have hx := X.1.1
  have hb := X.1.2.1
  have hts := X.1.2.2.2.2
  exact (kx_sB (kx_sB (kx_sB (kx_sB (kx_sL (ks_iload_n hx hb rfl (by decide +kernel : decode cJ9_floorMod_7cf53 0 = .ok (.iload_n 0, 1))))
    (kx_sL (ks_iload_n hx hb rfl (by decide +kernel : decode cJ9_floorMod_7cf53 1 = .ok (.iload_n 1, 1)))))
    (kx_sB (kx_sL (ks_irem hx hb (by decide +kernel : decode cJ9_floorMod_7cf53 2 = .ok (.irem, 1))))
    (kx_sL (ks_istore_n hx hb rfl (by decide) (by decide +kernel : decode cJ9_floorMod_7cf53 3 = .ok (.istore_n 2, 1))))))
    (kx_sB (kx_sB (kx_sL (ks_iload_n hx hb rfl (by decide +kernel : decode cJ9_floorMod_7cf53 4 = .ok (.iload_n 0, 1))))
    (kx_sL (ks_iload_n hx hb rfl (by decide +kernel : decode cJ9_floorMod_7cf53 5 = .ok (.iload_n 1, 1)))))
    (kx_sB (kx_sL (ks_ixor hx hb (by decide +kernel : decode cJ9_floorMod_7cf53 6 = .ok (.ixor, 1))))
    (kx_sL (ks_if_ge hx hb (by decide) (by decide +kernel : decode cJ9_floorMod_7cf53 7 = .ok (.ifCond .ge 11, 3)))))))
    (kx_sB (kx_sB (kx_sB (kx_sL (ks_iload_n hx hb rfl (by decide +kernel : decode cJ9_floorMod_7cf53 10 = .ok (.iload_n 2, 1))))
    (kx_sL (ks_if_eq hx hb (by decide) (by decide +kernel : decode cJ9_floorMod_7cf53 11 = .ok (.ifCond .eq 7, 3)))))
    (kx_sB (kx_sL (ks_iload_n hx hb rfl (by decide +kernel : decode cJ9_floorMod_7cf53 14 = .ok (.iload_n 2, 1))))
    (kx_sL (ks_iload_n hx hb rfl (by decide +kernel : decode cJ9_floorMod_7cf53 15 = .ok (.iload_n 1, 1))))))
    (kx_sB (kx_sB (kx_sL (ks_iadd hx hb (by decide +kernel : decode cJ9_floorMod_7cf53 16 = .ok (.iadd, 1))))
    (kx_sL (ks_iret Z hx hb hr (by decide +kernel : decode cJ9_floorMod_7cf53 17 = .ok (.ireturn, 1)))))
    (kx_sB (kx_sL (ks_iload_n hx hb rfl (by decide +kernel : decode cJ9_floorMod_7cf53 18 = .ok (.iload_n 2, 1))))
    (kx_sL (ks_iret Z hx hb hr (by decide +kernel : decode cJ9_floorMod_7cf53 19 = .ok (.ireturn, 1)))))))))
def tb_X5_weatherAt : Nat → kx_T := (kx_br 33 (kx_br 17 (kx_br 8 (kx_br 4 (kx_br 1 (kx_lf 0 (ki_aload 0 1)) (kx_lf 1 (ki_getI 5 3 4))) (kx_br 7 (kx_lf 4 (ki_if_gt 9 7)) (kx_lf 7 (ki_ic (0) 8)))) (kx_br 10 (kx_br 9 (kx_lf 8 (ki_iret)) (kx_lf 9 (ki_iload 1 10))) (kx_br 11 (kx_lf 10 (ki_aload 0 11)) (kx_br 14 (kx_lf 11 (ki_getI 5 3 14)) (kx_lf 14 (ki_cs 2 3 sp_J9_floorMod_7cf53 17)))))) (kx_br 22 (kx_br 19 (kx_br 18 (kx_lf 17 (ki_istore 2 18)) (kx_lf 18 (ki_ic (0) 19))) (kx_br 20 (kx_lf 19 (ki_istore 3 20)) (kx_br 21 (kx_lf 20 (ki_iload 3 21)) (kx_lf 21 (ki_aload 0 22))))) (kx_br 28 (kx_br 25 (kx_lf 22 (ki_getI 5 2 25)) (kx_lf 25 (ki_icmp_ge 60 28))) (kx_br 29 (kx_lf 28 (ki_iload 2 29)) (kx_br 30 (kx_lf 29 (ki_aload 0 30)) (kx_lf 30 (ki_getR 5 1 36 (fun o => o) 33))))))) (kx_br 46 (kx_br 39 (kx_br 35 (kx_br 34 (kx_lf 33 (ki_iload 3 34)) (kx_lf 34 (ki_iald 35))) (kx_br 38 (kx_lf 35 (ki_icmp_ge 45 38)) (kx_lf 38 (ki_aload 0 39)))) (kx_br 43 (kx_br 42 (kx_lf 39 (ki_getR 5 0 35 (fun o => o) 42)) (kx_lf 42 (ki_iload 3 43))) (kx_br 44 (kx_lf 43 (ki_iald 44)) (kx_br 45 (kx_lf 44 (ki_iret)) (kx_lf 45 (ki_iload 2 46)))))) (kx_br 53 (kx_br 50 (kx_br 47 (kx_lf 46 (ki_aload 0 47)) (kx_lf 47 (ki_getR 5 1 36 (fun o => o) 50))) (kx_br 51 (kx_lf 50 (ki_iload 3 51)) (kx_br 52 (kx_lf 51 (ki_iald 52)) (kx_lf 52 (ki_isub 53))))) (kx_br 57 (kx_br 54 (kx_lf 53 (ki_istore 2 54)) (kx_lf 54 (ki_iinc 3 (1) 57))) (kx_br 60 (kx_lf 57 (ki_goto 20)) (kx_br 61 (kx_lf 60 (ki_ic (0) 61)) (kx_lf 61 (ki_iret))))))))
def sp_X5_weatherAt : kx_Sp := kx_sp tb_X5_weatherAt 4
set_option maxRecDepth 100000 in
set_option maxHeartbeats 4000000 in
theorem kc_X5_weatherAt (l : Launch) : kx_ok1 l yX5_weatherAt (kx_wd yX5_weatherAt cX5_weatherAt 4 (some .int)) ({ frames := 1, cells := 0, slots := 0, locals := 22 }) sp_X5_weatherAt 4 0 0 := kx_met (by decide) ⟨rfl, rfl⟩ (fun p e s m args below meth c Q D C4 A cnt0 ad0 P X Z hr hn => by
  have hx := X.1.1
  have hb := X.1.2.1
  have hts := X.1.2.2.2.2
  exact (kx_sB (kx_sB (kx_sB (kx_sB (kx_sB (kx_sL (ks_aload_n hx hb rfl (by decide +kernel : decode cX5_weatherAt 0 = .ok (.aload_n 0, 1))))
    (kx_sL (ks_getI hx hb hts X.1.2.2.2.1 X.2.1 kf_5 (j := 3) rfl kw_46 (by decide +kernel : decode cX5_weatherAt 1 = .ok (.getfield 22, 3)))))
    (kx_sB (kx_sL (ks_if_gt hx hb (by decide) (by decide +kernel : decode cX5_weatherAt 4 = .ok (.ifCond .gt 5, 3))))
    (kx_sL (ks_iconst hx hb (by decide +kernel) (by decide +kernel : decode cX5_weatherAt 7 = .ok (.iconst 0, 1))))))
    (kx_sB (kx_sB (kx_sL (ks_iret Z hx hb hr (by decide +kernel : decode cX5_weatherAt 8 = .ok (.ireturn, 1))))
    (kx_sL (ks_iload_n hx hb rfl (by decide +kernel : decode cX5_weatherAt 9 = .ok (.iload_n 1, 1)))))
    (kx_sB (kx_sL (ks_aload_n hx hb rfl (by decide +kernel : decode cX5_weatherAt 10 = .ok (.aload_n 0, 1))))
    (kx_sB (kx_sL (ks_getI hx hb hts X.1.2.2.2.1 X.2.1 kf_5 (j := 3) rfl kw_46 (by decide +kernel : decode cX5_weatherAt 11 = .ok (.getfield 22, 3))))
    (kx_sL (ks_cs X (kc_J9_floorMod_7cf53 l) ⟨rfl, rfl⟩ kw_577 kw_578 kw_579 kw_15 (by decide +kernel) (by decide) (by decide +kernel : decode cX5_weatherAt 14 = .ok (.invokestatic 29, 3))))))))
    (kx_sB (kx_sB (kx_sB (kx_sL (ks_istore_n hx hb rfl (by decide) (by decide +kernel : decode cX5_weatherAt 17 = .ok (.istore_n 2, 1))))
    (kx_sL (ks_iconst hx hb (by decide +kernel) (by decide +kernel : decode cX5_weatherAt 18 = .ok (.iconst 0, 1)))))
    (kx_sB (kx_sL (ks_istore_n hx hb rfl (by decide) (by decide +kernel : decode cX5_weatherAt 19 = .ok (.istore_n 3, 1))))
    (kx_sB (kx_sL (ks_iload_n hx hb rfl (by decide +kernel : decode cX5_weatherAt 20 = .ok (.iload_n 3, 1))))
    (kx_sL (ks_aload_n hx hb rfl (by decide +kernel : decode cX5_weatherAt 21 = .ok (.aload_n 0, 1)))))))
    (kx_sB (kx_sB (kx_sL (ks_getI hx hb hts X.1.2.2.2.1 X.2.1 kf_5 (j := 2) rfl kw_44 (by decide +kernel : decode cX5_weatherAt 22 = .ok (.getfield 18, 3))))
    (kx_sL (ks_icmp_ge hx hb (by decide) (by decide +kernel : decode cX5_weatherAt 25 = .ok (.if_icmp .ge 35, 3)))))
    (kx_sB (kx_sL (ks_iload_n hx hb rfl (by decide +kernel : decode cX5_weatherAt 28 = .ok (.iload_n 2, 1))))
    (kx_sB (kx_sL (ks_aload_n hx hb rfl (by decide +kernel : decode cX5_weatherAt 29 = .ok (.aload_n 0, 1))))
    (kx_sL (ks_getR hx hb hts X.1.2.2.2.1 X.2.1 kf_5 (j := 1) rfl kw_43 (by decide +kernel : decode cX5_weatherAt 30 = .ok (.getfield 15, 3)))))))))
    (kx_sB (kx_sB (kx_sB (kx_sB (kx_sL (ks_iload_n hx hb rfl (by decide +kernel : decode cX5_weatherAt 33 = .ok (.iload_n 3, 1))))
    (kx_sL (ks_iald hx hb X.2.1 (by decide +kernel : decode cX5_weatherAt 34 = .ok (.iaload, 1)))))
    (kx_sB (kx_sL (ks_icmp_ge hx hb (by decide) (by decide +kernel : decode cX5_weatherAt 35 = .ok (.if_icmp .ge 10, 3))))
    (kx_sL (ks_aload_n hx hb rfl (by decide +kernel : decode cX5_weatherAt 38 = .ok (.aload_n 0, 1))))))
    (kx_sB (kx_sB (kx_sL (ks_getR hx hb hts X.1.2.2.2.1 X.2.1 kf_5 (j := 0) rfl kw_42 (by decide +kernel : decode cX5_weatherAt 39 = .ok (.getfield 11, 3))))
    (kx_sL (ks_iload_n hx hb rfl (by decide +kernel : decode cX5_weatherAt 42 = .ok (.iload_n 3, 1)))))
    (kx_sB (kx_sL (ks_iald hx hb X.2.1 (by decide +kernel : decode cX5_weatherAt 43 = .ok (.iaload, 1))))
    (kx_sB (kx_sL (ks_iret Z hx hb hr (by decide +kernel : decode cX5_weatherAt 44 = .ok (.ireturn, 1))))
    (kx_sL (ks_iload_n hx hb rfl (by decide +kernel : decode cX5_weatherAt 45 = .ok (.iload_n 2, 1))))))))
    (kx_sB (kx_sB (kx_sB (kx_sL (ks_aload_n hx hb rfl (by decide +kernel : decode cX5_weatherAt 46 = .ok (.aload_n 0, 1))))
    (kx_sL (ks_getR hx hb hts X.1.2.2.2.1 X.2.1 kf_5 (j := 1) rfl kw_43 (by decide +kernel : decode cX5_weatherAt 47 = .ok (.getfield 15, 3)))))
    (kx_sB (kx_sL (ks_iload_n hx hb rfl (by decide +kernel : decode cX5_weatherAt 50 = .ok (.iload_n 3, 1))))
    (kx_sB (kx_sL (ks_iald hx hb X.2.1 (by decide +kernel : decode cX5_weatherAt 51 = .ok (.iaload, 1))))
    (kx_sL (ks_isub hx hb (by decide +kernel : decode cX5_weatherAt 52 = .ok (.isub, 1)))))))
    (kx_sB (kx_sB (kx_sL (ks_istore_n hx hb rfl (by decide) (by decide +kernel : decode cX5_weatherAt 53 = .ok (.istore_n 2, 1))))
    (kx_sL (ks_iinc hx hb (by decide +kernel) (by decide) (by decide +kernel : decode cX5_weatherAt 54 = .ok (.iinc 3 1, 3)))))
    (kx_sB (kx_sL (ks_goto hx hb (by decide) (by decide +kernel : decode cX5_weatherAt 57 = .ok (.goto (-37), 3))))
    (kx_sB (kx_sL (ks_iconst hx hb (by decide +kernel) (by decide +kernel : decode cX5_weatherAt 60 = .ok (.iconst 0, 1))))
    (kx_sL (ks_iret Z hx hb hr (by decide +kernel : decode cX5_weatherAt 61 = .ok (.ireturn, 1)))))))))))
def tb_X5_become : Nat → kx_T := (kx_br 21 (kx_br 10 (kx_br 5 (kx_br 1 (kx_lf 0 (ki_aload 1 1)) (kx_br 4 (kx_lf 1 (ki_getR 5 0 35 (fun o => o) 4)) (kx_lf 4 (ki_ic (0) 5)))) (kx_br 6 (kx_lf 5 (ki_aload 0 6)) (kx_br 9 (kx_lf 6 (ki_getR 5 0 35 (fun o => o) 9)) (kx_lf 9 (ki_ic (0) 10))))) (kx_br 16 (kx_br 12 (kx_lf 10 (ki_ic (20) 12)) (kx_br 15 (kx_lf 12 (ki_acopy 15)) (kx_lf 15 (ki_aload 1 16)))) (kx_br 19 (kx_lf 16 (ki_getR 5 1 36 (fun o => o) 19)) (kx_br 20 (kx_lf 19 (ki_ic (0) 20)) (kx_lf 20 (ki_aload 0 21)))))) (kx_br 32 (kx_br 27 (kx_br 24 (kx_lf 21 (ki_getR 5 1 36 (fun o => o) 24)) (kx_br 25 (kx_lf 24 (ki_ic (0) 25)) (kx_lf 25 (ki_ic (20) 27)))) (kx_br 30 (kx_lf 27 (ki_acopy 30)) (kx_br 31 (kx_lf 30 (ki_aload 0 31)) (kx_lf 31 (ki_aload 1 32))))) (kx_br 39 (kx_br 35 (kx_lf 32 (ki_getI 5 2 35)) (kx_br 38 (kx_lf 35 (ki_putI 5 2 38)) (kx_lf 38 (ki_aload 0 39)))) (kx_br 43 (kx_br 40 (kx_lf 39 (ki_aload 1 40)) (kx_lf 40 (ki_getI 5 3 43))) (kx_br 46 (kx_lf 43 (ki_putI 5 3 46)) (kx_lf 46 (ki_vret)))))))
def sp_X5_become : kx_Sp := kx_sp tb_X5_become 2
set_option maxRecDepth 100000 in
set_option maxHeartbeats 4000000 in
theorem kc_X5_become (l : Launch) : kx_ok1 l yX5_become (kx_wd yX5_become cX5_become 2 none) ({ frames := 1, cells := 0, slots := 0, locals := 40 }) sp_X5_become 2 0 0 := kx_met (by decide) ⟨rfl, rfl⟩ (fun p e s m args below meth c Q D C4 A cnt0 ad0 P X Z hr hn => by
  have hx := X.1.1
  have hb := X.1.2.1
  have hts := X.1.2.2.2.2
  exact (kx_sB (kx_sB (kx_sB (kx_sB (kx_sL (ks_aload_n hx hb rfl (by decide +kernel : decode cX5_become 0 = .ok (.aload_n 1, 1))))
    (kx_sB (kx_sL (ks_getR hx hb hts X.1.2.2.2.1 X.2.1 kf_5 (j := 0) rfl kw_42 (by decide +kernel : decode cX5_become 1 = .ok (.getfield 11, 3))))
    (kx_sL (ks_iconst hx hb (by decide +kernel) (by decide +kernel : decode cX5_become 4 = .ok (.iconst 0, 1))))))
    (kx_sB (kx_sL (ks_aload_n hx hb rfl (by decide +kernel : decode cX5_become 5 = .ok (.aload_n 0, 1))))
    (kx_sB (kx_sL (ks_getR hx hb hts X.1.2.2.2.1 X.2.1 kf_5 (j := 0) rfl kw_42 (by decide +kernel : decode cX5_become 6 = .ok (.getfield 11, 3))))
    (kx_sL (ks_iconst hx hb (by decide +kernel) (by decide +kernel : decode cX5_become 9 = .ok (.iconst 0, 1)))))))
    (kx_sB (kx_sB (kx_sL (ks_bipush hx hb (by decide +kernel) (by decide +kernel : decode cX5_become 10 = .ok (.bipush 20, 2))))
    (kx_sB (kx_sL (ks_acopy hx hb X.2.1 hts X.1.2.2.1 X.1.2.2.2.1 kw_568 kw_432 kw_431 kw_14 (by decide) (by decide +kernel) (by decide +kernel : decode cX5_become 12 = .ok (.invokestatic 35, 3))))
    (kx_sL (ks_aload_n hx hb rfl (by decide +kernel : decode cX5_become 15 = .ok (.aload_n 1, 1))))))
    (kx_sB (kx_sL (ks_getR hx hb hts X.1.2.2.2.1 X.2.1 kf_5 (j := 1) rfl kw_43 (by decide +kernel : decode cX5_become 16 = .ok (.getfield 15, 3))))
    (kx_sB (kx_sL (ks_iconst hx hb (by decide +kernel) (by decide +kernel : decode cX5_become 19 = .ok (.iconst 0, 1))))
    (kx_sL (ks_aload_n hx hb rfl (by decide +kernel : decode cX5_become 20 = .ok (.aload_n 0, 1))))))))
    (kx_sB (kx_sB (kx_sB (kx_sL (ks_getR hx hb hts X.1.2.2.2.1 X.2.1 kf_5 (j := 1) rfl kw_43 (by decide +kernel : decode cX5_become 21 = .ok (.getfield 15, 3))))
    (kx_sB (kx_sL (ks_iconst hx hb (by decide +kernel) (by decide +kernel : decode cX5_become 24 = .ok (.iconst 0, 1))))
    (kx_sL (ks_bipush hx hb (by decide +kernel) (by decide +kernel : decode cX5_become 25 = .ok (.bipush 20, 2))))))
    (kx_sB (kx_sL (ks_acopy hx hb X.2.1 hts X.1.2.2.1 X.1.2.2.2.1 kw_568 kw_432 kw_431 kw_14 (by decide) (by decide +kernel) (by decide +kernel : decode cX5_become 27 = .ok (.invokestatic 35, 3))))
    (kx_sB (kx_sL (ks_aload_n hx hb rfl (by decide +kernel : decode cX5_become 30 = .ok (.aload_n 0, 1))))
    (kx_sL (ks_aload_n hx hb rfl (by decide +kernel : decode cX5_become 31 = .ok (.aload_n 1, 1)))))))
    (kx_sB (kx_sB (kx_sL (ks_getI hx hb hts X.1.2.2.2.1 X.2.1 kf_5 (j := 2) rfl kw_44 (by decide +kernel : decode cX5_become 32 = .ok (.getfield 18, 3))))
    (kx_sB (kx_sL (ks_putI hx hb hts X.1.2.2.2.1 X.2.1 kf_5 (j := 2) rfl kw_44 (by decide +kernel) (by decide +kernel) (by decide +kernel : decode cX5_become 35 = .ok (.putfield 18, 3))))
    (kx_sL (ks_aload_n hx hb rfl (by decide +kernel : decode cX5_become 38 = .ok (.aload_n 0, 1))))))
    (kx_sB (kx_sB (kx_sL (ks_aload_n hx hb rfl (by decide +kernel : decode cX5_become 39 = .ok (.aload_n 1, 1))))
    (kx_sL (ks_getI hx hb hts X.1.2.2.2.1 X.2.1 kf_5 (j := 3) rfl kw_46 (by decide +kernel : decode cX5_become 40 = .ok (.getfield 22, 3)))))
    (kx_sB (kx_sL (ks_putI hx hb hts X.1.2.2.2.1 X.2.1 kf_5 (j := 3) rfl kw_46 (by decide +kernel) (by decide +kernel) (by decide +kernel : decode cX5_become 43 = .ok (.putfield 22, 3))))
    (kx_sL (ks_vret Z hx hb hr (by decide +kernel : decode cX5_become 46 = .ok (.return_, 1))))))))))
def tb_J7_fill_53178 : Nat → kx_T := (kx_br 7 (kx_br 3 (kx_br 1 (kx_lf 0 (ki_ic (0) 1)) (kx_br 2 (kx_lf 1 (ki_istore 2 2)) (kx_lf 2 (ki_aload 0 3)))) (kx_br 5 (kx_br 4 (kx_lf 3 (ki_alen 4)) (kx_lf 4 (ki_istore 3 5))) (kx_br 6 (kx_lf 5 (ki_iload 2 6)) (kx_lf 6 (ki_iload 3 7))))) (kx_br 13 (kx_br 11 (kx_br 10 (kx_lf 7 (ki_icmp_ge 20 10)) (kx_lf 10 (ki_aload 0 11))) (kx_br 12 (kx_lf 11 (ki_iload 2 12)) (kx_lf 12 (ki_iload 1 13)))) (kx_br 17 (kx_br 14 (kx_lf 13 (ki_iast 14)) (kx_lf 14 (ki_iinc 2 (1) 17))) (kx_br 20 (kx_lf 17 (ki_goto 5)) (kx_lf 20 (ki_vret))))))
def sp_J7_fill_53178 : kx_Sp := kx_sp tb_J7_fill_53178 4
set_option maxRecDepth 100000 in
set_option maxHeartbeats 4000000 in
theorem kc_J7_fill_53178 (l : Launch) : kx_ok1 l yJ7_fill_53178 (kx_wd yJ7_fill_53178 cJ7_fill_53178 4 none) ({ frames := 0, cells := 0, slots := 0, locals := 0 }) sp_J7_fill_53178 4 0 0 := kx_metF (by decide +kernel) ⟨rfl, rfl⟩ (fun p e s m args below meth c Q D C4 A cnt0 ad0 P X Z hr hn => by
  have hx := X.1.1
  have hb := X.1.2.1
  have hts := X.1.2.2.2.2
  exact (kx_sB (kx_sB (kx_sB (kx_sL (ks_iconst hx hb (by decide +kernel) (by decide +kernel : decode cJ7_fill_53178 0 = .ok (.iconst 0, 1))))
    (kx_sB (kx_sL (ks_istore_n hx hb rfl (by decide) (by decide +kernel : decode cJ7_fill_53178 1 = .ok (.istore_n 2, 1))))
    (kx_sL (ks_aload_n hx hb rfl (by decide +kernel : decode cJ7_fill_53178 2 = .ok (.aload_n 0, 1))))))
    (kx_sB (kx_sB (kx_sL (ks_alen hx hb X.2.1 (by decide +kernel : decode cJ7_fill_53178 3 = .ok (.arraylength, 1))))
    (kx_sL (ks_istore_n hx hb rfl (by decide) (by decide +kernel : decode cJ7_fill_53178 4 = .ok (.istore_n 3, 1)))))
    (kx_sB (kx_sL (ks_iload_n hx hb rfl (by decide +kernel : decode cJ7_fill_53178 5 = .ok (.iload_n 2, 1))))
    (kx_sL (ks_iload_n hx hb rfl (by decide +kernel : decode cJ7_fill_53178 6 = .ok (.iload_n 3, 1)))))))
    (kx_sB (kx_sB (kx_sB (kx_sL (ks_icmp_ge hx hb (by decide) (by decide +kernel : decode cJ7_fill_53178 7 = .ok (.if_icmp .ge 13, 3))))
    (kx_sL (ks_aload_n hx hb rfl (by decide +kernel : decode cJ7_fill_53178 10 = .ok (.aload_n 0, 1)))))
    (kx_sB (kx_sL (ks_iload_n hx hb rfl (by decide +kernel : decode cJ7_fill_53178 11 = .ok (.iload_n 2, 1))))
    (kx_sL (ks_iload_n hx hb rfl (by decide +kernel : decode cJ7_fill_53178 12 = .ok (.iload_n 1, 1))))))
    (kx_sB (kx_sB (kx_sL (ks_iast hx hb X.2.1 (by decide +kernel : decode cJ7_fill_53178 13 = .ok (.iastore, 1))))
    (kx_sL (ks_iinc hx hb (by decide +kernel) (by decide) (by decide +kernel : decode cJ7_fill_53178 14 = .ok (.iinc 2 1, 3)))))
    (kx_sB (kx_sL (ks_goto hx hb (by decide) (by decide +kernel : decode cJ7_fill_53178 17 = .ok (.goto (-12), 3))))
    (kx_sL (ks_vret Z hx hb hr (by decide +kernel : decode cJ7_fill_53178 20 = .ok (.return_, 1)))))))))
def tb_X6_isDarkAt : Nat → kx_T := (kx_br 15 (kx_br 7 (kx_br 3 (kx_br 1 (kx_lf 0 (ki_iload 1 1)) (kx_lf 1 (ki_ic (24) 3))) (kx_br 6 (kx_lf 3 (ki_cs 2 3 sp_J9_floorMod_7cf53 6)) (kx_lf 6 (ki_istore 2 7)))) (kx_br 9 (kx_br 8 (kx_lf 7 (ki_iload 2 8)) (kx_lf 8 (ki_aload 0 9))) (kx_br 12 (kx_lf 9 (ki_getI 6 5 12)) (kx_lf 12 (ki_icmp_lt 23 15))))) (kx_br 23 (kx_br 17 (kx_br 16 (kx_lf 15 (ki_iload 2 16)) (kx_lf 16 (ki_aload 0 17))) (kx_br 20 (kx_lf 17 (ki_getI 6 6 20)) (kx_lf 20 (ki_icmp_lt 27 23)))) (kx_br 27 (kx_br 24 (kx_lf 23 (ki_ic (1) 24)) (kx_lf 24 (ki_goto 28))) (kx_br 28 (kx_lf 27 (ki_ic (0) 28)) (kx_lf 28 (ki_zret))))))
def sp_X6_isDarkAt : kx_Sp := kx_sp tb_X6_isDarkAt 3
set_option maxRecDepth 100000 in
set_option maxHeartbeats 4000000 in
theorem kc_X6_isDarkAt (l : Launch) : kx_ok1 l yX6_isDarkAt (kx_wd yX6_isDarkAt cX6_isDarkAt 3 (some .boolean)) ({ frames := 1, cells := 0, slots := 0, locals := 22 }) sp_X6_isDarkAt 3 0 0 := kx_met (by decide) ⟨rfl, rfl⟩ (fun p e s m args below meth c Q D C4 A cnt0 ad0 P X Z hr hn => by
  have hx := X.1.1
  have hb := X.1.2.1
  have hts := X.1.2.2.2.2
  exact (kx_sB (kx_sB (kx_sB (kx_sB (kx_sL (ks_iload_n hx hb rfl (by decide +kernel : decode cX6_isDarkAt 0 = .ok (.iload_n 1, 1))))
    (kx_sL (ks_bipush hx hb (by decide +kernel) (by decide +kernel : decode cX6_isDarkAt 1 = .ok (.bipush 24, 2)))))
    (kx_sB (kx_sL (ks_cs X (kc_J9_floorMod_7cf53 l) ⟨rfl, rfl⟩ kw_588 kw_578 kw_579 kw_15 (by decide +kernel) (by decide) (by decide +kernel : decode cX6_isDarkAt 3 = .ok (.invokestatic 83, 3))))
    (kx_sL (ks_istore_n hx hb rfl (by decide) (by decide +kernel : decode cX6_isDarkAt 6 = .ok (.istore_n 2, 1))))))
    (kx_sB (kx_sB (kx_sL (ks_iload_n hx hb rfl (by decide +kernel : decode cX6_isDarkAt 7 = .ok (.iload_n 2, 1))))
    (kx_sL (ks_aload_n hx hb rfl (by decide +kernel : decode cX6_isDarkAt 8 = .ok (.aload_n 0, 1)))))
    (kx_sB (kx_sL (ks_getI hx hb hts X.1.2.2.2.1 X.2.1 kf_6 (j := 5) rfl kw_129 (by decide +kernel : decode cX6_isDarkAt 9 = .ok (.getfield 40, 3))))
    (kx_sL (ks_icmp_lt hx hb (by decide) (by decide +kernel : decode cX6_isDarkAt 12 = .ok (.if_icmp .lt 11, 3)))))))
    (kx_sB (kx_sB (kx_sB (kx_sL (ks_iload_n hx hb rfl (by decide +kernel : decode cX6_isDarkAt 15 = .ok (.iload_n 2, 1))))
    (kx_sL (ks_aload_n hx hb rfl (by decide +kernel : decode cX6_isDarkAt 16 = .ok (.aload_n 0, 1)))))
    (kx_sB (kx_sL (ks_getI hx hb hts X.1.2.2.2.1 X.2.1 kf_6 (j := 6) rfl kw_131 (by decide +kernel : decode cX6_isDarkAt 17 = .ok (.getfield 43, 3))))
    (kx_sL (ks_icmp_lt hx hb (by decide) (by decide +kernel : decode cX6_isDarkAt 20 = .ok (.if_icmp .lt 7, 3))))))
    (kx_sB (kx_sB (kx_sL (ks_iconst hx hb (by decide +kernel) (by decide +kernel : decode cX6_isDarkAt 23 = .ok (.iconst 1, 1))))
    (kx_sL (ks_goto hx hb (by decide) (by decide +kernel : decode cX6_isDarkAt 24 = .ok (.goto 4, 3)))))
    (kx_sB (kx_sL (ks_iconst hx hb (by decide +kernel) (by decide +kernel : decode cX6_isDarkAt 27 = .ok (.iconst 0, 1))))
    (kx_sL (ks_zret Z hx hb hr (by decide +kernel : decode cX6_isDarkAt 28 = .ok (.ireturn, 1)))))))))
def tb_X10_isHourOfDay : Nat → kx_T := (kx_br 2 (kx_br 1 (kx_lf 0 (ki_iload 0 1)) (kx_lf 1 (ki_ic (0) 2))) (kx_br 4 (kx_lf 2 (ki_ic (23) 4)) (kx_br 7 (kx_lf 4 (ki_cs 3 3 sp_X10_isWithin 7)) (kx_lf 7 (ki_zret)))))
def sp_X10_isHourOfDay : kx_Sp := kx_sp tb_X10_isHourOfDay 1
set_option maxRecDepth 100000 in
set_option maxHeartbeats 4000000 in
theorem kc_X10_isHourOfDay (l : Launch) : kx_ok1 l yX10_isHourOfDay (kx_wd yX10_isHourOfDay cX10_isHourOfDay 1 (some .boolean)) ({ frames := 1, cells := 0, slots := 0, locals := 22 }) sp_X10_isHourOfDay 1 0 0 := kx_met (by decide) ⟨rfl, rfl⟩ (fun p e s m args below meth c Q D C4 A cnt0 ad0 P X Z hr hn => by
  have hx := X.1.1
  have hb := X.1.2.1
  have hts := X.1.2.2.2.2
  exact (kx_sB (kx_sB (kx_sL (ks_iload_n hx hb rfl (by decide +kernel : decode cX10_isHourOfDay 0 = .ok (.iload_n 0, 1))))
    (kx_sL (ks_iconst hx hb (by decide +kernel) (by decide +kernel : decode cX10_isHourOfDay 1 = .ok (.iconst 0, 1)))))
    (kx_sB (kx_sL (ks_bipush hx hb (by decide +kernel) (by decide +kernel : decode cX10_isHourOfDay 2 = .ok (.bipush 23, 2))))
    (kx_sB (kx_sL (ks_cs X (kc_X10_isWithin l) ⟨rfl, rfl⟩ kw_369 kw_370 kw_371 kw_1 (by decide +kernel) (by decide) (by decide +kernel : decode cX10_isHourOfDay 4 = .ok (.invokestatic 59, 3))))
    (kx_sL (ks_zret Z hx hb hr (by decide +kernel : decode cX10_isHourOfDay 7 = .ok (.ireturn, 1))))))))
def tb_X6_planned : Nat → kx_T := (kx_br 11 (kx_br 4 (kx_br 1 (kx_lf 0 (ki_iload 1 1)) (kx_lf 1 (ki_cs 1 1 sp_X10_isHourOfDay 4))) (kx_br 7 (kx_lf 4 (ki_if_eq 16 7)) (kx_br 8 (kx_lf 7 (ki_aload 0 8)) (kx_lf 8 (ki_getR 6 3 37 (fun o => o) 11))))) (kx_br 13 (kx_br 12 (kx_lf 11 (ki_iload 1 12)) (kx_lf 12 (ki_iald 13))) (kx_br 16 (kx_lf 13 (ki_goto 17)) (kx_br 17 (kx_lf 16 (ki_ic (-1) 17)) (kx_lf 17 (ki_iret))))))
def sp_X6_planned : kx_Sp := kx_sp tb_X6_planned 2
set_option maxRecDepth 100000 in
set_option maxHeartbeats 4000000 in
theorem kc_X6_planned (l : Launch) : kx_ok1 l yX6_planned (kx_wd yX6_planned cX6_planned 2 (some .int)) ({ frames := 2, cells := 0, slots := 0, locals := 42 }) sp_X6_planned 2 0 0 := kx_met (by decide) ⟨rfl, rfl⟩ (fun p e s m args below meth c Q D C4 A cnt0 ad0 P X Z hr hn => by
  have hx := X.1.1
  have hb := X.1.2.1
  have hts := X.1.2.2.2.2
  exact (kx_sB (kx_sB (kx_sB (kx_sL (ks_iload_n hx hb rfl (by decide +kernel : decode cX6_planned 0 = .ok (.iload_n 1, 1))))
    (kx_sL (ks_csN X (kc_X10_isHourOfDay l) ⟨rfl, rfl⟩ (host := "KeptLight") (by decide +kernel) kw_610 kw_611 kw_1 (by decide +kernel) (by decide) (by decide +kernel : decode cX6_planned 1 = .ok (.invokestatic 89, 3)))))
    (kx_sB (kx_sL (ks_if_eq hx hb (by decide) (by decide +kernel : decode cX6_planned 4 = .ok (.ifCond .eq 12, 3))))
    (kx_sB (kx_sL (ks_aload_n hx hb rfl (by decide +kernel : decode cX6_planned 7 = .ok (.aload_n 0, 1))))
    (kx_sL (ks_getR hx hb hts X.1.2.2.2.1 X.2.1 kf_6 (j := 3) rfl kw_124 (by decide +kernel : decode cX6_planned 8 = .ok (.getfield 32, 3)))))))
    (kx_sB (kx_sB (kx_sL (ks_iload_n hx hb rfl (by decide +kernel : decode cX6_planned 11 = .ok (.iload_n 1, 1))))
    (kx_sL (ks_iald hx hb X.2.1 (by decide +kernel : decode cX6_planned 12 = .ok (.iaload, 1)))))
    (kx_sB (kx_sL (ks_goto hx hb (by decide) (by decide +kernel : decode cX6_planned 13 = .ok (.goto 4, 3))))
    (kx_sB (kx_sL (ks_iconst hx hb (by decide +kernel) (by decide +kernel : decode cX6_planned 16 = .ok (.iconst (-1), 1))))
    (kx_sL (ks_iret Z hx hb hr (by decide +kernel : decode cX6_planned 17 = .ok (.ireturn, 1)))))))))
def tb_X6_assign : Nat → kx_T := (kx_br 8 (kx_br 4 (kx_br 1 (kx_lf 0 (ki_iload 1 1)) (kx_lf 1 (ki_cs 1 1 sp_X10_isHourOfDay 4))) (kx_br 7 (kx_lf 4 (ki_if_eq 14 7)) (kx_lf 7 (ki_aload 0 8)))) (kx_br 12 (kx_br 11 (kx_lf 8 (ki_getR 6 3 37 (fun o => o) 11)) (kx_lf 11 (ki_iload 1 12))) (kx_br 13 (kx_lf 12 (ki_iload 2 13)) (kx_br 14 (kx_lf 13 (ki_iast 14)) (kx_lf 14 (ki_vret))))))
def sp_X6_assign : kx_Sp := kx_sp tb_X6_assign 3
set_option maxRecDepth 100000 in
set_option maxHeartbeats 4000000 in
theorem kc_X6_assign (l : Launch) : kx_ok1 l yX6_assign (kx_wd yX6_assign cX6_assign 3 none) ({ frames := 2, cells := 0, slots := 0, locals := 42 }) sp_X6_assign 3 0 0 := kx_met (by decide) ⟨rfl, rfl⟩ (fun p e s m args below meth c Q D C4 A cnt0 ad0 P X Z hr hn => by
  have hx := X.1.1
  have hb := X.1.2.1
  have hts := X.1.2.2.2.2
  exact (kx_sB (kx_sB (kx_sB (kx_sL (ks_iload_n hx hb rfl (by decide +kernel : decode cX6_assign 0 = .ok (.iload_n 1, 1))))
    (kx_sL (ks_csN X (kc_X10_isHourOfDay l) ⟨rfl, rfl⟩ (host := "KeptLight") (by decide +kernel) kw_610 kw_611 kw_1 (by decide +kernel) (by decide) (by decide +kernel : decode cX6_assign 1 = .ok (.invokestatic 89, 3)))))
    (kx_sB (kx_sL (ks_if_eq hx hb (by decide) (by decide +kernel : decode cX6_assign 4 = .ok (.ifCond .eq 10, 3))))
    (kx_sL (ks_aload_n hx hb rfl (by decide +kernel : decode cX6_assign 7 = .ok (.aload_n 0, 1))))))
    (kx_sB (kx_sB (kx_sL (ks_getR hx hb hts X.1.2.2.2.1 X.2.1 kf_6 (j := 3) rfl kw_124 (by decide +kernel : decode cX6_assign 8 = .ok (.getfield 32, 3))))
    (kx_sL (ks_iload_n hx hb rfl (by decide +kernel : decode cX6_assign 11 = .ok (.iload_n 1, 1)))))
    (kx_sB (kx_sL (ks_iload_n hx hb rfl (by decide +kernel : decode cX6_assign 12 = .ok (.iload_n 2, 1))))
    (kx_sB (kx_sL (ks_iast hx hb X.2.1 (by decide +kernel : decode cX6_assign 13 = .ok (.iastore, 1))))
    (kx_sL (ks_vret Z hx hb hr (by decide +kernel : decode cX6_assign 14 = .ok (.return_, 1)))))))))
def tb_X6_relieve : Nat → kx_T := (kx_br 14 (kx_br 5 (kx_br 2 (kx_br 1 (kx_lf 0 (ki_ic (0) 1)) (kx_lf 1 (ki_istore 2 2))) (kx_br 3 (kx_lf 2 (ki_iload 2 3)) (kx_lf 3 (ki_ic (24) 5)))) (kx_br 9 (kx_br 8 (kx_lf 5 (ki_icmp_ge 31 8)) (kx_lf 8 (ki_aload 0 9))) (kx_br 12 (kx_lf 9 (ki_getR 6 3 37 (fun o => o) 12)) (kx_br 13 (kx_lf 12 (ki_iload 2 13)) (kx_lf 13 (ki_iald 14)))))) (kx_br 23 (kx_br 18 (kx_br 15 (kx_lf 14 (ki_iload 1 15)) (kx_lf 15 (ki_icmp_ne 25 18))) (kx_br 19 (kx_lf 18 (ki_aload 0 19)) (kx_br 22 (kx_lf 19 (ki_getR 6 3 37 (fun o => o) 22)) (kx_lf 22 (ki_iload 2 23))))) (kx_br 25 (kx_br 24 (kx_lf 23 (ki_ic (-1) 24)) (kx_lf 24 (ki_iast 25))) (kx_br 28 (kx_lf 25 (ki_iinc 2 (1) 28)) (kx_br 31 (kx_lf 28 (ki_goto 2)) (kx_lf 31 (ki_vret)))))))
def sp_X6_relieve : kx_Sp := kx_sp tb_X6_relieve 3
set_option maxRecDepth 100000 in
set_option maxHeartbeats 4000000 in
theorem kc_X6_relieve (l : Launch) : kx_ok1 l yX6_relieve (kx_wd yX6_relieve cX6_relieve 3 none) ({ frames := 0, cells := 0, slots := 0, locals := 0 }) sp_X6_relieve 3 0 0 := kx_met (by decide) ⟨rfl, rfl⟩ (fun p e s m args below meth c Q D C4 A cnt0 ad0 P X Z hr hn => by
  have hx := X.1.1
  have hb := X.1.2.1
  have hts := X.1.2.2.2.2
  exact (kx_sB (kx_sB (kx_sB (kx_sB (kx_sL (ks_iconst hx hb (by decide +kernel) (by decide +kernel : decode cX6_relieve 0 = .ok (.iconst 0, 1))))
    (kx_sL (ks_istore_n hx hb rfl (by decide) (by decide +kernel : decode cX6_relieve 1 = .ok (.istore_n 2, 1)))))
    (kx_sB (kx_sL (ks_iload_n hx hb rfl (by decide +kernel : decode cX6_relieve 2 = .ok (.iload_n 2, 1))))
    (kx_sL (ks_bipush hx hb (by decide +kernel) (by decide +kernel : decode cX6_relieve 3 = .ok (.bipush 24, 2))))))
    (kx_sB (kx_sB (kx_sL (ks_icmp_ge hx hb (by decide) (by decide +kernel : decode cX6_relieve 5 = .ok (.if_icmp .ge 26, 3))))
    (kx_sL (ks_aload_n hx hb rfl (by decide +kernel : decode cX6_relieve 8 = .ok (.aload_n 0, 1)))))
    (kx_sB (kx_sL (ks_getR hx hb hts X.1.2.2.2.1 X.2.1 kf_6 (j := 3) rfl kw_124 (by decide +kernel : decode cX6_relieve 9 = .ok (.getfield 32, 3))))
    (kx_sB (kx_sL (ks_iload_n hx hb rfl (by decide +kernel : decode cX6_relieve 12 = .ok (.iload_n 2, 1))))
    (kx_sL (ks_iald hx hb X.2.1 (by decide +kernel : decode cX6_relieve 13 = .ok (.iaload, 1))))))))
    (kx_sB (kx_sB (kx_sB (kx_sL (ks_iload_n hx hb rfl (by decide +kernel : decode cX6_relieve 14 = .ok (.iload_n 1, 1))))
    (kx_sL (ks_icmp_ne hx hb (by decide) (by decide +kernel : decode cX6_relieve 15 = .ok (.if_icmp .ne 10, 3)))))
    (kx_sB (kx_sL (ks_aload_n hx hb rfl (by decide +kernel : decode cX6_relieve 18 = .ok (.aload_n 0, 1))))
    (kx_sB (kx_sL (ks_getR hx hb hts X.1.2.2.2.1 X.2.1 kf_6 (j := 3) rfl kw_124 (by decide +kernel : decode cX6_relieve 19 = .ok (.getfield 32, 3))))
    (kx_sL (ks_iload_n hx hb rfl (by decide +kernel : decode cX6_relieve 22 = .ok (.iload_n 2, 1)))))))
    (kx_sB (kx_sB (kx_sL (ks_iconst hx hb (by decide +kernel) (by decide +kernel : decode cX6_relieve 23 = .ok (.iconst (-1), 1))))
    (kx_sL (ks_iast hx hb X.2.1 (by decide +kernel : decode cX6_relieve 24 = .ok (.iastore, 1)))))
    (kx_sB (kx_sL (ks_iinc hx hb (by decide +kernel) (by decide) (by decide +kernel : decode cX6_relieve 25 = .ok (.iinc 2 1, 3))))
    (kx_sB (kx_sL (ks_goto hx hb (by decide) (by decide +kernel : decode cX6_relieve 28 = .ok (.goto (-26), 3))))
    (kx_sL (ks_vret Z hx hb hr (by decide +kernel : decode cX6_relieve 31 = .ok (.return_, 1))))))))))
def tb_X6_hoursPlannedFor : Nat → kx_T := (kx_br 16 (kx_br 5 (kx_br 2 (kx_br 1 (kx_lf 0 (ki_ic (0) 1)) (kx_lf 1 (ki_istore 2 2))) (kx_br 3 (kx_lf 2 (ki_ic (0) 3)) (kx_br 4 (kx_lf 3 (ki_istore 3 4)) (kx_lf 4 (ki_iload 3 5))))) (kx_br 11 (kx_br 7 (kx_lf 5 (ki_ic (24) 7)) (kx_br 10 (kx_lf 7 (ki_icmp_ge 34 10)) (kx_lf 10 (ki_iload 2 11)))) (kx_br 12 (kx_lf 11 (ki_aload 0 12)) (kx_br 15 (kx_lf 12 (ki_getR 6 3 37 (fun o => o) 15)) (kx_lf 15 (ki_iload 3 16)))))) (kx_br 26 (kx_br 21 (kx_br 17 (kx_lf 16 (ki_iald 17)) (kx_br 18 (kx_lf 17 (ki_iload 1 18)) (kx_lf 18 (ki_icmp_ne 25 21)))) (kx_br 22 (kx_lf 21 (ki_ic (1) 22)) (kx_br 25 (kx_lf 22 (ki_goto 26)) (kx_lf 25 (ki_ic (0) 26))))) (kx_br 31 (kx_br 27 (kx_lf 26 (ki_iadd 27)) (kx_br 28 (kx_lf 27 (ki_istore 2 28)) (kx_lf 28 (ki_iinc 3 (1) 31)))) (kx_br 34 (kx_lf 31 (ki_goto 4)) (kx_br 35 (kx_lf 34 (ki_iload 2 35)) (kx_lf 35 (ki_iret)))))))
def sp_X6_hoursPlannedFor : kx_Sp := kx_sp tb_X6_hoursPlannedFor 4
set_option maxRecDepth 100000 in
set_option maxHeartbeats 4000000 in
theorem kc_X6_hoursPlannedFor (l : Launch) : kx_ok1 l yX6_hoursPlannedFor (kx_wd yX6_hoursPlannedFor cX6_hoursPlannedFor 4 (some .int)) ({ frames := 0, cells := 0, slots := 0, locals := 0 }) sp_X6_hoursPlannedFor 4 0 0 := kx_met (by decide) ⟨rfl, rfl⟩ (fun p e s m args below meth c Q D C4 A cnt0 ad0 P X Z hr hn => by
  have hx := X.1.1
  have hb := X.1.2.1
  have hts := X.1.2.2.2.2
  exact (kx_sB (kx_sB (kx_sB (kx_sB (kx_sL (ks_iconst hx hb (by decide +kernel) (by decide +kernel : decode cX6_hoursPlannedFor 0 = .ok (.iconst 0, 1))))
    (kx_sL (ks_istore_n hx hb rfl (by decide) (by decide +kernel : decode cX6_hoursPlannedFor 1 = .ok (.istore_n 2, 1)))))
    (kx_sB (kx_sL (ks_iconst hx hb (by decide +kernel) (by decide +kernel : decode cX6_hoursPlannedFor 2 = .ok (.iconst 0, 1))))
    (kx_sB (kx_sL (ks_istore_n hx hb rfl (by decide) (by decide +kernel : decode cX6_hoursPlannedFor 3 = .ok (.istore_n 3, 1))))
    (kx_sL (ks_iload_n hx hb rfl (by decide +kernel : decode cX6_hoursPlannedFor 4 = .ok (.iload_n 3, 1)))))))
    (kx_sB (kx_sB (kx_sL (ks_bipush hx hb (by decide +kernel) (by decide +kernel : decode cX6_hoursPlannedFor 5 = .ok (.bipush 24, 2))))
    (kx_sB (kx_sL (ks_icmp_ge hx hb (by decide) (by decide +kernel : decode cX6_hoursPlannedFor 7 = .ok (.if_icmp .ge 27, 3))))
    (kx_sL (ks_iload_n hx hb rfl (by decide +kernel : decode cX6_hoursPlannedFor 10 = .ok (.iload_n 2, 1))))))
    (kx_sB (kx_sL (ks_aload_n hx hb rfl (by decide +kernel : decode cX6_hoursPlannedFor 11 = .ok (.aload_n 0, 1))))
    (kx_sB (kx_sL (ks_getR hx hb hts X.1.2.2.2.1 X.2.1 kf_6 (j := 3) rfl kw_124 (by decide +kernel : decode cX6_hoursPlannedFor 12 = .ok (.getfield 32, 3))))
    (kx_sL (ks_iload_n hx hb rfl (by decide +kernel : decode cX6_hoursPlannedFor 15 = .ok (.iload_n 3, 1))))))))
    (kx_sB (kx_sB (kx_sB (kx_sL (ks_iald hx hb X.2.1 (by decide +kernel : decode cX6_hoursPlannedFor 16 = .ok (.iaload, 1))))
    (kx_sB (kx_sL (ks_iload_n hx hb rfl (by decide +kernel : decode cX6_hoursPlannedFor 17 = .ok (.iload_n 1, 1))))
    (kx_sL (ks_icmp_ne hx hb (by decide) (by decide +kernel : decode cX6_hoursPlannedFor 18 = .ok (.if_icmp .ne 7, 3))))))
    (kx_sB (kx_sL (ks_iconst hx hb (by decide +kernel) (by decide +kernel : decode cX6_hoursPlannedFor 21 = .ok (.iconst 1, 1))))
    (kx_sB (kx_sL (ks_goto hx hb (by decide) (by decide +kernel : decode cX6_hoursPlannedFor 22 = .ok (.goto 4, 3))))
    (kx_sL (ks_iconst hx hb (by decide +kernel) (by decide +kernel : decode cX6_hoursPlannedFor 25 = .ok (.iconst 0, 1)))))))
    (kx_sB (kx_sB (kx_sL (ks_iadd hx hb (by decide +kernel : decode cX6_hoursPlannedFor 26 = .ok (.iadd, 1))))
    (kx_sB (kx_sL (ks_istore_n hx hb rfl (by decide) (by decide +kernel : decode cX6_hoursPlannedFor 27 = .ok (.istore_n 2, 1))))
    (kx_sL (ks_iinc hx hb (by decide +kernel) (by decide) (by decide +kernel : decode cX6_hoursPlannedFor 28 = .ok (.iinc 3 1, 3))))))
    (kx_sB (kx_sL (ks_goto hx hb (by decide) (by decide +kernel : decode cX6_hoursPlannedFor 31 = .ok (.goto (-27), 3))))
    (kx_sB (kx_sL (ks_iload_n hx hb rfl (by decide +kernel : decode cX6_hoursPlannedFor 34 = .ok (.iload_n 2, 1))))
    (kx_sL (ks_iret Z hx hb hr (by decide +kernel : decode cX6_hoursPlannedFor 35 = .ok (.ireturn, 1))))))))))
def tb_X6_tendLamp : Nat → kx_T := (kx_br 51 (kx_br 26 (kx_br 14 (kx_br 7 (kx_br 1 (kx_lf 0 (ki_aload 0 1)) (kx_br 4 (kx_lf 1 (ki_getI 6 15 4)) (kx_lf 4 (ki_if_ne 21 7)))) (kx_br 8 (kx_lf 7 (ki_aload 0 8)) (kx_br 11 (kx_lf 8 (ki_getI 6 10 11)) (kx_lf 11 (ki_if_eq 25 14))))) (kx_br 21 (kx_br 15 (kx_lf 14 (ki_aload 0 15)) (kx_br 18 (kx_lf 15 (ki_getI 6 11 18)) (kx_lf 18 (ki_if_ne 25 21)))) (kx_br 22 (kx_lf 21 (ki_ic (1) 22)) (kx_br 25 (kx_lf 22 (ki_goto 26)) (kx_lf 25 (ki_ic (0) 26)))))) (kx_br 36 (kx_br 29 (kx_br 27 (kx_lf 26 (ki_istore 1 27)) (kx_br 28 (kx_lf 27 (ki_aload 0 28)) (kx_lf 28 (ki_aload 0 29)))) (kx_br 32 (kx_lf 29 (ki_getI 6 13 32)) (kx_br 35 (kx_lf 32 (ki_if_eq 54 35)) (kx_lf 35 (ki_iload 1 36))))) (kx_br 43 (kx_br 39 (kx_lf 36 (ki_if_eq 54 39)) (kx_br 40 (kx_lf 39 (ki_aload 0 40)) (kx_lf 40 (ki_getI 6 8 43)))) (kx_br 47 (kx_br 44 (kx_lf 43 (ki_aload 0 44)) (kx_lf 44 (ki_getI 6 7 47))) (kx_br 50 (kx_lf 47 (ki_icmp_lt 54 50)) (kx_lf 50 (ki_ic (1) 51))))))) (kx_br 77 (kx_br 63 (kx_br 58 (kx_br 54 (kx_lf 51 (ki_goto 55)) (kx_br 55 (kx_lf 54 (ki_ic (0) 55)) (kx_lf 55 (ki_putZ 6 10 58)))) (kx_br 59 (kx_lf 58 (ki_aload 0 59)) (kx_br 60 (kx_lf 59 (ki_aload 0 60)) (kx_lf 60 (ki_getI 6 10 63))))) (kx_br 70 (kx_br 66 (kx_lf 63 (ki_if_eq 77 66)) (kx_br 67 (kx_lf 66 (ki_aload 0 67)) (kx_lf 67 (ki_getI 6 15 70)))) (kx_br 73 (kx_lf 70 (ki_if_ne 77 73)) (kx_br 74 (kx_lf 73 (ki_ic (1) 74)) (kx_lf 74 (ki_goto 78)))))) (kx_br 89 (kx_br 82 (kx_br 78 (kx_lf 77 (ki_ic (0) 78)) (kx_br 81 (kx_lf 78 (ki_putI 6 11 81)) (kx_lf 81 (ki_aload 0 82)))) (kx_br 85 (kx_lf 82 (ki_getI 6 10 85)) (kx_br 88 (kx_lf 85 (ki_if_eq 101 88)) (kx_lf 88 (ki_aload 0 89))))) (kx_br 94 (kx_br 90 (kx_lf 89 (ki_dup 90)) (kx_br 93 (kx_lf 90 (ki_getI 6 8 93)) (kx_lf 93 (ki_aload 0 94)))) (kx_br 98 (kx_br 97 (kx_lf 94 (ki_getI 6 7 97)) (kx_lf 97 (ki_isub 98))) (kx_br 101 (kx_lf 98 (ki_putI 6 8 101)) (kx_lf 101 (ki_vret))))))))
def sp_X6_tendLamp : kx_Sp := kx_sp tb_X6_tendLamp 2
set_option maxRecDepth 100000 in
set_option maxHeartbeats 4000000 in
theorem kc_X6_tendLamp (l : Launch) : kx_ok1 l yX6_tendLamp (kx_wd yX6_tendLamp cX6_tendLamp 2 none) ({ frames := 0, cells := 0, slots := 0, locals := 0 }) sp_X6_tendLamp 2 0 0 := kx_met (by decide) ⟨rfl, rfl⟩ (fun p e s m args below meth c Q D C4 A cnt0 ad0 P X Z hr hn => by
  have hx := X.1.1
  have hb := X.1.2.1
  have hts := X.1.2.2.2.2
  exact (kx_sB (kx_sB (kx_sB (kx_sB (kx_sB (kx_sL (ks_aload_n hx hb rfl (by decide +kernel : decode cX6_tendLamp 0 = .ok (.aload_n 0, 1))))
    (kx_sB (kx_sL (ks_getI hx hb hts X.1.2.2.2.1 X.2.1 kf_6 (j := 15) rfl kw_151 (by decide +kernel : decode cX6_tendLamp 1 = .ok (.getfield 71, 3))))
    (kx_sL (ks_if_ne hx hb (by decide) (by decide +kernel : decode cX6_tendLamp 4 = .ok (.ifCond .ne 17, 3))))))
    (kx_sB (kx_sL (ks_aload_n hx hb rfl (by decide +kernel : decode cX6_tendLamp 7 = .ok (.aload_n 0, 1))))
    (kx_sB (kx_sL (ks_getI hx hb hts X.1.2.2.2.1 X.2.1 kf_6 (j := 10) rfl kw_139 (by decide +kernel : decode cX6_tendLamp 8 = .ok (.getfield 55, 3))))
    (kx_sL (ks_if_eq hx hb (by decide) (by decide +kernel : decode cX6_tendLamp 11 = .ok (.ifCond .eq 14, 3)))))))
    (kx_sB (kx_sB (kx_sL (ks_aload_n hx hb rfl (by decide +kernel : decode cX6_tendLamp 14 = .ok (.aload_n 0, 1))))
    (kx_sB (kx_sL (ks_getI hx hb hts X.1.2.2.2.1 X.2.1 kf_6 (j := 11) rfl kw_142 (by decide +kernel : decode cX6_tendLamp 15 = .ok (.getfield 59, 3))))
    (kx_sL (ks_if_ne hx hb (by decide) (by decide +kernel : decode cX6_tendLamp 18 = .ok (.ifCond .ne 7, 3))))))
    (kx_sB (kx_sL (ks_iconst hx hb (by decide +kernel) (by decide +kernel : decode cX6_tendLamp 21 = .ok (.iconst 1, 1))))
    (kx_sB (kx_sL (ks_goto hx hb (by decide) (by decide +kernel : decode cX6_tendLamp 22 = .ok (.goto 4, 3))))
    (kx_sL (ks_iconst hx hb (by decide +kernel) (by decide +kernel : decode cX6_tendLamp 25 = .ok (.iconst 0, 1))))))))
    (kx_sB (kx_sB (kx_sB (kx_sL (ks_istore_n hx hb rfl (by decide) (by decide +kernel : decode cX6_tendLamp 26 = .ok (.istore_n 1, 1))))
    (kx_sB (kx_sL (ks_aload_n hx hb rfl (by decide +kernel : decode cX6_tendLamp 27 = .ok (.aload_n 0, 1))))
    (kx_sL (ks_aload_n hx hb rfl (by decide +kernel : decode cX6_tendLamp 28 = .ok (.aload_n 0, 1))))))
    (kx_sB (kx_sL (ks_getI hx hb hts X.1.2.2.2.1 X.2.1 kf_6 (j := 13) rfl kw_146 (by decide +kernel : decode cX6_tendLamp 29 = .ok (.getfield 65, 3))))
    (kx_sB (kx_sL (ks_if_eq hx hb (by decide) (by decide +kernel : decode cX6_tendLamp 32 = .ok (.ifCond .eq 22, 3))))
    (kx_sL (ks_iload_n hx hb rfl (by decide +kernel : decode cX6_tendLamp 35 = .ok (.iload_n 1, 1)))))))
    (kx_sB (kx_sB (kx_sL (ks_if_eq hx hb (by decide) (by decide +kernel : decode cX6_tendLamp 36 = .ok (.ifCond .eq 18, 3))))
    (kx_sB (kx_sL (ks_aload_n hx hb rfl (by decide +kernel : decode cX6_tendLamp 39 = .ok (.aload_n 0, 1))))
    (kx_sL (ks_getI hx hb hts X.1.2.2.2.1 X.2.1 kf_6 (j := 8) rfl kw_135 (by decide +kernel : decode cX6_tendLamp 40 = .ok (.getfield 49, 3))))))
    (kx_sB (kx_sB (kx_sL (ks_aload_n hx hb rfl (by decide +kernel : decode cX6_tendLamp 43 = .ok (.aload_n 0, 1))))
    (kx_sL (ks_getI hx hb hts X.1.2.2.2.1 X.2.1 kf_6 (j := 7) rfl kw_133 (by decide +kernel : decode cX6_tendLamp 44 = .ok (.getfield 46, 3)))))
    (kx_sB (kx_sL (ks_icmp_lt hx hb (by decide) (by decide +kernel : decode cX6_tendLamp 47 = .ok (.if_icmp .lt 7, 3))))
    (kx_sL (ks_iconst hx hb (by decide +kernel) (by decide +kernel : decode cX6_tendLamp 50 = .ok (.iconst 1, 1)))))))))
    (kx_sB (kx_sB (kx_sB (kx_sB (kx_sL (ks_goto hx hb (by decide) (by decide +kernel : decode cX6_tendLamp 51 = .ok (.goto 4, 3))))
    (kx_sB (kx_sL (ks_iconst hx hb (by decide +kernel) (by decide +kernel : decode cX6_tendLamp 54 = .ok (.iconst 0, 1))))
    (kx_sL (ks_putZ hx hb hts X.1.2.2.2.1 X.2.1 kf_6 (j := 10) rfl kw_139 (by decide +kernel) (by decide +kernel) (by decide +kernel : decode cX6_tendLamp 55 = .ok (.putfield 55, 3))))))
    (kx_sB (kx_sL (ks_aload_n hx hb rfl (by decide +kernel : decode cX6_tendLamp 58 = .ok (.aload_n 0, 1))))
    (kx_sB (kx_sL (ks_aload_n hx hb rfl (by decide +kernel : decode cX6_tendLamp 59 = .ok (.aload_n 0, 1))))
    (kx_sL (ks_getI hx hb hts X.1.2.2.2.1 X.2.1 kf_6 (j := 10) rfl kw_139 (by decide +kernel : decode cX6_tendLamp 60 = .ok (.getfield 55, 3)))))))
    (kx_sB (kx_sB (kx_sL (ks_if_eq hx hb (by decide) (by decide +kernel : decode cX6_tendLamp 63 = .ok (.ifCond .eq 14, 3))))
    (kx_sB (kx_sL (ks_aload_n hx hb rfl (by decide +kernel : decode cX6_tendLamp 66 = .ok (.aload_n 0, 1))))
    (kx_sL (ks_getI hx hb hts X.1.2.2.2.1 X.2.1 kf_6 (j := 15) rfl kw_151 (by decide +kernel : decode cX6_tendLamp 67 = .ok (.getfield 71, 3))))))
    (kx_sB (kx_sL (ks_if_ne hx hb (by decide) (by decide +kernel : decode cX6_tendLamp 70 = .ok (.ifCond .ne 7, 3))))
    (kx_sB (kx_sL (ks_iconst hx hb (by decide +kernel) (by decide +kernel : decode cX6_tendLamp 73 = .ok (.iconst 1, 1))))
    (kx_sL (ks_goto hx hb (by decide) (by decide +kernel : decode cX6_tendLamp 74 = .ok (.goto 4, 3))))))))
    (kx_sB (kx_sB (kx_sB (kx_sL (ks_iconst hx hb (by decide +kernel) (by decide +kernel : decode cX6_tendLamp 77 = .ok (.iconst 0, 1))))
    (kx_sB (kx_sL (ks_putI hx hb hts X.1.2.2.2.1 X.2.1 kf_6 (j := 11) rfl kw_142 (by decide +kernel) (by decide +kernel) (by decide +kernel : decode cX6_tendLamp 78 = .ok (.putfield 59, 3))))
    (kx_sL (ks_aload_n hx hb rfl (by decide +kernel : decode cX6_tendLamp 81 = .ok (.aload_n 0, 1))))))
    (kx_sB (kx_sL (ks_getI hx hb hts X.1.2.2.2.1 X.2.1 kf_6 (j := 10) rfl kw_139 (by decide +kernel : decode cX6_tendLamp 82 = .ok (.getfield 55, 3))))
    (kx_sB (kx_sL (ks_if_eq hx hb (by decide) (by decide +kernel : decode cX6_tendLamp 85 = .ok (.ifCond .eq 16, 3))))
    (kx_sL (ks_aload_n hx hb rfl (by decide +kernel : decode cX6_tendLamp 88 = .ok (.aload_n 0, 1)))))))
    (kx_sB (kx_sB (kx_sL (ks_dup hx hb (by decide +kernel : decode cX6_tendLamp 89 = .ok (.dup, 1))))
    (kx_sB (kx_sL (ks_getI hx hb hts X.1.2.2.2.1 X.2.1 kf_6 (j := 8) rfl kw_135 (by decide +kernel : decode cX6_tendLamp 90 = .ok (.getfield 49, 3))))
    (kx_sL (ks_aload_n hx hb rfl (by decide +kernel : decode cX6_tendLamp 93 = .ok (.aload_n 0, 1))))))
    (kx_sB (kx_sB (kx_sL (ks_getI hx hb hts X.1.2.2.2.1 X.2.1 kf_6 (j := 7) rfl kw_133 (by decide +kernel : decode cX6_tendLamp 94 = .ok (.getfield 46, 3))))
    (kx_sL (ks_isub hx hb (by decide +kernel : decode cX6_tendLamp 97 = .ok (.isub, 1)))))
    (kx_sB (kx_sL (ks_putI hx hb hts X.1.2.2.2.1 X.2.1 kf_6 (j := 8) rfl kw_135 (by decide +kernel) (by decide +kernel) (by decide +kernel : decode cX6_tendLamp 98 = .ok (.putfield 49, 3))))
    (kx_sL (ks_vret Z hx hb hr (by decide +kernel : decode cX6_tendLamp 101 = .ok (.return_, 1)))))))))))
def tb_X6_keepWatch : Nat → kx_T := (kx_br 59 (kx_br 28 (kx_br 15 (kx_br 5 (kx_br 1 (kx_lf 0 (ki_aload 0 1)) (kx_br 2 (kx_lf 1 (ki_aload 0 2)) (kx_lf 2 (ki_getR 6 0 5 (fun o => o) 5)))) (kx_br 9 (kx_br 6 (kx_lf 5 (ki_aload 0 6)) (kx_lf 6 (ki_getI 6 4 9))) (kx_br 12 (kx_lf 9 (ki_cv 5 1 4 sp_X5_weatherAt 12)) (kx_lf 12 (ki_putI 6 12 15))))) (kx_br 18 (kx_br 16 (kx_lf 15 (ki_aload 0 16)) (kx_br 17 (kx_lf 16 (ki_aload 0 17)) (kx_lf 17 (ki_aload 0 18)))) (kx_br 24 (kx_br 21 (kx_lf 18 (ki_getI 6 4 21)) (kx_lf 21 (ki_cv 6 1 3 sp_X6_isDarkAt 24))) (kx_br 27 (kx_lf 24 (ki_putZ 6 13 27)) (kx_lf 27 (ki_aload 0 28)))))) (kx_br 44 (kx_br 33 (kx_br 29 (kx_lf 28 (ki_aload 0 29)) (kx_br 30 (kx_lf 29 (ki_aload 0 30)) (kx_lf 30 (ki_getI 6 4 33)))) (kx_br 38 (kx_br 35 (kx_lf 33 (ki_ic (24) 35)) (kx_lf 35 (ki_cs 2 3 sp_J9_floorMod_7cf53 38))) (kx_br 41 (kx_lf 38 (ki_cv 6 1 2 sp_X6_planned 41)) (kx_lf 41 (ki_putI 6 14 44))))) (kx_br 49 (kx_br 45 (kx_lf 44 (ki_aload 0 45)) (kx_br 46 (kx_lf 45 (ki_aload 0 46)) (kx_lf 46 (ki_getR 6 1 1 (fun o => o) 49)))) (kx_br 53 (kx_br 50 (kx_lf 49 (ki_aload 0 50)) (kx_lf 50 (ki_getI 6 14 53))) (kx_br 56 (kx_lf 53 (ki_cv 1 1 2 sp_X1_isAwake 56)) (kx_lf 56 (ki_putZ 6 15 59))))))) (kx_br 87 (kx_br 72 (kx_br 64 (kx_br 60 (kx_lf 59 (ki_aload 0 60)) (kx_br 63 (kx_lf 60 (ki_cv 6 0 2 sp_X6_tendLamp 63)) (kx_lf 63 (ki_aload 0 64)))) (kx_br 68 (kx_br 65 (kx_lf 64 (ki_aload 0 65)) (kx_lf 65 (ki_getI 6 12 68))) (kx_br 69 (kx_lf 68 (ki_ic (1) 69)) (kx_lf 69 (ki_icmp_ne 91 72))))) (kx_br 79 (kx_br 73 (kx_lf 72 (ki_aload 0 73)) (kx_br 76 (kx_lf 73 (ki_getI 6 15 76)) (kx_lf 76 (ki_if_eq 91 79)))) (kx_br 83 (kx_br 80 (kx_lf 79 (ki_aload 0 80)) (kx_lf 80 (ki_getI 6 9 83))) (kx_br 84 (kx_lf 83 (ki_ic (1) 84)) (kx_lf 84 (ki_icmp_lt 91 87)))))) (kx_br 102 (kx_br 92 (kx_br 88 (kx_lf 87 (ki_ic (1) 88)) (kx_br 91 (kx_lf 88 (ki_goto 92)) (kx_lf 91 (ki_ic (0) 92)))) (kx_br 96 (kx_br 95 (kx_lf 92 (ki_putZ 6 16 95)) (kx_lf 95 (ki_aload 0 96))) (kx_br 99 (kx_lf 96 (ki_getI 6 16 99)) (kx_lf 99 (ki_if_eq 112 102))))) (kx_br 107 (kx_br 103 (kx_lf 102 (ki_aload 0 103)) (kx_br 104 (kx_lf 103 (ki_dup 104)) (kx_lf 104 (ki_getI 6 9 107)))) (kx_br 109 (kx_br 108 (kx_lf 107 (ki_ic (1) 108)) (kx_lf 108 (ki_isub 109))) (kx_br 112 (kx_lf 109 (ki_putI 6 9 112)) (kx_lf 112 (ki_vret))))))))
def sp_X6_keepWatch : kx_Sp := kx_sp tb_X6_keepWatch 1
set_option maxRecDepth 100000 in
set_option maxHeartbeats 4000000 in
theorem kc_X6_keepWatch (l : Launch) : kx_ok1 l yX6_keepWatch (kx_wd yX6_keepWatch cX6_keepWatch 1 none) ({ frames := 3, cells := 0, slots := 0, locals := 63 }) sp_X6_keepWatch 1 0 0 := kx_met (by decide) ⟨rfl, rfl⟩ (fun p e s m args below meth c Q D C4 A cnt0 ad0 P X Z hr hn => by
  have hx := X.1.1
  have hb := X.1.2.1
  have hts := X.1.2.2.2.2
  exact (kx_sB (kx_sB (kx_sB (kx_sB (kx_sB (kx_sL (ks_aload_n hx hb rfl (by decide +kernel : decode cX6_keepWatch 0 = .ok (.aload_n 0, 1))))
    (kx_sB (kx_sL (ks_aload_n hx hb rfl (by decide +kernel : decode cX6_keepWatch 1 = .ok (.aload_n 0, 1))))
    (kx_sL (ks_getR hx hb hts X.1.2.2.2.1 X.2.1 kf_6 (j := 0) rfl kw_118 (by decide +kernel : decode cX6_keepWatch 2 = .ok (.getfield 12, 3))))))
    (kx_sB (kx_sB (kx_sL (ks_aload_n hx hb rfl (by decide +kernel : decode cX6_keepWatch 5 = .ok (.aload_n 0, 1))))
    (kx_sL (ks_getI hx hb hts X.1.2.2.2.1 X.2.1 kf_6 (j := 4) rfl kw_125 (by decide +kernel : decode cX6_keepWatch 6 = .ok (.getfield 36, 3)))))
    (kx_sB (kx_sL (ks_cv X (kc_X5_weatherAt l) ⟨rfl, rfl⟩ kf_5 kw_750 kw_574 kw_575 kw_576 kw_4 (by decide +kernel) (by decide) (by decide +kernel : decode cX6_keepWatch 9 = .ok (.invokevirtual 93, 3))))
    (kx_sL (ks_putI hx hb hts X.1.2.2.2.1 X.2.1 kf_6 (j := 12) rfl kw_144 (by decide +kernel) (by decide +kernel) (by decide +kernel : decode cX6_keepWatch 12 = .ok (.putfield 62, 3)))))))
    (kx_sB (kx_sB (kx_sL (ks_aload_n hx hb rfl (by decide +kernel : decode cX6_keepWatch 15 = .ok (.aload_n 0, 1))))
    (kx_sB (kx_sL (ks_aload_n hx hb rfl (by decide +kernel : decode cX6_keepWatch 16 = .ok (.aload_n 0, 1))))
    (kx_sL (ks_aload_n hx hb rfl (by decide +kernel : decode cX6_keepWatch 17 = .ok (.aload_n 0, 1))))))
    (kx_sB (kx_sB (kx_sL (ks_getI hx hb hts X.1.2.2.2.1 X.2.1 kf_6 (j := 4) rfl kw_125 (by decide +kernel : decode cX6_keepWatch 18 = .ok (.getfield 36, 3))))
    (kx_sL (ks_cv X (kc_X6_isDarkAt l) ⟨rfl, rfl⟩ kf_6 kw_751 kw_585 kw_586 kw_587 kw_3 (by decide +kernel) (by decide) (by decide +kernel : decode cX6_keepWatch 21 = .ok (.invokevirtual 97, 3)))))
    (kx_sB (kx_sL (ks_putZ hx hb hts X.1.2.2.2.1 X.2.1 kf_6 (j := 13) rfl kw_146 (by decide +kernel) (by decide +kernel) (by decide +kernel : decode cX6_keepWatch 24 = .ok (.putfield 65, 3))))
    (kx_sL (ks_aload_n hx hb rfl (by decide +kernel : decode cX6_keepWatch 27 = .ok (.aload_n 0, 1))))))))
    (kx_sB (kx_sB (kx_sB (kx_sL (ks_aload_n hx hb rfl (by decide +kernel : decode cX6_keepWatch 28 = .ok (.aload_n 0, 1))))
    (kx_sB (kx_sL (ks_aload_n hx hb rfl (by decide +kernel : decode cX6_keepWatch 29 = .ok (.aload_n 0, 1))))
    (kx_sL (ks_getI hx hb hts X.1.2.2.2.1 X.2.1 kf_6 (j := 4) rfl kw_125 (by decide +kernel : decode cX6_keepWatch 30 = .ok (.getfield 36, 3))))))
    (kx_sB (kx_sB (kx_sL (ks_bipush hx hb (by decide +kernel) (by decide +kernel : decode cX6_keepWatch 33 = .ok (.bipush 24, 2))))
    (kx_sL (ks_cs X (kc_J9_floorMod_7cf53 l) ⟨rfl, rfl⟩ kw_588 kw_578 kw_579 kw_15 (by decide +kernel) (by decide) (by decide +kernel : decode cX6_keepWatch 35 = .ok (.invokestatic 83, 3)))))
    (kx_sB (kx_sL (ks_cv X (kc_X6_planned l) ⟨rfl, rfl⟩ kf_6 kw_752 kw_621 kw_622 kw_623 kw_3 (by decide +kernel) (by decide) (by decide +kernel : decode cX6_keepWatch 38 = .ok (.invokevirtual 100, 3))))
    (kx_sL (ks_putI hx hb hts X.1.2.2.2.1 X.2.1 kf_6 (j := 14) rfl kw_149 (by decide +kernel) (by decide +kernel) (by decide +kernel : decode cX6_keepWatch 41 = .ok (.putfield 68, 3)))))))
    (kx_sB (kx_sB (kx_sL (ks_aload_n hx hb rfl (by decide +kernel : decode cX6_keepWatch 44 = .ok (.aload_n 0, 1))))
    (kx_sB (kx_sL (ks_aload_n hx hb rfl (by decide +kernel : decode cX6_keepWatch 45 = .ok (.aload_n 0, 1))))
    (kx_sL (ks_getR hx hb hts X.1.2.2.2.1 X.2.1 kf_6 (j := 1) rfl kw_120 (by decide +kernel : decode cX6_keepWatch 46 = .ok (.getfield 21, 3))))))
    (kx_sB (kx_sB (kx_sL (ks_aload_n hx hb rfl (by decide +kernel : decode cX6_keepWatch 49 = .ok (.aload_n 0, 1))))
    (kx_sL (ks_getI hx hb hts X.1.2.2.2.1 X.2.1 kf_6 (j := 14) rfl kw_149 (by decide +kernel : decode cX6_keepWatch 50 = .ok (.getfield 68, 3)))))
    (kx_sB (kx_sL (ks_cv X (kc_X1_isAwake l) ⟨rfl, rfl⟩ kf_1 kw_753 kw_754 kw_755 kw_756 kw_5 (by decide +kernel) (by decide) (by decide +kernel : decode cX6_keepWatch 53 = .ok (.invokevirtual 103, 3))))
    (kx_sL (ks_putZ hx hb hts X.1.2.2.2.1 X.2.1 kf_6 (j := 15) rfl kw_151 (by decide +kernel) (by decide +kernel) (by decide +kernel : decode cX6_keepWatch 56 = .ok (.putfield 71, 3)))))))))
    (kx_sB (kx_sB (kx_sB (kx_sB (kx_sL (ks_aload_n hx hb rfl (by decide +kernel : decode cX6_keepWatch 59 = .ok (.aload_n 0, 1))))
    (kx_sB (kx_sL (ks_cv X (kc_X6_tendLamp l) ⟨rfl, rfl⟩ kf_6 kw_757 kw_759 kv_12 kw_760 kw_3 (by decide +kernel) (by decide) (by decide +kernel : decode cX6_keepWatch 60 = .ok (.invokevirtual 106, 3))))
    (kx_sL (ks_aload_n hx hb rfl (by decide +kernel : decode cX6_keepWatch 63 = .ok (.aload_n 0, 1))))))
    (kx_sB (kx_sB (kx_sL (ks_aload_n hx hb rfl (by decide +kernel : decode cX6_keepWatch 64 = .ok (.aload_n 0, 1))))
    (kx_sL (ks_getI hx hb hts X.1.2.2.2.1 X.2.1 kf_6 (j := 12) rfl kw_144 (by decide +kernel : decode cX6_keepWatch 65 = .ok (.getfield 62, 3)))))
    (kx_sB (kx_sL (ks_iconst hx hb (by decide +kernel) (by decide +kernel : decode cX6_keepWatch 68 = .ok (.iconst 1, 1))))
    (kx_sL (ks_icmp_ne hx hb (by decide) (by decide +kernel : decode cX6_keepWatch 69 = .ok (.if_icmp .ne 22, 3)))))))
    (kx_sB (kx_sB (kx_sL (ks_aload_n hx hb rfl (by decide +kernel : decode cX6_keepWatch 72 = .ok (.aload_n 0, 1))))
    (kx_sB (kx_sL (ks_getI hx hb hts X.1.2.2.2.1 X.2.1 kf_6 (j := 15) rfl kw_151 (by decide +kernel : decode cX6_keepWatch 73 = .ok (.getfield 71, 3))))
    (kx_sL (ks_if_eq hx hb (by decide) (by decide +kernel : decode cX6_keepWatch 76 = .ok (.ifCond .eq 15, 3))))))
    (kx_sB (kx_sB (kx_sL (ks_aload_n hx hb rfl (by decide +kernel : decode cX6_keepWatch 79 = .ok (.aload_n 0, 1))))
    (kx_sL (ks_getI hx hb hts X.1.2.2.2.1 X.2.1 kf_6 (j := 9) rfl kw_137 (by decide +kernel : decode cX6_keepWatch 80 = .ok (.getfield 52, 3)))))
    (kx_sB (kx_sL (ks_iconst hx hb (by decide +kernel) (by decide +kernel : decode cX6_keepWatch 83 = .ok (.iconst 1, 1))))
    (kx_sL (ks_icmp_lt hx hb (by decide) (by decide +kernel : decode cX6_keepWatch 84 = .ok (.if_icmp .lt 7, 3))))))))
    (kx_sB (kx_sB (kx_sB (kx_sL (ks_iconst hx hb (by decide +kernel) (by decide +kernel : decode cX6_keepWatch 87 = .ok (.iconst 1, 1))))
    (kx_sB (kx_sL (ks_goto hx hb (by decide) (by decide +kernel : decode cX6_keepWatch 88 = .ok (.goto 4, 3))))
    (kx_sL (ks_iconst hx hb (by decide +kernel) (by decide +kernel : decode cX6_keepWatch 91 = .ok (.iconst 0, 1))))))
    (kx_sB (kx_sB (kx_sL (ks_putZ hx hb hts X.1.2.2.2.1 X.2.1 kf_6 (j := 16) rfl kw_153 (by decide +kernel) (by decide +kernel) (by decide +kernel : decode cX6_keepWatch 92 = .ok (.putfield 74, 3))))
    (kx_sL (ks_aload_n hx hb rfl (by decide +kernel : decode cX6_keepWatch 95 = .ok (.aload_n 0, 1)))))
    (kx_sB (kx_sL (ks_getI hx hb hts X.1.2.2.2.1 X.2.1 kf_6 (j := 16) rfl kw_153 (by decide +kernel : decode cX6_keepWatch 96 = .ok (.getfield 74, 3))))
    (kx_sL (ks_if_eq hx hb (by decide) (by decide +kernel : decode cX6_keepWatch 99 = .ok (.ifCond .eq 13, 3)))))))
    (kx_sB (kx_sB (kx_sL (ks_aload_n hx hb rfl (by decide +kernel : decode cX6_keepWatch 102 = .ok (.aload_n 0, 1))))
    (kx_sB (kx_sL (ks_dup hx hb (by decide +kernel : decode cX6_keepWatch 103 = .ok (.dup, 1))))
    (kx_sL (ks_getI hx hb hts X.1.2.2.2.1 X.2.1 kf_6 (j := 9) rfl kw_137 (by decide +kernel : decode cX6_keepWatch 104 = .ok (.getfield 52, 3))))))
    (kx_sB (kx_sB (kx_sL (ks_iconst hx hb (by decide +kernel) (by decide +kernel : decode cX6_keepWatch 107 = .ok (.iconst 1, 1))))
    (kx_sL (ks_isub hx hb (by decide +kernel : decode cX6_keepWatch 108 = .ok (.isub, 1)))))
    (kx_sB (kx_sL (ks_putI hx hb hts X.1.2.2.2.1 X.2.1 kf_6 (j := 9) rfl kw_137 (by decide +kernel) (by decide +kernel) (by decide +kernel : decode cX6_keepWatch 109 = .ok (.putfield 52, 3))))
    (kx_sL (ks_vret Z hx hb hr (by decide +kernel : decode cX6_keepWatch 112 = .ok (.return_, 1)))))))))))
def tb_X6_meetBoat : Nat → kx_T := (kx_br 44 (kx_br 22 (kx_br 9 (kx_br 4 (kx_br 1 (kx_lf 0 (ki_aload 0 1)) (kx_lf 1 (ki_ic (9999) 4))) (kx_br 5 (kx_lf 4 (ki_aload 0 5)) (kx_br 8 (kx_lf 5 (ki_getI 6 8 8)) (kx_lf 8 (ki_aload 0 9))))) (kx_br 15 (kx_br 12 (kx_lf 9 (ki_getR 6 2 0 (fun o => o) 12)) (kx_lf 12 (ki_getI 0 2 15))) (kx_br 16 (kx_lf 15 (ki_iadd 16)) (kx_br 19 (kx_lf 16 (ki_mmin 19)) (kx_lf 19 (ki_putI 6 8 22)))))) (kx_br 31 (kx_br 26 (kx_br 23 (kx_lf 22 (ki_aload 0 23)) (kx_lf 23 (ki_ic (9999) 26))) (kx_br 27 (kx_lf 26 (ki_aload 0 27)) (kx_br 30 (kx_lf 27 (ki_getI 6 9 30)) (kx_lf 30 (ki_aload 0 31))))) (kx_br 37 (kx_br 34 (kx_lf 31 (ki_getR 6 2 0 (fun o => o) 34)) (kx_lf 34 (ki_getI 0 3 37))) (kx_br 38 (kx_lf 37 (ki_iadd 38)) (kx_br 41 (kx_lf 38 (ki_mmin 41)) (kx_lf 41 (ki_putI 6 9 44))))))) (kx_br 66 (kx_br 55 (kx_br 48 (kx_br 45 (kx_lf 44 (ki_aload 0 45)) (kx_lf 45 (ki_getR 6 1 1 (fun o => o) 48))) (kx_br 51 (kx_lf 48 (ki_cv 1 0 2 sp_X1_restAll 51)) (kx_br 52 (kx_lf 51 (ki_aload 0 52)) (kx_lf 52 (ki_getR 6 2 0 (fun o => o) 55))))) (kx_br 59 (kx_br 56 (kx_lf 55 (ki_aload 0 56)) (kx_lf 56 (ki_getI 6 4 59))) (kx_br 60 (kx_lf 59 (ki_aload 0 60)) (kx_br 63 (kx_lf 60 (ki_getR 6 2 0 (fun o => o) 63)) (kx_lf 63 (ki_getI 0 1 66)))))) (kx_br 75 (kx_br 70 (kx_br 67 (kx_lf 66 (ki_iadd 67)) (kx_lf 67 (ki_putI 0 0 70))) (kx_br 71 (kx_lf 70 (ki_aload 0 71)) (kx_br 74 (kx_lf 71 (ki_getR 6 2 0 (fun o => o) 74)) (kx_lf 74 (ki_dup 75))))) (kx_br 79 (kx_br 78 (kx_lf 75 (ki_getI 0 4 78)) (kx_lf 78 (ki_ic (1) 79))) (kx_br 80 (kx_lf 79 (ki_iadd 80)) (kx_br 83 (kx_lf 80 (ki_putI 0 4 83)) (kx_lf 83 (ki_vret))))))))
def sp_X6_meetBoat : kx_Sp := kx_sp tb_X6_meetBoat 1
set_option maxRecDepth 100000 in
set_option maxHeartbeats 4000000 in
theorem kc_X6_meetBoat (l : Launch) : kx_ok1 l yX6_meetBoat (kx_wd yX6_meetBoat cX6_meetBoat 1 none) ({ frames := 1, cells := 0, slots := 0, locals := 21 }) sp_X6_meetBoat 1 0 0 := kx_met (by decide) ⟨rfl, rfl⟩ (fun p e s m args below meth c Q D C4 A cnt0 ad0 P X Z hr hn => by
  have hx := X.1.1
  have hb := X.1.2.1
  have hts := X.1.2.2.2.2
  exact (kx_sB (kx_sB (kx_sB (kx_sB (kx_sB (kx_sL (ks_aload_n hx hb rfl (by decide +kernel : decode cX6_meetBoat 0 = .ok (.aload_n 0, 1))))
    (kx_sL (ks_sipush hx hb (by decide +kernel) (by decide +kernel : decode cX6_meetBoat 1 = .ok (.sipush 9999, 3)))))
    (kx_sB (kx_sL (ks_aload_n hx hb rfl (by decide +kernel : decode cX6_meetBoat 4 = .ok (.aload_n 0, 1))))
    (kx_sB (kx_sL (ks_getI hx hb hts X.1.2.2.2.1 X.2.1 kf_6 (j := 8) rfl kw_135 (by decide +kernel : decode cX6_meetBoat 5 = .ok (.getfield 49, 3))))
    (kx_sL (ks_aload_n hx hb rfl (by decide +kernel : decode cX6_meetBoat 8 = .ok (.aload_n 0, 1)))))))
    (kx_sB (kx_sB (kx_sL (ks_getR hx hb hts X.1.2.2.2.1 X.2.1 kf_6 (j := 2) rfl kw_122 (by decide +kernel : decode cX6_meetBoat 9 = .ok (.getfield 28, 3))))
    (kx_sL (ks_getI hx hb hts X.1.2.2.2.1 X.2.1 kf_0 (j := 2) rfl kw_96 (by decide +kernel : decode cX6_meetBoat 12 = .ok (.getfield 119, 3)))))
    (kx_sB (kx_sL (ks_iadd hx hb (by decide +kernel : decode cX6_meetBoat 15 = .ok (.iadd, 1))))
    (kx_sB (kx_sL (ks_mmin X kw_823 kw_824 kw_15 kw_825 (by decide) (by decide +kernel : decode cX6_meetBoat 16 = .ok (.invokestatic 120, 3))))
    (kx_sL (ks_putI hx hb hts X.1.2.2.2.1 X.2.1 kf_6 (j := 8) rfl kw_135 (by decide +kernel) (by decide +kernel) (by decide +kernel : decode cX6_meetBoat 19 = .ok (.putfield 49, 3))))))))
    (kx_sB (kx_sB (kx_sB (kx_sL (ks_aload_n hx hb rfl (by decide +kernel : decode cX6_meetBoat 22 = .ok (.aload_n 0, 1))))
    (kx_sL (ks_sipush hx hb (by decide +kernel) (by decide +kernel : decode cX6_meetBoat 23 = .ok (.sipush 9999, 3)))))
    (kx_sB (kx_sL (ks_aload_n hx hb rfl (by decide +kernel : decode cX6_meetBoat 26 = .ok (.aload_n 0, 1))))
    (kx_sB (kx_sL (ks_getI hx hb hts X.1.2.2.2.1 X.2.1 kf_6 (j := 9) rfl kw_137 (by decide +kernel : decode cX6_meetBoat 27 = .ok (.getfield 52, 3))))
    (kx_sL (ks_aload_n hx hb rfl (by decide +kernel : decode cX6_meetBoat 30 = .ok (.aload_n 0, 1)))))))
    (kx_sB (kx_sB (kx_sL (ks_getR hx hb hts X.1.2.2.2.1 X.2.1 kf_6 (j := 2) rfl kw_122 (by decide +kernel : decode cX6_meetBoat 31 = .ok (.getfield 28, 3))))
    (kx_sL (ks_getI hx hb hts X.1.2.2.2.1 X.2.1 kf_0 (j := 3) rfl kw_99 (by decide +kernel : decode cX6_meetBoat 34 = .ok (.getfield 123, 3)))))
    (kx_sB (kx_sL (ks_iadd hx hb (by decide +kernel : decode cX6_meetBoat 37 = .ok (.iadd, 1))))
    (kx_sB (kx_sL (ks_mmin X kw_823 kw_824 kw_15 kw_825 (by decide) (by decide +kernel : decode cX6_meetBoat 38 = .ok (.invokestatic 120, 3))))
    (kx_sL (ks_putI hx hb hts X.1.2.2.2.1 X.2.1 kf_6 (j := 9) rfl kw_137 (by decide +kernel) (by decide +kernel) (by decide +kernel : decode cX6_meetBoat 41 = .ok (.putfield 52, 3)))))))))
    (kx_sB (kx_sB (kx_sB (kx_sB (kx_sL (ks_aload_n hx hb rfl (by decide +kernel : decode cX6_meetBoat 44 = .ok (.aload_n 0, 1))))
    (kx_sL (ks_getR hx hb hts X.1.2.2.2.1 X.2.1 kf_6 (j := 1) rfl kw_120 (by decide +kernel : decode cX6_meetBoat 45 = .ok (.getfield 21, 3)))))
    (kx_sB (kx_sL (ks_cv X (kc_X1_restAll l) ⟨rfl, rfl⟩ kf_1 kw_826 kw_827 kw_828 kw_829 kw_5 (by decide +kernel) (by decide) (by decide +kernel : decode cX6_meetBoat 48 = .ok (.invokevirtual 124, 3))))
    (kx_sB (kx_sL (ks_aload_n hx hb rfl (by decide +kernel : decode cX6_meetBoat 51 = .ok (.aload_n 0, 1))))
    (kx_sL (ks_getR hx hb hts X.1.2.2.2.1 X.2.1 kf_6 (j := 2) rfl kw_122 (by decide +kernel : decode cX6_meetBoat 52 = .ok (.getfield 28, 3)))))))
    (kx_sB (kx_sB (kx_sL (ks_aload_n hx hb rfl (by decide +kernel : decode cX6_meetBoat 55 = .ok (.aload_n 0, 1))))
    (kx_sL (ks_getI hx hb hts X.1.2.2.2.1 X.2.1 kf_6 (j := 4) rfl kw_125 (by decide +kernel : decode cX6_meetBoat 56 = .ok (.getfield 36, 3)))))
    (kx_sB (kx_sL (ks_aload_n hx hb rfl (by decide +kernel : decode cX6_meetBoat 59 = .ok (.aload_n 0, 1))))
    (kx_sB (kx_sL (ks_getR hx hb hts X.1.2.2.2.1 X.2.1 kf_6 (j := 2) rfl kw_122 (by decide +kernel : decode cX6_meetBoat 60 = .ok (.getfield 28, 3))))
    (kx_sL (ks_getI hx hb hts X.1.2.2.2.1 X.2.1 kf_0 (j := 1) rfl kw_93 (by decide +kernel : decode cX6_meetBoat 63 = .ok (.getfield 127, 3))))))))
    (kx_sB (kx_sB (kx_sB (kx_sL (ks_iadd hx hb (by decide +kernel : decode cX6_meetBoat 66 = .ok (.iadd, 1))))
    (kx_sL (ks_putI hx hb hts X.1.2.2.2.1 X.2.1 kf_0 (j := 0) rfl kw_90 (by decide +kernel) (by decide +kernel) (by decide +kernel : decode cX6_meetBoat 67 = .ok (.putfield 130, 3)))))
    (kx_sB (kx_sL (ks_aload_n hx hb rfl (by decide +kernel : decode cX6_meetBoat 70 = .ok (.aload_n 0, 1))))
    (kx_sB (kx_sL (ks_getR hx hb hts X.1.2.2.2.1 X.2.1 kf_6 (j := 2) rfl kw_122 (by decide +kernel : decode cX6_meetBoat 71 = .ok (.getfield 28, 3))))
    (kx_sL (ks_dup hx hb (by decide +kernel : decode cX6_meetBoat 74 = .ok (.dup, 1)))))))
    (kx_sB (kx_sB (kx_sL (ks_getI hx hb hts X.1.2.2.2.1 X.2.1 kf_0 (j := 4) rfl kw_102 (by decide +kernel : decode cX6_meetBoat 75 = .ok (.getfield 133, 3))))
    (kx_sL (ks_iconst hx hb (by decide +kernel) (by decide +kernel : decode cX6_meetBoat 78 = .ok (.iconst 1, 1)))))
    (kx_sB (kx_sL (ks_iadd hx hb (by decide +kernel : decode cX6_meetBoat 79 = .ok (.iadd, 1))))
    (kx_sB (kx_sL (ks_putI hx hb hts X.1.2.2.2.1 X.2.1 kf_0 (j := 4) rfl kw_102 (by decide +kernel) (by decide +kernel) (by decide +kernel : decode cX6_meetBoat 80 = .ok (.putfield 133, 3))))
    (kx_sL (ks_vret Z hx hb hr (by decide +kernel : decode cX6_meetBoat 83 = .ok (.return_, 1)))))))))))
def tb_X6_endHour : Nat → kx_T := (kx_br 36 (kx_br 17 (kx_br 8 (kx_br 4 (kx_br 1 (kx_lf 0 (ki_aload 0 1)) (kx_lf 1 (ki_getR 6 1 1 (fun o => o) 4))) (kx_br 5 (kx_lf 4 (ki_aload 0 5)) (kx_lf 5 (ki_getI 6 14 8)))) (kx_br 12 (kx_br 9 (kx_lf 8 (ki_aload 0 9)) (kx_lf 9 (ki_getI 6 15 12))) (kx_br 13 (kx_lf 12 (ki_aload 0 13)) (kx_br 16 (kx_lf 13 (ki_getI 6 12 16)) (kx_lf 16 (ki_ic (2) 17)))))) (kx_br 25 (kx_br 21 (kx_br 20 (kx_lf 17 (ki_icmp_ne 24 20)) (kx_lf 20 (ki_ic (2) 21))) (kx_br 24 (kx_lf 21 (ki_goto 25)) (kx_lf 24 (ki_ic (1) 25)))) (kx_br 29 (kx_br 28 (kx_lf 25 (ki_cv 1 3 5 sp_X1_spendHour 28)) (kx_lf 28 (ki_aload 0 29))) (kx_br 32 (kx_lf 29 (ki_getR 6 2 0 (fun o => o) 32)) (kx_br 33 (kx_lf 32 (ki_aload 0 33)) (kx_lf 33 (ki_getI 6 4 36))))))) (kx_br 57 (kx_br 46 (kx_br 42 (kx_br 39 (kx_lf 36 (ki_cv 0 1 2 sp_X0_isDueAt 39)) (kx_lf 39 (ki_if_eq 61 42))) (kx_br 43 (kx_lf 42 (ki_aload 0 43)) (kx_lf 43 (ki_getI 6 12 46)))) (kx_br 50 (kx_br 47 (kx_lf 46 (ki_ic (2) 47)) (kx_lf 47 (ki_icmp_eq 61 50))) (kx_br 51 (kx_lf 50 (ki_aload 0 51)) (kx_br 54 (kx_lf 51 (ki_getI 6 13 54)) (kx_lf 54 (ki_if_ne 61 57)))))) (kx_br 63 (kx_br 61 (kx_br 58 (kx_lf 57 (ki_aload 0 58)) (kx_lf 58 (ki_cv 6 0 1 sp_X6_meetBoat 61))) (kx_br 62 (kx_lf 61 (ki_aload 0 62)) (kx_lf 62 (ki_dup 63)))) (kx_br 67 (kx_br 66 (kx_lf 63 (ki_getI 6 4 66)) (kx_lf 66 (ki_ic (1) 67))) (kx_br 68 (kx_lf 67 (ki_iadd 68)) (kx_br 71 (kx_lf 68 (ki_putI 6 4 71)) (kx_lf 71 (ki_vret))))))))
def sp_X6_endHour : kx_Sp := kx_sp tb_X6_endHour 1
set_option maxRecDepth 100000 in
set_option maxHeartbeats 4000000 in
theorem kc_X6_endHour (l : Launch) : kx_ok1 l yX6_endHour (kx_wd yX6_endHour cX6_endHour 1 none) ({ frames := 2, cells := 0, slots := 0, locals := 45 }) sp_X6_endHour 1 0 0 := kx_met (by decide) ⟨rfl, rfl⟩ (fun p e s m args below meth c Q D C4 A cnt0 ad0 P X Z hr hn => by
  have hx := X.1.1
  have hb := X.1.2.1
  have hts := X.1.2.2.2.2
  exact (kx_sB (kx_sB (kx_sB (kx_sB (kx_sB (kx_sL (ks_aload_n hx hb rfl (by decide +kernel : decode cX6_endHour 0 = .ok (.aload_n 0, 1))))
    (kx_sL (ks_getR hx hb hts X.1.2.2.2.1 X.2.1 kf_6 (j := 1) rfl kw_120 (by decide +kernel : decode cX6_endHour 1 = .ok (.getfield 21, 3)))))
    (kx_sB (kx_sL (ks_aload_n hx hb rfl (by decide +kernel : decode cX6_endHour 4 = .ok (.aload_n 0, 1))))
    (kx_sL (ks_getI hx hb hts X.1.2.2.2.1 X.2.1 kf_6 (j := 14) rfl kw_149 (by decide +kernel : decode cX6_endHour 5 = .ok (.getfield 68, 3))))))
    (kx_sB (kx_sB (kx_sL (ks_aload_n hx hb rfl (by decide +kernel : decode cX6_endHour 8 = .ok (.aload_n 0, 1))))
    (kx_sL (ks_getI hx hb hts X.1.2.2.2.1 X.2.1 kf_6 (j := 15) rfl kw_151 (by decide +kernel : decode cX6_endHour 9 = .ok (.getfield 71, 3)))))
    (kx_sB (kx_sL (ks_aload_n hx hb rfl (by decide +kernel : decode cX6_endHour 12 = .ok (.aload_n 0, 1))))
    (kx_sB (kx_sL (ks_getI hx hb hts X.1.2.2.2.1 X.2.1 kf_6 (j := 12) rfl kw_144 (by decide +kernel : decode cX6_endHour 13 = .ok (.getfield 62, 3))))
    (kx_sL (ks_iconst hx hb (by decide +kernel) (by decide +kernel : decode cX6_endHour 16 = .ok (.iconst 2, 1))))))))
    (kx_sB (kx_sB (kx_sB (kx_sL (ks_icmp_ne hx hb (by decide) (by decide +kernel : decode cX6_endHour 17 = .ok (.if_icmp .ne 7, 3))))
    (kx_sL (ks_iconst hx hb (by decide +kernel) (by decide +kernel : decode cX6_endHour 20 = .ok (.iconst 2, 1)))))
    (kx_sB (kx_sL (ks_goto hx hb (by decide) (by decide +kernel : decode cX6_endHour 21 = .ok (.goto 4, 3))))
    (kx_sL (ks_iconst hx hb (by decide +kernel) (by decide +kernel : decode cX6_endHour 24 = .ok (.iconst 1, 1))))))
    (kx_sB (kx_sB (kx_sL (ks_cv X (kc_X1_spendHour l) ⟨rfl, rfl⟩ kf_1 kw_808 kw_809 kw_810 kw_811 kw_5 (by decide +kernel) (by decide) (by decide +kernel : decode cX6_endHour 25 = .ok (.invokevirtual 109, 3))))
    (kx_sL (ks_aload_n hx hb rfl (by decide +kernel : decode cX6_endHour 28 = .ok (.aload_n 0, 1)))))
    (kx_sB (kx_sL (ks_getR hx hb hts X.1.2.2.2.1 X.2.1 kf_6 (j := 2) rfl kw_122 (by decide +kernel : decode cX6_endHour 29 = .ok (.getfield 28, 3))))
    (kx_sB (kx_sL (ks_aload_n hx hb rfl (by decide +kernel : decode cX6_endHour 32 = .ok (.aload_n 0, 1))))
    (kx_sL (ks_getI hx hb hts X.1.2.2.2.1 X.2.1 kf_6 (j := 4) rfl kw_125 (by decide +kernel : decode cX6_endHour 33 = .ok (.getfield 36, 3)))))))))
    (kx_sB (kx_sB (kx_sB (kx_sB (kx_sL (ks_cv X (kc_X0_isDueAt l) ⟨rfl, rfl⟩ kf_0 kw_815 kw_816 kw_817 kw_818 kw_6 (by decide +kernel) (by decide) (by decide +kernel : decode cX6_endHour 36 = .ok (.invokevirtual 113, 3))))
    (kx_sL (ks_if_eq hx hb (by decide) (by decide +kernel : decode cX6_endHour 39 = .ok (.ifCond .eq 22, 3)))))
    (kx_sB (kx_sL (ks_aload_n hx hb rfl (by decide +kernel : decode cX6_endHour 42 = .ok (.aload_n 0, 1))))
    (kx_sL (ks_getI hx hb hts X.1.2.2.2.1 X.2.1 kf_6 (j := 12) rfl kw_144 (by decide +kernel : decode cX6_endHour 43 = .ok (.getfield 62, 3))))))
    (kx_sB (kx_sB (kx_sL (ks_iconst hx hb (by decide +kernel) (by decide +kernel : decode cX6_endHour 46 = .ok (.iconst 2, 1))))
    (kx_sL (ks_icmp_eq hx hb (by decide) (by decide +kernel : decode cX6_endHour 47 = .ok (.if_icmp .eq 14, 3)))))
    (kx_sB (kx_sL (ks_aload_n hx hb rfl (by decide +kernel : decode cX6_endHour 50 = .ok (.aload_n 0, 1))))
    (kx_sB (kx_sL (ks_getI hx hb hts X.1.2.2.2.1 X.2.1 kf_6 (j := 13) rfl kw_146 (by decide +kernel : decode cX6_endHour 51 = .ok (.getfield 65, 3))))
    (kx_sL (ks_if_ne hx hb (by decide) (by decide +kernel : decode cX6_endHour 54 = .ok (.ifCond .ne 7, 3))))))))
    (kx_sB (kx_sB (kx_sB (kx_sL (ks_aload_n hx hb rfl (by decide +kernel : decode cX6_endHour 57 = .ok (.aload_n 0, 1))))
    (kx_sL (ks_cv X (kc_X6_meetBoat l) ⟨rfl, rfl⟩ kf_6 kw_819 kw_821 kv_16 kw_822 kw_3 (by decide +kernel) (by decide) (by decide +kernel : decode cX6_endHour 58 = .ok (.invokevirtual 116, 3)))))
    (kx_sB (kx_sL (ks_aload_n hx hb rfl (by decide +kernel : decode cX6_endHour 61 = .ok (.aload_n 0, 1))))
    (kx_sL (ks_dup hx hb (by decide +kernel : decode cX6_endHour 62 = .ok (.dup, 1))))))
    (kx_sB (kx_sB (kx_sL (ks_getI hx hb hts X.1.2.2.2.1 X.2.1 kf_6 (j := 4) rfl kw_125 (by decide +kernel : decode cX6_endHour 63 = .ok (.getfield 36, 3))))
    (kx_sL (ks_iconst hx hb (by decide +kernel) (by decide +kernel : decode cX6_endHour 66 = .ok (.iconst 1, 1)))))
    (kx_sB (kx_sL (ks_iadd hx hb (by decide +kernel : decode cX6_endHour 67 = .ok (.iadd, 1))))
    (kx_sB (kx_sL (ks_putI hx hb hts X.1.2.2.2.1 X.2.1 kf_6 (j := 4) rfl kw_125 (by decide +kernel) (by decide +kernel) (by decide +kernel : decode cX6_endHour 68 = .ok (.putfield 36, 3))))
    (kx_sL (ks_vret Z hx hb hr (by decide +kernel : decode cX6_endHour 71 = .ok (.return_, 1)))))))))))
def tb_X6_isUnlit : Nat → kx_T := (kx_br 11 (kx_br 4 (kx_br 1 (kx_lf 0 (ki_aload 0 1)) (kx_lf 1 (ki_getI 6 13 4))) (kx_br 7 (kx_lf 4 (ki_if_eq 18 7)) (kx_br 8 (kx_lf 7 (ki_aload 0 8)) (kx_lf 8 (ki_getI 6 10 11))))) (kx_br 15 (kx_br 14 (kx_lf 11 (ki_if_ne 18 14)) (kx_lf 14 (ki_ic (1) 15))) (kx_br 18 (kx_lf 15 (ki_goto 19)) (kx_br 19 (kx_lf 18 (ki_ic (0) 19)) (kx_lf 19 (ki_zret))))))
def sp_X6_isUnlit : kx_Sp := kx_sp tb_X6_isUnlit 1
set_option maxRecDepth 100000 in
set_option maxHeartbeats 4000000 in
theorem kc_X6_isUnlit (l : Launch) : kx_ok1 l yX6_isUnlit (kx_wd yX6_isUnlit cX6_isUnlit 1 (some .boolean)) ({ frames := 0, cells := 0, slots := 0, locals := 0 }) sp_X6_isUnlit 1 0 0 := kx_met (by decide) ⟨rfl, rfl⟩ (fun p e s m args below meth c Q D C4 A cnt0 ad0 P X Z hr hn => by
  have hx := X.1.1
  have hb := X.1.2.1
  have hts := X.1.2.2.2.2
  exact (kx_sB (kx_sB (kx_sB (kx_sL (ks_aload_n hx hb rfl (by decide +kernel : decode cX6_isUnlit 0 = .ok (.aload_n 0, 1))))
    (kx_sL (ks_getI hx hb hts X.1.2.2.2.1 X.2.1 kf_6 (j := 13) rfl kw_146 (by decide +kernel : decode cX6_isUnlit 1 = .ok (.getfield 65, 3)))))
    (kx_sB (kx_sL (ks_if_eq hx hb (by decide) (by decide +kernel : decode cX6_isUnlit 4 = .ok (.ifCond .eq 14, 3))))
    (kx_sB (kx_sL (ks_aload_n hx hb rfl (by decide +kernel : decode cX6_isUnlit 7 = .ok (.aload_n 0, 1))))
    (kx_sL (ks_getI hx hb hts X.1.2.2.2.1 X.2.1 kf_6 (j := 10) rfl kw_139 (by decide +kernel : decode cX6_isUnlit 8 = .ok (.getfield 55, 3)))))))
    (kx_sB (kx_sB (kx_sL (ks_if_ne hx hb (by decide) (by decide +kernel : decode cX6_isUnlit 11 = .ok (.ifCond .ne 7, 3))))
    (kx_sL (ks_iconst hx hb (by decide +kernel) (by decide +kernel : decode cX6_isUnlit 14 = .ok (.iconst 1, 1)))))
    (kx_sB (kx_sL (ks_goto hx hb (by decide) (by decide +kernel : decode cX6_isUnlit 15 = .ok (.goto 4, 3))))
    (kx_sB (kx_sL (ks_iconst hx hb (by decide +kernel) (by decide +kernel : decode cX6_isUnlit 18 = .ok (.iconst 0, 1))))
    (kx_sL (ks_zret Z hx hb hr (by decide +kernel : decode cX6_isUnlit 19 = .ok (.ireturn, 1)))))))))
def tb_X6_isAsleepOnWatch : Nat → kx_T := (kx_br 14 (kx_br 5 (kx_br 1 (kx_lf 0 (ki_aload 0 1)) (kx_br 4 (kx_lf 1 (ki_getR 6 1 1 (fun o => o) 4)) (kx_lf 4 (ki_aload 0 5)))) (kx_br 8 (kx_lf 5 (ki_getI 6 14 8)) (kx_br 11 (kx_lf 8 (ki_cv 1 1 2 sp_X1_has 11)) (kx_lf 11 (ki_if_eq 25 14))))) (kx_br 21 (kx_br 15 (kx_lf 14 (ki_aload 0 15)) (kx_br 18 (kx_lf 15 (ki_getI 6 15 18)) (kx_lf 18 (ki_if_ne 25 21)))) (kx_br 25 (kx_br 22 (kx_lf 21 (ki_ic (1) 22)) (kx_lf 22 (ki_goto 26))) (kx_br 26 (kx_lf 25 (ki_ic (0) 26)) (kx_lf 26 (ki_zret))))))
def sp_X6_isAsleepOnWatch : kx_Sp := kx_sp tb_X6_isAsleepOnWatch 1
set_option maxRecDepth 100000 in
set_option maxHeartbeats 4000000 in
theorem kc_X6_isAsleepOnWatch (l : Launch) : kx_ok1 l yX6_isAsleepOnWatch (kx_wd yX6_isAsleepOnWatch cX6_isAsleepOnWatch 1 (some .boolean)) ({ frames := 1, cells := 0, slots := 0, locals := 21 }) sp_X6_isAsleepOnWatch 1 0 0 := kx_met (by decide) ⟨rfl, rfl⟩ (fun p e s m args below meth c Q D C4 A cnt0 ad0 P X Z hr hn => by
  have hx := X.1.1
  have hb := X.1.2.1
  have hts := X.1.2.2.2.2
  exact (kx_sB (kx_sB (kx_sB (kx_sL (ks_aload_n hx hb rfl (by decide +kernel : decode cX6_isAsleepOnWatch 0 = .ok (.aload_n 0, 1))))
    (kx_sB (kx_sL (ks_getR hx hb hts X.1.2.2.2.1 X.2.1 kf_6 (j := 1) rfl kw_120 (by decide +kernel : decode cX6_isAsleepOnWatch 1 = .ok (.getfield 21, 3))))
    (kx_sL (ks_aload_n hx hb rfl (by decide +kernel : decode cX6_isAsleepOnWatch 4 = .ok (.aload_n 0, 1))))))
    (kx_sB (kx_sL (ks_getI hx hb hts X.1.2.2.2.1 X.2.1 kf_6 (j := 14) rfl kw_149 (by decide +kernel : decode cX6_isAsleepOnWatch 5 = .ok (.getfield 68, 3))))
    (kx_sB (kx_sL (ks_cv X (kc_X1_has l) ⟨rfl, rfl⟩ kf_1 kw_788 kw_617 kw_618 kw_619 kw_5 (by decide +kernel) (by decide) (by decide +kernel : decode cX6_isAsleepOnWatch 8 = .ok (.invokevirtual 136, 3))))
    (kx_sL (ks_if_eq hx hb (by decide) (by decide +kernel : decode cX6_isAsleepOnWatch 11 = .ok (.ifCond .eq 14, 3)))))))
    (kx_sB (kx_sB (kx_sL (ks_aload_n hx hb rfl (by decide +kernel : decode cX6_isAsleepOnWatch 14 = .ok (.aload_n 0, 1))))
    (kx_sB (kx_sL (ks_getI hx hb hts X.1.2.2.2.1 X.2.1 kf_6 (j := 15) rfl kw_151 (by decide +kernel : decode cX6_isAsleepOnWatch 15 = .ok (.getfield 71, 3))))
    (kx_sL (ks_if_ne hx hb (by decide) (by decide +kernel : decode cX6_isAsleepOnWatch 18 = .ok (.ifCond .ne 7, 3))))))
    (kx_sB (kx_sB (kx_sL (ks_iconst hx hb (by decide +kernel) (by decide +kernel : decode cX6_isAsleepOnWatch 21 = .ok (.iconst 1, 1))))
    (kx_sL (ks_goto hx hb (by decide) (by decide +kernel : decode cX6_isAsleepOnWatch 22 = .ok (.goto 4, 3)))))
    (kx_sB (kx_sL (ks_iconst hx hb (by decide +kernel) (by decide +kernel : decode cX6_isAsleepOnWatch 25 = .ok (.iconst 0, 1))))
    (kx_sL (ks_zret Z hx hb hr (by decide +kernel : decode cX6_isAsleepOnWatch 26 = .ok (.ireturn, 1)))))))))
def tb_X6_isBoyAsleepOnWatch : Nat → kx_T := (kx_br 15 (kx_br 7 (kx_br 1 (kx_lf 0 (ki_aload 0 1)) (kx_br 4 (kx_lf 1 (ki_cv 6 0 1 sp_X6_isAsleepOnWatch 4)) (kx_lf 4 (ki_if_eq 26 7)))) (kx_br 11 (kx_br 8 (kx_lf 7 (ki_aload 0 8)) (kx_lf 8 (ki_getR 6 1 1 (fun o => o) 11))) (kx_br 12 (kx_lf 11 (ki_aload 0 12)) (kx_lf 12 (ki_getI 6 14 15))))) (kx_br 22 (kx_br 18 (kx_lf 15 (ki_cv 1 1 2 sp_X1_rankOf 18)) (kx_br 19 (kx_lf 18 (ki_ic (2) 19)) (kx_lf 19 (ki_icmp_ne 26 22)))) (kx_br 26 (kx_br 23 (kx_lf 22 (ki_ic (1) 23)) (kx_lf 23 (ki_goto 27))) (kx_br 27 (kx_lf 26 (ki_ic (0) 27)) (kx_lf 27 (ki_zret))))))
def sp_X6_isBoyAsleepOnWatch : kx_Sp := kx_sp tb_X6_isBoyAsleepOnWatch 1
set_option maxRecDepth 100000 in
set_option maxHeartbeats 4000000 in
theorem kc_X6_isBoyAsleepOnWatch (l : Launch) : kx_ok1 l yX6_isBoyAsleepOnWatch (kx_wd yX6_isBoyAsleepOnWatch cX6_isBoyAsleepOnWatch 1 (some .boolean)) ({ frames := 2, cells := 0, slots := 0, locals := 42 }) sp_X6_isBoyAsleepOnWatch 1 0 0 := kx_met (by decide) ⟨rfl, rfl⟩ (fun p e s m args below meth c Q D C4 A cnt0 ad0 P X Z hr hn => by
  have hx := X.1.1
  have hb := X.1.2.1
  have hts := X.1.2.2.2.2
  exact (kx_sB (kx_sB (kx_sB (kx_sL (ks_aload_n hx hb rfl (by decide +kernel : decode cX6_isBoyAsleepOnWatch 0 = .ok (.aload_n 0, 1))))
    (kx_sB (kx_sL (ks_cv X (kc_X6_isAsleepOnWatch l) ⟨rfl, rfl⟩ kf_6 kw_784 kw_785 kw_786 kw_787 kw_3 (by decide +kernel) (by decide) (by decide +kernel : decode cX6_isBoyAsleepOnWatch 1 = .ok (.invokevirtual 139, 3))))
    (kx_sL (ks_if_eq hx hb (by decide) (by decide +kernel : decode cX6_isBoyAsleepOnWatch 4 = .ok (.ifCond .eq 22, 3))))))
    (kx_sB (kx_sB (kx_sL (ks_aload_n hx hb rfl (by decide +kernel : decode cX6_isBoyAsleepOnWatch 7 = .ok (.aload_n 0, 1))))
    (kx_sL (ks_getR hx hb hts X.1.2.2.2.1 X.2.1 kf_6 (j := 1) rfl kw_120 (by decide +kernel : decode cX6_isBoyAsleepOnWatch 8 = .ok (.getfield 21, 3)))))
    (kx_sB (kx_sL (ks_aload_n hx hb rfl (by decide +kernel : decode cX6_isBoyAsleepOnWatch 11 = .ok (.aload_n 0, 1))))
    (kx_sL (ks_getI hx hb hts X.1.2.2.2.1 X.2.1 kf_6 (j := 14) rfl kw_149 (by decide +kernel : decode cX6_isBoyAsleepOnWatch 12 = .ok (.getfield 68, 3)))))))
    (kx_sB (kx_sB (kx_sL (ks_cv X (kc_X1_rankOf l) ⟨rfl, rfl⟩ kf_1 kw_789 kw_661 kw_662 kw_663 kw_5 (by decide +kernel) (by decide) (by decide +kernel : decode cX6_isBoyAsleepOnWatch 15 = .ok (.invokevirtual 143, 3))))
    (kx_sB (kx_sL (ks_iconst hx hb (by decide +kernel) (by decide +kernel : decode cX6_isBoyAsleepOnWatch 18 = .ok (.iconst 2, 1))))
    (kx_sL (ks_icmp_ne hx hb (by decide) (by decide +kernel : decode cX6_isBoyAsleepOnWatch 19 = .ok (.if_icmp .ne 7, 3))))))
    (kx_sB (kx_sB (kx_sL (ks_iconst hx hb (by decide +kernel) (by decide +kernel : decode cX6_isBoyAsleepOnWatch 22 = .ok (.iconst 1, 1))))
    (kx_sL (ks_goto hx hb (by decide) (by decide +kernel : decode cX6_isBoyAsleepOnWatch 23 = .ok (.goto 4, 3)))))
    (kx_sB (kx_sL (ks_iconst hx hb (by decide +kernel) (by decide +kernel : decode cX6_isBoyAsleepOnWatch 26 = .ok (.iconst 0, 1))))
    (kx_sL (ks_zret Z hx hb hr (by decide +kernel : decode cX6_isBoyAsleepOnWatch 27 = .ok (.ireturn, 1)))))))))
def tb_X6_become : Nat → kx_T := (kx_br 57 (kx_br 30 (kx_br 15 (kx_br 5 (kx_br 1 (kx_lf 0 (ki_aload 0 1)) (kx_br 4 (kx_lf 1 (ki_getR 6 0 5 (fun o => o) 4)) (kx_lf 4 (ki_aload 1 5)))) (kx_br 11 (kx_br 8 (kx_lf 5 (ki_getR 6 0 5 (fun o => o) 8)) (kx_lf 8 (ki_cv 5 1 2 sp_X5_become 11))) (kx_br 12 (kx_lf 11 (ki_aload 0 12)) (kx_lf 12 (ki_getR 6 1 1 (fun o => o) 15))))) (kx_br 22 (kx_br 16 (kx_lf 15 (ki_aload 1 16)) (kx_br 19 (kx_lf 16 (ki_getR 6 1 1 (fun o => o) 19)) (kx_lf 19 (ki_cv 1 1 2 sp_X1_become 22)))) (kx_br 26 (kx_br 23 (kx_lf 22 (ki_aload 0 23)) (kx_lf 23 (ki_getR 6 2 0 (fun o => o) 26))) (kx_br 27 (kx_lf 26 (ki_aload 1 27)) (kx_lf 27 (ki_getR 6 2 0 (fun o => o) 30)))))) (kx_br 43 (kx_br 37 (kx_br 33 (kx_lf 30 (ki_cv 0 1 2 sp_X0_become 33)) (kx_br 34 (kx_lf 33 (ki_aload 1 34)) (kx_lf 34 (ki_getR 6 3 37 (fun o => o) 37)))) (kx_br 39 (kx_br 38 (kx_lf 37 (ki_ic (0) 38)) (kx_lf 38 (ki_aload 0 39))) (kx_br 42 (kx_lf 39 (ki_getR 6 3 37 (fun o => o) 42)) (kx_lf 42 (ki_ic (0) 43))))) (kx_br 49 (kx_br 45 (kx_lf 43 (ki_ic (24) 45)) (kx_br 48 (kx_lf 45 (ki_acopy 48)) (kx_lf 48 (ki_aload 0 49)))) (kx_br 53 (kx_br 50 (kx_lf 49 (ki_aload 1 50)) (kx_lf 50 (ki_getI 6 4 53))) (kx_br 56 (kx_lf 53 (ki_putI 6 4 56)) (kx_lf 56 (ki_aload 0 57))))))) (kx_br 85 (kx_br 72 (kx_br 64 (kx_br 58 (kx_lf 57 (ki_aload 1 58)) (kx_br 61 (kx_lf 58 (ki_getI 6 5 61)) (kx_lf 61 (ki_putI 6 5 64)))) (kx_br 66 (kx_br 65 (kx_lf 64 (ki_aload 0 65)) (kx_lf 65 (ki_aload 1 66))) (kx_br 69 (kx_lf 66 (ki_getI 6 6 69)) (kx_lf 69 (ki_putI 6 6 72))))) (kx_br 77 (kx_br 73 (kx_lf 72 (ki_aload 0 73)) (kx_br 74 (kx_lf 73 (ki_aload 1 74)) (kx_lf 74 (ki_getI 6 7 77)))) (kx_br 81 (kx_br 80 (kx_lf 77 (ki_putI 6 7 80)) (kx_lf 80 (ki_aload 0 81))) (kx_br 82 (kx_lf 81 (ki_aload 1 82)) (kx_lf 82 (ki_getI 6 8 85)))))) (kx_br 98 (kx_br 90 (kx_br 88 (kx_lf 85 (ki_putI 6 8 88)) (kx_br 89 (kx_lf 88 (ki_aload 0 89)) (kx_lf 89 (ki_aload 1 90)))) (kx_br 96 (kx_br 93 (kx_lf 90 (ki_getI 6 9 93)) (kx_lf 93 (ki_putI 6 9 96))) (kx_br 97 (kx_lf 96 (ki_aload 0 97)) (kx_lf 97 (ki_aload 1 98))))) (kx_br 105 (kx_br 101 (kx_lf 98 (ki_getI 6 10 101)) (kx_br 104 (kx_lf 101 (ki_putZ 6 10 104)) (kx_lf 104 (ki_aload 0 105)))) (kx_br 109 (kx_br 106 (kx_lf 105 (ki_aload 1 106)) (kx_lf 106 (ki_getI 6 11 109))) (kx_br 112 (kx_lf 109 (ki_putI 6 11 112)) (kx_lf 112 (ki_vret))))))))
def sp_X6_become : kx_Sp := kx_sp tb_X6_become 2
set_option maxRecDepth 100000 in
set_option maxHeartbeats 4000000 in
theorem kc_X6_become (l : Launch) : kx_ok1 l yX6_become (kx_wd yX6_become cX6_become 2 none) ({ frames := 2, cells := 0, slots := 0, locals := 61 }) sp_X6_become 2 0 0 := kx_met (by decide) ⟨rfl, rfl⟩ (fun p e s m args below meth c Q D C4 A cnt0 ad0 P X Z hr hn => by
  have hx := X.1.1
  have hb := X.1.2.1
  have hts := X.1.2.2.2.2
  exact (kx_sB (kx_sB (kx_sB (kx_sB (kx_sB (kx_sL (ks_aload_n hx hb rfl (by decide +kernel : decode cX6_become 0 = .ok (.aload_n 0, 1))))
    (kx_sB (kx_sL (ks_getR hx hb hts X.1.2.2.2.1 X.2.1 kf_6 (j := 0) rfl kw_118 (by decide +kernel : decode cX6_become 1 = .ok (.getfield 12, 3))))
    (kx_sL (ks_aload_n hx hb rfl (by decide +kernel : decode cX6_become 4 = .ok (.aload_n 1, 1))))))
    (kx_sB (kx_sB (kx_sL (ks_getR hx hb hts X.1.2.2.2.1 X.2.1 kf_6 (j := 0) rfl kw_118 (by decide +kernel : decode cX6_become 5 = .ok (.getfield 12, 3))))
    (kx_sL (ks_cv X (kc_X5_become l) ⟨rfl, rfl⟩ kf_5 kw_932 kw_565 kw_566 kw_567 kw_4 (by decide +kernel) (by decide) (by decide +kernel : decode cX6_become 8 = .ok (.invokevirtual 146, 3)))))
    (kx_sB (kx_sL (ks_aload_n hx hb rfl (by decide +kernel : decode cX6_become 11 = .ok (.aload_n 0, 1))))
    (kx_sL (ks_getR hx hb hts X.1.2.2.2.1 X.2.1 kf_6 (j := 1) rfl kw_120 (by decide +kernel : decode cX6_become 12 = .ok (.getfield 21, 3)))))))
    (kx_sB (kx_sB (kx_sL (ks_aload_n hx hb rfl (by decide +kernel : decode cX6_become 15 = .ok (.aload_n 1, 1))))
    (kx_sB (kx_sL (ks_getR hx hb hts X.1.2.2.2.1 X.2.1 kf_6 (j := 1) rfl kw_120 (by decide +kernel : decode cX6_become 16 = .ok (.getfield 21, 3))))
    (kx_sL (ks_cv X (kc_X1_become l) ⟨rfl, rfl⟩ kf_1 kw_933 kw_934 kw_935 kw_936 kw_5 (by decide +kernel) (by decide) (by decide +kernel : decode cX6_become 19 = .ok (.invokevirtual 150, 3))))))
    (kx_sB (kx_sB (kx_sL (ks_aload_n hx hb rfl (by decide +kernel : decode cX6_become 22 = .ok (.aload_n 0, 1))))
    (kx_sL (ks_getR hx hb hts X.1.2.2.2.1 X.2.1 kf_6 (j := 2) rfl kw_122 (by decide +kernel : decode cX6_become 23 = .ok (.getfield 28, 3)))))
    (kx_sB (kx_sL (ks_aload_n hx hb rfl (by decide +kernel : decode cX6_become 26 = .ok (.aload_n 1, 1))))
    (kx_sL (ks_getR hx hb hts X.1.2.2.2.1 X.2.1 kf_6 (j := 2) rfl kw_122 (by decide +kernel : decode cX6_become 27 = .ok (.getfield 28, 3))))))))
    (kx_sB (kx_sB (kx_sB (kx_sL (ks_cv X (kc_X0_become l) ⟨rfl, rfl⟩ kf_0 kw_938 kw_939 kw_940 kw_941 kw_6 (by decide +kernel) (by decide) (by decide +kernel : decode cX6_become 30 = .ok (.invokevirtual 153, 3))))
    (kx_sB (kx_sL (ks_aload_n hx hb rfl (by decide +kernel : decode cX6_become 33 = .ok (.aload_n 1, 1))))
    (kx_sL (ks_getR hx hb hts X.1.2.2.2.1 X.2.1 kf_6 (j := 3) rfl kw_124 (by decide +kernel : decode cX6_become 34 = .ok (.getfield 32, 3))))))
    (kx_sB (kx_sB (kx_sL (ks_iconst hx hb (by decide +kernel) (by decide +kernel : decode cX6_become 37 = .ok (.iconst 0, 1))))
    (kx_sL (ks_aload_n hx hb rfl (by decide +kernel : decode cX6_become 38 = .ok (.aload_n 0, 1)))))
    (kx_sB (kx_sL (ks_getR hx hb hts X.1.2.2.2.1 X.2.1 kf_6 (j := 3) rfl kw_124 (by decide +kernel : decode cX6_become 39 = .ok (.getfield 32, 3))))
    (kx_sL (ks_iconst hx hb (by decide +kernel) (by decide +kernel : decode cX6_become 42 = .ok (.iconst 0, 1)))))))
    (kx_sB (kx_sB (kx_sL (ks_bipush hx hb (by decide +kernel) (by decide +kernel : decode cX6_become 43 = .ok (.bipush 24, 2))))
    (kx_sB (kx_sL (ks_acopy hx hb X.2.1 hts X.1.2.2.1 X.1.2.2.2.1 kw_942 kw_432 kw_431 kw_14 (by decide) (by decide +kernel) (by decide +kernel : decode cX6_become 45 = .ok (.invokestatic 156, 3))))
    (kx_sL (ks_aload_n hx hb rfl (by decide +kernel : decode cX6_become 48 = .ok (.aload_n 0, 1))))))
    (kx_sB (kx_sB (kx_sL (ks_aload_n hx hb rfl (by decide +kernel : decode cX6_become 49 = .ok (.aload_n 1, 1))))
    (kx_sL (ks_getI hx hb hts X.1.2.2.2.1 X.2.1 kf_6 (j := 4) rfl kw_125 (by decide +kernel : decode cX6_become 50 = .ok (.getfield 36, 3)))))
    (kx_sB (kx_sL (ks_putI hx hb hts X.1.2.2.2.1 X.2.1 kf_6 (j := 4) rfl kw_125 (by decide +kernel) (by decide +kernel) (by decide +kernel : decode cX6_become 53 = .ok (.putfield 36, 3))))
    (kx_sL (ks_aload_n hx hb rfl (by decide +kernel : decode cX6_become 56 = .ok (.aload_n 0, 1)))))))))
    (kx_sB (kx_sB (kx_sB (kx_sB (kx_sL (ks_aload_n hx hb rfl (by decide +kernel : decode cX6_become 57 = .ok (.aload_n 1, 1))))
    (kx_sB (kx_sL (ks_getI hx hb hts X.1.2.2.2.1 X.2.1 kf_6 (j := 5) rfl kw_129 (by decide +kernel : decode cX6_become 58 = .ok (.getfield 40, 3))))
    (kx_sL (ks_putI hx hb hts X.1.2.2.2.1 X.2.1 kf_6 (j := 5) rfl kw_129 (by decide +kernel) (by decide +kernel) (by decide +kernel : decode cX6_become 61 = .ok (.putfield 40, 3))))))
    (kx_sB (kx_sB (kx_sL (ks_aload_n hx hb rfl (by decide +kernel : decode cX6_become 64 = .ok (.aload_n 0, 1))))
    (kx_sL (ks_aload_n hx hb rfl (by decide +kernel : decode cX6_become 65 = .ok (.aload_n 1, 1)))))
    (kx_sB (kx_sL (ks_getI hx hb hts X.1.2.2.2.1 X.2.1 kf_6 (j := 6) rfl kw_131 (by decide +kernel : decode cX6_become 66 = .ok (.getfield 43, 3))))
    (kx_sL (ks_putI hx hb hts X.1.2.2.2.1 X.2.1 kf_6 (j := 6) rfl kw_131 (by decide +kernel) (by decide +kernel) (by decide +kernel : decode cX6_become 69 = .ok (.putfield 43, 3)))))))
    (kx_sB (kx_sB (kx_sL (ks_aload_n hx hb rfl (by decide +kernel : decode cX6_become 72 = .ok (.aload_n 0, 1))))
    (kx_sB (kx_sL (ks_aload_n hx hb rfl (by decide +kernel : decode cX6_become 73 = .ok (.aload_n 1, 1))))
    (kx_sL (ks_getI hx hb hts X.1.2.2.2.1 X.2.1 kf_6 (j := 7) rfl kw_133 (by decide +kernel : decode cX6_become 74 = .ok (.getfield 46, 3))))))
    (kx_sB (kx_sB (kx_sL (ks_putI hx hb hts X.1.2.2.2.1 X.2.1 kf_6 (j := 7) rfl kw_133 (by decide +kernel) (by decide +kernel) (by decide +kernel : decode cX6_become 77 = .ok (.putfield 46, 3))))
    (kx_sL (ks_aload_n hx hb rfl (by decide +kernel : decode cX6_become 80 = .ok (.aload_n 0, 1)))))
    (kx_sB (kx_sL (ks_aload_n hx hb rfl (by decide +kernel : decode cX6_become 81 = .ok (.aload_n 1, 1))))
    (kx_sL (ks_getI hx hb hts X.1.2.2.2.1 X.2.1 kf_6 (j := 8) rfl kw_135 (by decide +kernel : decode cX6_become 82 = .ok (.getfield 49, 3))))))))
    (kx_sB (kx_sB (kx_sB (kx_sL (ks_putI hx hb hts X.1.2.2.2.1 X.2.1 kf_6 (j := 8) rfl kw_135 (by decide +kernel) (by decide +kernel) (by decide +kernel : decode cX6_become 85 = .ok (.putfield 49, 3))))
    (kx_sB (kx_sL (ks_aload_n hx hb rfl (by decide +kernel : decode cX6_become 88 = .ok (.aload_n 0, 1))))
    (kx_sL (ks_aload_n hx hb rfl (by decide +kernel : decode cX6_become 89 = .ok (.aload_n 1, 1))))))
    (kx_sB (kx_sB (kx_sL (ks_getI hx hb hts X.1.2.2.2.1 X.2.1 kf_6 (j := 9) rfl kw_137 (by decide +kernel : decode cX6_become 90 = .ok (.getfield 52, 3))))
    (kx_sL (ks_putI hx hb hts X.1.2.2.2.1 X.2.1 kf_6 (j := 9) rfl kw_137 (by decide +kernel) (by decide +kernel) (by decide +kernel : decode cX6_become 93 = .ok (.putfield 52, 3)))))
    (kx_sB (kx_sL (ks_aload_n hx hb rfl (by decide +kernel : decode cX6_become 96 = .ok (.aload_n 0, 1))))
    (kx_sL (ks_aload_n hx hb rfl (by decide +kernel : decode cX6_become 97 = .ok (.aload_n 1, 1)))))))
    (kx_sB (kx_sB (kx_sL (ks_getI hx hb hts X.1.2.2.2.1 X.2.1 kf_6 (j := 10) rfl kw_139 (by decide +kernel : decode cX6_become 98 = .ok (.getfield 55, 3))))
    (kx_sB (kx_sL (ks_putZ hx hb hts X.1.2.2.2.1 X.2.1 kf_6 (j := 10) rfl kw_139 (by decide +kernel) (by decide +kernel) (by decide +kernel : decode cX6_become 101 = .ok (.putfield 55, 3))))
    (kx_sL (ks_aload_n hx hb rfl (by decide +kernel : decode cX6_become 104 = .ok (.aload_n 0, 1))))))
    (kx_sB (kx_sB (kx_sL (ks_aload_n hx hb rfl (by decide +kernel : decode cX6_become 105 = .ok (.aload_n 1, 1))))
    (kx_sL (ks_getI hx hb hts X.1.2.2.2.1 X.2.1 kf_6 (j := 11) rfl kw_142 (by decide +kernel : decode cX6_become 106 = .ok (.getfield 59, 3)))))
    (kx_sB (kx_sL (ks_putI hx hb hts X.1.2.2.2.1 X.2.1 kf_6 (j := 11) rfl kw_142 (by decide +kernel) (by decide +kernel) (by decide +kernel : decode cX6_become 109 = .ok (.putfield 59, 3))))
    (kx_sL (ks_vret Z hx hb hr (by decide +kernel : decode cX6_become 112 = .ok (.return_, 1)))))))))))
def tb_X7_isFull : Nat → kx_T := (kx_br 10 (kx_br 4 (kx_br 1 (kx_lf 0 (ki_aload 0 1)) (kx_lf 1 (ki_getI 7 1 4))) (kx_br 7 (kx_lf 4 (ki_ic (250) 7)) (kx_lf 7 (ki_icmp_lt 14 10)))) (kx_br 14 (kx_br 11 (kx_lf 10 (ki_ic (1) 11)) (kx_lf 11 (ki_goto 15))) (kx_br 15 (kx_lf 14 (ki_ic (0) 15)) (kx_lf 15 (ki_zret)))))
def sp_X7_isFull : kx_Sp := kx_sp tb_X7_isFull 1
set_option maxRecDepth 100000 in
set_option maxHeartbeats 4000000 in
theorem kc_X7_isFull (l : Launch) : kx_ok1 l yX7_isFull (kx_wd yX7_isFull cX7_isFull 1 (some .boolean)) ({ frames := 0, cells := 0, slots := 0, locals := 0 }) sp_X7_isFull 1 0 0 := kx_met (by decide) ⟨rfl, rfl⟩ (fun p e s m args below meth c Q D C4 A cnt0 ad0 P X Z hr hn => by
  have hx := X.1.1
  have hb := X.1.2.1
  have hts := X.1.2.2.2.2
  exact (kx_sB (kx_sB (kx_sB (kx_sL (ks_aload_n hx hb rfl (by decide +kernel : decode cX7_isFull 0 = .ok (.aload_n 0, 1))))
    (kx_sL (ks_getI hx hb hts X.1.2.2.2.1 X.2.1 kf_7 (j := 1) rfl kw_309 (by decide +kernel : decode cX7_isFull 1 = .ok (.getfield 15, 3)))))
    (kx_sB (kx_sL (ks_sipush hx hb (by decide +kernel) (by decide +kernel : decode cX7_isFull 4 = .ok (.sipush 250, 3))))
    (kx_sL (ks_icmp_lt hx hb (by decide) (by decide +kernel : decode cX7_isFull 7 = .ok (.if_icmp .lt 7, 3))))))
    (kx_sB (kx_sB (kx_sL (ks_iconst hx hb (by decide +kernel) (by decide +kernel : decode cX7_isFull 10 = .ok (.iconst 1, 1))))
    (kx_sL (ks_goto hx hb (by decide) (by decide +kernel : decode cX7_isFull 11 = .ok (.goto 4, 3)))))
    (kx_sB (kx_sL (ks_iconst hx hb (by decide +kernel) (by decide +kernel : decode cX7_isFull 14 = .ok (.iconst 0, 1))))
    (kx_sL (ks_zret Z hx hb hr (by decide +kernel : decode cX7_isFull 15 = .ok (.ireturn, 1))))))))
def tb_X7_append : Nat → kx_T := (kx_br 16 (kx_br 8 (kx_br 4 (kx_br 1 (kx_lf 0 (ki_aload 0 1)) (kx_lf 1 (ki_cv 7 0 1 sp_X7_isFull 4))) (kx_br 7 (kx_lf 4 (ki_if_ne 27 7)) (kx_lf 7 (ki_aload 0 8)))) (kx_br 12 (kx_br 11 (kx_lf 8 (ki_getR 7 0 38 (fun o => o) 11)) (kx_lf 11 (ki_aload 0 12))) (kx_br 15 (kx_lf 12 (ki_getI 7 1 15)) (kx_lf 15 (ki_iload 1 16))))) (kx_br 22 (kx_br 18 (kx_br 17 (kx_lf 16 (ki_iast 17)) (kx_lf 17 (ki_aload 0 18))) (kx_br 19 (kx_lf 18 (ki_dup 19)) (kx_lf 19 (ki_getI 7 1 22)))) (kx_br 24 (kx_br 23 (kx_lf 22 (ki_ic (1) 23)) (kx_lf 23 (ki_iadd 24))) (kx_br 27 (kx_lf 24 (ki_putI 7 1 27)) (kx_lf 27 (ki_vret))))))
def sp_X7_append : kx_Sp := kx_sp tb_X7_append 2
set_option maxRecDepth 100000 in
set_option maxHeartbeats 4000000 in
theorem kc_X7_append (l : Launch) : kx_ok1 l yX7_append (kx_wd yX7_append cX7_append 2 none) ({ frames := 1, cells := 0, slots := 0, locals := 20 }) sp_X7_append 2 0 0 := kx_met (by decide) ⟨rfl, rfl⟩ (fun p e s m args below meth c Q D C4 A cnt0 ad0 P X Z hr hn => by
  have hx := X.1.1
  have hb := X.1.2.1
  have hts := X.1.2.2.2.2
  exact (kx_sB (kx_sB (kx_sB (kx_sB (kx_sL (ks_aload_n hx hb rfl (by decide +kernel : decode cX7_append 0 = .ok (.aload_n 0, 1))))
    (kx_sL (ks_cv X (kc_X7_isFull l) ⟨rfl, rfl⟩ kf_7 kw_519 kw_512 kw_513 kw_514 kw_11 (by decide +kernel) (by decide) (by decide +kernel : decode cX7_append 1 = .ok (.invokevirtual 19, 3)))))
    (kx_sB (kx_sL (ks_if_ne hx hb (by decide) (by decide +kernel : decode cX7_append 4 = .ok (.ifCond .ne 23, 3))))
    (kx_sL (ks_aload_n hx hb rfl (by decide +kernel : decode cX7_append 7 = .ok (.aload_n 0, 1))))))
    (kx_sB (kx_sB (kx_sL (ks_getR hx hb hts X.1.2.2.2.1 X.2.1 kf_7 (j := 0) rfl kw_308 (by decide +kernel : decode cX7_append 8 = .ok (.getfield 11, 3))))
    (kx_sL (ks_aload_n hx hb rfl (by decide +kernel : decode cX7_append 11 = .ok (.aload_n 0, 1)))))
    (kx_sB (kx_sL (ks_getI hx hb hts X.1.2.2.2.1 X.2.1 kf_7 (j := 1) rfl kw_309 (by decide +kernel : decode cX7_append 12 = .ok (.getfield 15, 3))))
    (kx_sL (ks_iload_n hx hb rfl (by decide +kernel : decode cX7_append 15 = .ok (.iload_n 1, 1)))))))
    (kx_sB (kx_sB (kx_sB (kx_sL (ks_iast hx hb X.2.1 (by decide +kernel : decode cX7_append 16 = .ok (.iastore, 1))))
    (kx_sL (ks_aload_n hx hb rfl (by decide +kernel : decode cX7_append 17 = .ok (.aload_n 0, 1)))))
    (kx_sB (kx_sL (ks_dup hx hb (by decide +kernel : decode cX7_append 18 = .ok (.dup, 1))))
    (kx_sL (ks_getI hx hb hts X.1.2.2.2.1 X.2.1 kf_7 (j := 1) rfl kw_309 (by decide +kernel : decode cX7_append 19 = .ok (.getfield 15, 3))))))
    (kx_sB (kx_sB (kx_sL (ks_iconst hx hb (by decide +kernel) (by decide +kernel : decode cX7_append 22 = .ok (.iconst 1, 1))))
    (kx_sL (ks_iadd hx hb (by decide +kernel : decode cX7_append 23 = .ok (.iadd, 1)))))
    (kx_sB (kx_sL (ks_putI hx hb hts X.1.2.2.2.1 X.2.1 kf_7 (j := 1) rfl kw_309 (by decide +kernel) (by decide +kernel) (by decide +kernel : decode cX7_append 24 = .ok (.putfield 15, 3))))
    (kx_sL (ks_vret Z hx hb hr (by decide +kernel : decode cX7_append 27 = .ok (.return_, 1)))))))))
def tb_X7_byteAt : Nat → kx_T := (kx_br 11 (kx_br 3 (kx_br 1 (kx_lf 0 (ki_iload 1 1)) (kx_br 2 (kx_lf 1 (ki_ic (0) 2)) (kx_lf 2 (ki_aload 0 3)))) (kx_br 7 (kx_br 6 (kx_lf 3 (ki_getI 7 1 6)) (kx_lf 6 (ki_ic (1) 7))) (kx_br 8 (kx_lf 7 (ki_isub 8)) (kx_lf 8 (ki_cs 3 3 sp_X10_isWithin 11))))) (kx_br 19 (kx_br 15 (kx_br 14 (kx_lf 11 (ki_if_eq 23 14)) (kx_lf 14 (ki_aload 0 15))) (kx_br 18 (kx_lf 15 (ki_getR 7 0 38 (fun o => o) 18)) (kx_lf 18 (ki_iload 1 19)))) (kx_br 23 (kx_br 20 (kx_lf 19 (ki_iald 20)) (kx_lf 20 (ki_goto 24))) (kx_br 24 (kx_lf 23 (ki_ic (-1) 24)) (kx_lf 24 (ki_iret))))))
def sp_X7_byteAt : kx_Sp := kx_sp tb_X7_byteAt 2
set_option maxRecDepth 100000 in
set_option maxHeartbeats 4000000 in
theorem kc_X7_byteAt (l : Launch) : kx_ok1 l yX7_byteAt (kx_wd yX7_byteAt cX7_byteAt 2 (some .int)) ({ frames := 1, cells := 0, slots := 0, locals := 22 }) sp_X7_byteAt 2 0 0 := kx_met (by decide) ⟨rfl, rfl⟩ (fun p e s m args below meth c Q D C4 A cnt0 ad0 P X Z hr hn => by
  have hx := X.1.1
  have hb := X.1.2.1
  have hts := X.1.2.2.2.2
  exact (kx_sB (kx_sB (kx_sB (kx_sL (ks_iload_n hx hb rfl (by decide +kernel : decode cX7_byteAt 0 = .ok (.iload_n 1, 1))))
    (kx_sB (kx_sL (ks_iconst hx hb (by decide +kernel) (by decide +kernel : decode cX7_byteAt 1 = .ok (.iconst 0, 1))))
    (kx_sL (ks_aload_n hx hb rfl (by decide +kernel : decode cX7_byteAt 2 = .ok (.aload_n 0, 1))))))
    (kx_sB (kx_sB (kx_sL (ks_getI hx hb hts X.1.2.2.2.1 X.2.1 kf_7 (j := 1) rfl kw_309 (by decide +kernel : decode cX7_byteAt 3 = .ok (.getfield 15, 3))))
    (kx_sL (ks_iconst hx hb (by decide +kernel) (by decide +kernel : decode cX7_byteAt 6 = .ok (.iconst 1, 1)))))
    (kx_sB (kx_sL (ks_isub hx hb (by decide +kernel : decode cX7_byteAt 7 = .ok (.isub, 1))))
    (kx_sL (ks_csN X (kc_X10_isWithin l) ⟨rfl, rfl⟩ (host := "KeptLight") (by decide +kernel) kw_370 kw_371 kw_1 (by decide +kernel) (by decide) (by decide +kernel : decode cX7_byteAt 8 = .ok (.invokestatic 47, 3)))))))
    (kx_sB (kx_sB (kx_sB (kx_sL (ks_if_eq hx hb (by decide) (by decide +kernel : decode cX7_byteAt 11 = .ok (.ifCond .eq 12, 3))))
    (kx_sL (ks_aload_n hx hb rfl (by decide +kernel : decode cX7_byteAt 14 = .ok (.aload_n 0, 1)))))
    (kx_sB (kx_sL (ks_getR hx hb hts X.1.2.2.2.1 X.2.1 kf_7 (j := 0) rfl kw_308 (by decide +kernel : decode cX7_byteAt 15 = .ok (.getfield 11, 3))))
    (kx_sL (ks_iload_n hx hb rfl (by decide +kernel : decode cX7_byteAt 18 = .ok (.iload_n 1, 1))))))
    (kx_sB (kx_sB (kx_sL (ks_iald hx hb X.2.1 (by decide +kernel : decode cX7_byteAt 19 = .ok (.iaload, 1))))
    (kx_sL (ks_goto hx hb (by decide) (by decide +kernel : decode cX7_byteAt 20 = .ok (.goto 4, 3)))))
    (kx_sB (kx_sL (ks_iconst hx hb (by decide +kernel) (by decide +kernel : decode cX7_byteAt 23 = .ok (.iconst (-1), 1))))
    (kx_sL (ks_iret Z hx hb hr (by decide +kernel : decode cX7_byteAt 24 = .ok (.ireturn, 1)))))))))
def tb_X7_weatherOf : Nat → kx_T := (kx_br 39 (kx_br 36 (kx_br 1 (kx_lf 0 (ki_iload 0 1)) (kx_lf 1 (ki_sw [((99), 36), ((102), 38), ((115), 40)] 42))) (kx_br 37 (kx_lf 36 (ki_ic (0) 37)) (kx_br 38 (kx_lf 37 (ki_iret)) (kx_lf 38 (ki_ic (1) 39))))) (kx_br 41 (kx_br 40 (kx_lf 39 (ki_iret)) (kx_lf 40 (ki_ic (2) 41))) (kx_br 42 (kx_lf 41 (ki_iret)) (kx_br 43 (kx_lf 42 (ki_ic (-1) 43)) (kx_lf 43 (ki_iret))))))
def sp_X7_weatherOf : kx_Sp := kx_sp tb_X7_weatherOf 1
set_option maxRecDepth 100000 in
set_option maxHeartbeats 4000000 in
theorem kc_X7_weatherOf (l : Launch) : kx_ok1 l yX7_weatherOf (kx_wd yX7_weatherOf cX7_weatherOf 1 (some .int)) ({ frames := 0, cells := 0, slots := 0, locals := 0 }) sp_X7_weatherOf 1 0 0 := kx_met (by decide) ⟨rfl, rfl⟩ (fun p e s m args below meth c Q D C4 A cnt0 ad0 P X Z hr hn => by
  have hx := X.1.1
  have hb := X.1.2.1
  have hts := X.1.2.2.2.2
  exact (kx_sB (kx_sB (kx_sB (kx_sL (ks_iload_n hx hb rfl (by decide +kernel : decode cX7_weatherOf 0 = .ok (.iload_n 0, 1))))
    (kx_sL (ks_lookup hx hb (by decide) (by decide +kernel) (by decide +kernel) (by decide +kernel : decode cX7_weatherOf 1 = .ok (.lookupswitch 41 #[(99, 35), (102, 37), (115, 39)], 35)))))
    (kx_sB (kx_sL (ks_iconst hx hb (by decide +kernel) (by decide +kernel : decode cX7_weatherOf 36 = .ok (.iconst 0, 1))))
    (kx_sB (kx_sL (ks_iret Z hx hb hr (by decide +kernel : decode cX7_weatherOf 37 = .ok (.ireturn, 1))))
    (kx_sL (ks_iconst hx hb (by decide +kernel) (by decide +kernel : decode cX7_weatherOf 38 = .ok (.iconst 1, 1)))))))
    (kx_sB (kx_sB (kx_sL (ks_iret Z hx hb hr (by decide +kernel : decode cX7_weatherOf 39 = .ok (.ireturn, 1))))
    (kx_sL (ks_iconst hx hb (by decide +kernel) (by decide +kernel : decode cX7_weatherOf 40 = .ok (.iconst 2, 1)))))
    (kx_sB (kx_sL (ks_iret Z hx hb hr (by decide +kernel : decode cX7_weatherOf 41 = .ok (.ireturn, 1))))
    (kx_sB (kx_sL (ks_iconst hx hb (by decide +kernel) (by decide +kernel : decode cX7_weatherOf 42 = .ok (.iconst (-1), 1))))
    (kx_sL (ks_iret Z hx hb hr (by decide +kernel : decode cX7_weatherOf 43 = .ok (.ireturn, 1)))))))))
def tb_X7_isDigit : Nat → kx_T := (kx_br 3 (kx_br 1 (kx_lf 0 (ki_iload 0 1)) (kx_lf 1 (ki_ic (48) 3))) (kx_br 5 (kx_lf 3 (ki_ic (57) 5)) (kx_br 8 (kx_lf 5 (ki_cs 3 3 sp_X10_isWithin 8)) (kx_lf 8 (ki_zret)))))
def sp_X7_isDigit : kx_Sp := kx_sp tb_X7_isDigit 1
set_option maxRecDepth 100000 in
set_option maxHeartbeats 4000000 in
theorem kc_X7_isDigit (l : Launch) : kx_ok1 l yX7_isDigit (kx_wd yX7_isDigit cX7_isDigit 1 (some .boolean)) ({ frames := 1, cells := 0, slots := 0, locals := 22 }) sp_X7_isDigit 1 0 0 := kx_met (by decide) ⟨rfl, rfl⟩ (fun p e s m args below meth c Q D C4 A cnt0 ad0 P X Z hr hn => by
  have hx := X.1.1
  have hb := X.1.2.1
  have hts := X.1.2.2.2.2
  exact (kx_sB (kx_sB (kx_sL (ks_iload_n hx hb rfl (by decide +kernel : decode cX7_isDigit 0 = .ok (.iload_n 0, 1))))
    (kx_sL (ks_bipush hx hb (by decide +kernel) (by decide +kernel : decode cX7_isDigit 1 = .ok (.bipush 48, 2)))))
    (kx_sB (kx_sL (ks_bipush hx hb (by decide +kernel) (by decide +kernel : decode cX7_isDigit 3 = .ok (.bipush 57, 2))))
    (kx_sB (kx_sL (ks_csN X (kc_X10_isWithin l) ⟨rfl, rfl⟩ (host := "KeptLight") (by decide +kernel) kw_370 kw_371 kw_1 (by decide +kernel) (by decide) (by decide +kernel : decode cX7_isDigit 5 = .ok (.invokestatic 47, 3))))
    (kx_sL (ks_zret Z hx hb hr (by decide +kernel : decode cX7_isDigit 8 = .ok (.ireturn, 1))))))))
def tb_X7_countDigits : Nat → kx_T := (kx_br 15 (kx_br 8 (kx_br 2 (kx_br 1 (kx_lf 0 (ki_aload 0 1)) (kx_lf 1 (ki_iload 1 2))) (kx_br 5 (kx_lf 2 (ki_cv 7 1 2 sp_X7_byteAt 5)) (kx_lf 5 (ki_cs 1 1 sp_X7_isDigit 8)))) (kx_br 12 (kx_br 11 (kx_lf 8 (ki_if_ne 13 11)) (kx_lf 11 (ki_ic (0) 12))) (kx_br 13 (kx_lf 12 (ki_iret)) (kx_br 14 (kx_lf 13 (ki_aload 0 14)) (kx_lf 14 (ki_iload 1 15)))))) (kx_br 23 (kx_br 17 (kx_br 16 (kx_lf 15 (ki_ic (1) 16)) (kx_lf 16 (ki_iadd 17))) (kx_br 20 (kx_lf 17 (ki_cv 7 1 2 sp_X7_byteAt 20)) (kx_lf 20 (ki_cs 1 1 sp_X7_isDigit 23)))) (kx_br 27 (kx_br 26 (kx_lf 23 (ki_if_eq 30 26)) (kx_lf 26 (ki_ic (2) 27))) (kx_br 30 (kx_lf 27 (ki_goto 31)) (kx_br 31 (kx_lf 30 (ki_ic (1) 31)) (kx_lf 31 (ki_iret)))))))
def sp_X7_countDigits : kx_Sp := kx_sp tb_X7_countDigits 2
set_option maxRecDepth 100000 in
set_option maxHeartbeats 4000000 in
theorem kc_X7_countDigits (l : Launch) : kx_ok1 l yX7_countDigits (kx_wd yX7_countDigits cX7_countDigits 2 (some .int)) ({ frames := 2, cells := 0, slots := 0, locals := 43 }) sp_X7_countDigits 2 0 0 := kx_met (by decide) ⟨rfl, rfl⟩ (fun p e s m args below meth c Q D C4 A cnt0 ad0 P X Z hr hn => by
  have hx := X.1.1
  have hb := X.1.2.1
  have hts := X.1.2.2.2.2
  exact (kx_sB (kx_sB (kx_sB (kx_sB (kx_sL (ks_aload_n hx hb rfl (by decide +kernel : decode cX7_countDigits 0 = .ok (.aload_n 0, 1))))
    (kx_sL (ks_iload_n hx hb rfl (by decide +kernel : decode cX7_countDigits 1 = .ok (.iload_n 1, 1)))))
    (kx_sB (kx_sL (ks_cv X (kc_X7_byteAt l) ⟨rfl, rfl⟩ kf_7 kw_536 kw_538 kv_5 kw_539 kw_11 (by decide +kernel) (by decide) (by decide +kernel : decode cX7_countDigits 2 = .ok (.invokevirtual 28, 3))))
    (kx_sL (ks_cs X (kc_X7_isDigit l) ⟨rfl, rfl⟩ kw_552 kw_553 kw_554 kw_11 (by decide +kernel) (by decide) (by decide +kernel : decode cX7_countDigits 5 = .ok (.invokestatic 51, 3))))))
    (kx_sB (kx_sB (kx_sL (ks_if_ne hx hb (by decide) (by decide +kernel : decode cX7_countDigits 8 = .ok (.ifCond .ne 5, 3))))
    (kx_sL (ks_iconst hx hb (by decide +kernel) (by decide +kernel : decode cX7_countDigits 11 = .ok (.iconst 0, 1)))))
    (kx_sB (kx_sL (ks_iret Z hx hb hr (by decide +kernel : decode cX7_countDigits 12 = .ok (.ireturn, 1))))
    (kx_sB (kx_sL (ks_aload_n hx hb rfl (by decide +kernel : decode cX7_countDigits 13 = .ok (.aload_n 0, 1))))
    (kx_sL (ks_iload_n hx hb rfl (by decide +kernel : decode cX7_countDigits 14 = .ok (.iload_n 1, 1))))))))
    (kx_sB (kx_sB (kx_sB (kx_sL (ks_iconst hx hb (by decide +kernel) (by decide +kernel : decode cX7_countDigits 15 = .ok (.iconst 1, 1))))
    (kx_sL (ks_iadd hx hb (by decide +kernel : decode cX7_countDigits 16 = .ok (.iadd, 1)))))
    (kx_sB (kx_sL (ks_cv X (kc_X7_byteAt l) ⟨rfl, rfl⟩ kf_7 kw_536 kw_538 kv_5 kw_539 kw_11 (by decide +kernel) (by decide) (by decide +kernel : decode cX7_countDigits 17 = .ok (.invokevirtual 28, 3))))
    (kx_sL (ks_cs X (kc_X7_isDigit l) ⟨rfl, rfl⟩ kw_552 kw_553 kw_554 kw_11 (by decide +kernel) (by decide) (by decide +kernel : decode cX7_countDigits 20 = .ok (.invokestatic 51, 3))))))
    (kx_sB (kx_sB (kx_sL (ks_if_eq hx hb (by decide) (by decide +kernel : decode cX7_countDigits 23 = .ok (.ifCond .eq 7, 3))))
    (kx_sL (ks_iconst hx hb (by decide +kernel) (by decide +kernel : decode cX7_countDigits 26 = .ok (.iconst 2, 1)))))
    (kx_sB (kx_sL (ks_goto hx hb (by decide) (by decide +kernel : decode cX7_countDigits 27 = .ok (.goto 4, 3))))
    (kx_sB (kx_sL (ks_iconst hx hb (by decide +kernel) (by decide +kernel : decode cX7_countDigits 30 = .ok (.iconst 1, 1))))
    (kx_sL (ks_iret Z hx hb hr (by decide +kernel : decode cX7_countDigits 31 = .ok (.ireturn, 1))))))))))
def tb_X7_numberAt : Nat → kx_T := (kx_br 16 (kx_br 7 (kx_br 2 (kx_br 1 (kx_lf 0 (ki_ic (0) 1)) (kx_lf 1 (ki_istore 3 2))) (kx_br 3 (kx_lf 2 (ki_ic (0) 3)) (kx_br 5 (kx_lf 3 (ki_istore 4 5)) (kx_lf 5 (ki_iload 4 7))))) (kx_br 12 (kx_br 8 (kx_lf 7 (ki_iload 2 8)) (kx_br 11 (kx_lf 8 (ki_icmp_ge 34 11)) (kx_lf 11 (ki_iload 3 12)))) (kx_br 14 (kx_lf 12 (ki_ic (10) 14)) (kx_br 15 (kx_lf 14 (ki_imul 15)) (kx_lf 15 (ki_aload 0 16)))))) (kx_br 26 (kx_br 20 (kx_br 17 (kx_lf 16 (ki_iload 1 17)) (kx_br 19 (kx_lf 17 (ki_iload 4 19)) (kx_lf 19 (ki_iadd 20)))) (kx_br 23 (kx_lf 20 (ki_cv 7 1 2 sp_X7_byteAt 23)) (kx_br 24 (kx_lf 23 (ki_iadd 24)) (kx_lf 24 (ki_ic (48) 26))))) (kx_br 31 (kx_br 27 (kx_lf 26 (ki_isub 27)) (kx_br 28 (kx_lf 27 (ki_istore 3 28)) (kx_lf 28 (ki_iinc 4 (1) 31)))) (kx_br 34 (kx_lf 31 (ki_goto 5)) (kx_br 35 (kx_lf 34 (ki_iload 3 35)) (kx_lf 35 (ki_iret)))))))
def sp_X7_numberAt : kx_Sp := kx_sp tb_X7_numberAt 5
set_option maxRecDepth 100000 in
set_option maxHeartbeats 4000000 in
theorem kc_X7_numberAt (l : Launch) : kx_ok1 l yX7_numberAt (kx_wd yX7_numberAt cX7_numberAt 5 (some .int)) ({ frames := 2, cells := 0, slots := 0, locals := 43 }) sp_X7_numberAt 5 0 0 := kx_met (by decide) ⟨rfl, rfl⟩ (fun p e s m args below meth c Q D C4 A cnt0 ad0 P X Z hr hn => by
  have hx := X.1.1
  have hb := X.1.2.1
  have hts := X.1.2.2.2.2
  exact (kx_sB (kx_sB (kx_sB (kx_sB (kx_sL (ks_iconst hx hb (by decide +kernel) (by decide +kernel : decode cX7_numberAt 0 = .ok (.iconst 0, 1))))
    (kx_sL (ks_istore_n hx hb rfl (by decide) (by decide +kernel : decode cX7_numberAt 1 = .ok (.istore_n 3, 1)))))
    (kx_sB (kx_sL (ks_iconst hx hb (by decide +kernel) (by decide +kernel : decode cX7_numberAt 2 = .ok (.iconst 0, 1))))
    (kx_sB (kx_sL (ks_istore hx hb (by decide) (by decide +kernel : decode cX7_numberAt 3 = .ok (.istore 4, 2))))
    (kx_sL (ks_iload hx hb (by decide +kernel : decode cX7_numberAt 5 = .ok (.iload 4, 2)))))))
    (kx_sB (kx_sB (kx_sL (ks_iload_n hx hb rfl (by decide +kernel : decode cX7_numberAt 7 = .ok (.iload_n 2, 1))))
    (kx_sB (kx_sL (ks_icmp_ge hx hb (by decide) (by decide +kernel : decode cX7_numberAt 8 = .ok (.if_icmp .ge 26, 3))))
    (kx_sL (ks_iload_n hx hb rfl (by decide +kernel : decode cX7_numberAt 11 = .ok (.iload_n 3, 1))))))
    (kx_sB (kx_sL (ks_bipush hx hb (by decide +kernel) (by decide +kernel : decode cX7_numberAt 12 = .ok (.bipush 10, 2))))
    (kx_sB (kx_sL (ks_imul hx hb (by decide +kernel : decode cX7_numberAt 14 = .ok (.imul, 1))))
    (kx_sL (ks_aload_n hx hb rfl (by decide +kernel : decode cX7_numberAt 15 = .ok (.aload_n 0, 1))))))))
    (kx_sB (kx_sB (kx_sB (kx_sL (ks_iload_n hx hb rfl (by decide +kernel : decode cX7_numberAt 16 = .ok (.iload_n 1, 1))))
    (kx_sB (kx_sL (ks_iload hx hb (by decide +kernel : decode cX7_numberAt 17 = .ok (.iload 4, 2))))
    (kx_sL (ks_iadd hx hb (by decide +kernel : decode cX7_numberAt 19 = .ok (.iadd, 1))))))
    (kx_sB (kx_sL (ks_cv X (kc_X7_byteAt l) ⟨rfl, rfl⟩ kf_7 kw_536 kw_538 kv_5 kw_539 kw_11 (by decide +kernel) (by decide) (by decide +kernel : decode cX7_numberAt 20 = .ok (.invokevirtual 28, 3))))
    (kx_sB (kx_sL (ks_iadd hx hb (by decide +kernel : decode cX7_numberAt 23 = .ok (.iadd, 1))))
    (kx_sL (ks_bipush hx hb (by decide +kernel) (by decide +kernel : decode cX7_numberAt 24 = .ok (.bipush 48, 2)))))))
    (kx_sB (kx_sB (kx_sL (ks_isub hx hb (by decide +kernel : decode cX7_numberAt 26 = .ok (.isub, 1))))
    (kx_sB (kx_sL (ks_istore_n hx hb rfl (by decide) (by decide +kernel : decode cX7_numberAt 27 = .ok (.istore_n 3, 1))))
    (kx_sL (ks_iinc hx hb (by decide +kernel) (by decide) (by decide +kernel : decode cX7_numberAt 28 = .ok (.iinc 4 1, 3))))))
    (kx_sB (kx_sL (ks_goto hx hb (by decide) (by decide +kernel : decode cX7_numberAt 31 = .ok (.goto (-26), 3))))
    (kx_sB (kx_sL (ks_iload_n hx hb rfl (by decide +kernel : decode cX7_numberAt 34 = .ok (.iload_n 3, 1))))
    (kx_sL (ks_iret Z hx hb hr (by decide +kernel : decode cX7_numberAt 35 = .ok (.ireturn, 1))))))))))
def tb_X7_readInto : Nat → kx_T := (kx_br 57 (kx_br 30 (kx_br 11 (kx_br 6 (kx_br 4 (kx_br 1 (kx_lf 0 (ki_aload 1 1)) (kx_lf 1 (ki_cv 5 0 1 sp_X5_clear 4))) (kx_br 5 (kx_lf 4 (ki_ic (0) 5)) (kx_lf 5 (ki_istore 2 6)))) (kx_br 8 (kx_br 7 (kx_lf 6 (ki_ic (0) 7)) (kx_lf 7 (ki_istore 3 8))) (kx_br 9 (kx_lf 8 (ki_iload 3 9)) (kx_lf 9 (ki_ic (20) 11))))) (kx_br 19 (kx_br 15 (kx_br 14 (kx_lf 11 (ki_icmp_gt 114 14)) (kx_lf 14 (ki_aload 0 15))) (kx_br 16 (kx_lf 15 (ki_iload 2 16)) (kx_lf 16 (ki_cv 7 1 2 sp_X7_byteAt 19)))) (kx_br 24 (kx_br 22 (kx_lf 19 (ki_cs 1 1 sp_X7_weatherOf 22)) (kx_lf 22 (ki_istore 4 24))) (kx_br 26 (kx_lf 24 (ki_iload 4 26)) (kx_br 27 (kx_lf 26 (ki_ic (-1) 27)) (kx_lf 27 (ki_icmp_eq 37 30))))))) (kx_br 42 (kx_br 38 (kx_br 34 (kx_br 31 (kx_lf 30 (ki_aload 1 31)) (kx_lf 31 (ki_cv 5 0 1 sp_X5_isFull 34))) (kx_br 37 (kx_lf 34 (ki_if_eq 39 37)) (kx_lf 37 (ki_iload 2 38)))) (kx_br 40 (kx_br 39 (kx_lf 38 (ki_iret)) (kx_lf 39 (ki_aload 0 40))) (kx_br 41 (kx_lf 40 (ki_iload 2 41)) (kx_lf 41 (ki_ic (1) 42))))) (kx_br 49 (kx_br 46 (kx_br 43 (kx_lf 42 (ki_iadd 43)) (kx_lf 43 (ki_cv 7 1 2 sp_X7_countDigits 46))) (kx_br 48 (kx_lf 46 (ki_istore 5 48)) (kx_lf 48 (ki_aload 0 49)))) (kx_br 51 (kx_br 50 (kx_lf 49 (ki_iload 2 50)) (kx_lf 50 (ki_ic (1) 51))) (kx_br 52 (kx_lf 51 (ki_iadd 52)) (kx_br 54 (kx_lf 52 (ki_iload 5 54)) (kx_lf 54 (ki_cv 7 2 5 sp_X7_numberAt 57)))))))) (kx_br 83 (kx_br 69 (kx_br 65 (kx_br 61 (kx_br 59 (kx_lf 57 (ki_istore 6 59)) (kx_lf 59 (ki_iload 6 61))) (kx_br 64 (kx_lf 61 (ki_if_ne 68 64)) (kx_lf 64 (ki_iload 2 65)))) (kx_br 67 (kx_br 66 (kx_lf 65 (ki_ic (1) 66)) (kx_lf 66 (ki_iadd 67))) (kx_br 68 (kx_lf 67 (ki_iret)) (kx_lf 68 (ki_aload 1 69))))) (kx_br 77 (kx_br 73 (kx_br 71 (kx_lf 69 (ki_iload 4 71)) (kx_lf 71 (ki_iload 6 73))) (kx_br 76 (kx_lf 73 (ki_cv 5 2 3 sp_X5_append 76)) (kx_lf 76 (ki_iload 2 77)))) (kx_br 80 (kx_br 78 (kx_lf 77 (ki_ic (1) 78)) (kx_lf 78 (ki_iload 5 80))) (kx_br 81 (kx_lf 80 (ki_iadd 81)) (kx_br 82 (kx_lf 81 (ki_iadd 82)) (kx_lf 82 (ki_istore 2 83))))))) (kx_br 98 (kx_br 91 (kx_br 85 (kx_br 84 (kx_lf 83 (ki_iload 2 84)) (kx_lf 84 (ki_aload 0 85))) (kx_br 88 (kx_lf 85 (ki_getI 7 1 88)) (kx_lf 88 (ki_icmp_ne 93 91)))) (kx_br 93 (kx_br 92 (kx_lf 91 (ki_ic (-1) 92)) (kx_lf 92 (ki_iret))) (kx_br 94 (kx_lf 93 (ki_aload 0 94)) (kx_br 95 (kx_lf 94 (ki_iload 2 95)) (kx_lf 95 (ki_cv 7 1 2 sp_X7_byteAt 98)))))) (kx_br 105 (kx_br 103 (kx_br 100 (kx_lf 98 (ki_ic (32) 100)) (kx_lf 100 (ki_icmp_eq 105 103))) (kx_br 104 (kx_lf 103 (ki_iload 2 104)) (kx_lf 104 (ki_iret)))) (kx_br 111 (kx_br 108 (kx_lf 105 (ki_iinc 2 (1) 108)) (kx_lf 108 (ki_iinc 3 (1) 111))) (kx_br 114 (kx_lf 111 (ki_goto 8)) (kx_br 115 (kx_lf 114 (ki_iload 2 115)) (kx_lf 115 (ki_iret)))))))))
def sp_X7_readInto : kx_Sp := kx_sp tb_X7_readInto 7
set_option maxRecDepth 100000 in
set_option maxHeartbeats 4000000 in
theorem kc_X7_readInto (l : Launch) : kx_ok1 l yX7_readInto (kx_wd yX7_readInto cX7_readInto 7 (some .int)) ({ frames := 3, cells := 0, slots := 0, locals := 67 }) sp_X7_readInto 7 0 0 := kx_met (by decide) ⟨rfl, rfl⟩ (fun p e s m args below meth c Q D C4 A cnt0 ad0 P X Z hr hn => by
  have hx := X.1.1
  have hb := X.1.2.1
  have hts := X.1.2.2.2.2
  exact (kx_sB (kx_sB (kx_sB (kx_sB (kx_sB (kx_sB (kx_sL (ks_aload_n hx hb rfl (by decide +kernel : decode cX7_readInto 0 = .ok (.aload_n 1, 1))))
    (kx_sL (ks_cv X (kc_X5_clear l) ⟨rfl, rfl⟩ kf_5 kw_532 kw_533 kw_534 kw_535 kw_4 (by decide +kernel) (by decide) (by decide +kernel : decode cX7_readInto 1 = .ok (.invokevirtual 23, 3)))))
    (kx_sB (kx_sL (ks_iconst hx hb (by decide +kernel) (by decide +kernel : decode cX7_readInto 4 = .ok (.iconst 0, 1))))
    (kx_sL (ks_istore_n hx hb rfl (by decide) (by decide +kernel : decode cX7_readInto 5 = .ok (.istore_n 2, 1))))))
    (kx_sB (kx_sB (kx_sL (ks_iconst hx hb (by decide +kernel) (by decide +kernel : decode cX7_readInto 6 = .ok (.iconst 0, 1))))
    (kx_sL (ks_istore_n hx hb rfl (by decide) (by decide +kernel : decode cX7_readInto 7 = .ok (.istore_n 3, 1)))))
    (kx_sB (kx_sL (ks_iload_n hx hb rfl (by decide +kernel : decode cX7_readInto 8 = .ok (.iload_n 3, 1))))
    (kx_sL (ks_bipush hx hb (by decide +kernel) (by decide +kernel : decode cX7_readInto 9 = .ok (.bipush 20, 2)))))))
    (kx_sB (kx_sB (kx_sB (kx_sL (ks_icmp_gt hx hb (by decide) (by decide +kernel : decode cX7_readInto 11 = .ok (.if_icmp .gt 103, 3))))
    (kx_sL (ks_aload_n hx hb rfl (by decide +kernel : decode cX7_readInto 14 = .ok (.aload_n 0, 1)))))
    (kx_sB (kx_sL (ks_iload_n hx hb rfl (by decide +kernel : decode cX7_readInto 15 = .ok (.iload_n 2, 1))))
    (kx_sL (ks_cv X (kc_X7_byteAt l) ⟨rfl, rfl⟩ kf_7 kw_536 kw_538 kv_5 kw_539 kw_11 (by decide +kernel) (by decide) (by decide +kernel : decode cX7_readInto 16 = .ok (.invokevirtual 28, 3))))))
    (kx_sB (kx_sB (kx_sL (ks_cs X (kc_X7_weatherOf l) ⟨rfl, rfl⟩ kw_541 kw_542 kw_543 kw_11 (by decide +kernel) (by decide) (by decide +kernel : decode cX7_readInto 19 = .ok (.invokestatic 32, 3))))
    (kx_sL (ks_istore hx hb (by decide) (by decide +kernel : decode cX7_readInto 22 = .ok (.istore 4, 2)))))
    (kx_sB (kx_sL (ks_iload hx hb (by decide +kernel : decode cX7_readInto 24 = .ok (.iload 4, 2))))
    (kx_sB (kx_sL (ks_iconst hx hb (by decide +kernel) (by decide +kernel : decode cX7_readInto 26 = .ok (.iconst (-1), 1))))
    (kx_sL (ks_icmp_eq hx hb (by decide) (by decide +kernel : decode cX7_readInto 27 = .ok (.if_icmp .eq 10, 3)))))))))
    (kx_sB (kx_sB (kx_sB (kx_sB (kx_sL (ks_aload_n hx hb rfl (by decide +kernel : decode cX7_readInto 30 = .ok (.aload_n 1, 1))))
    (kx_sL (ks_cv X (kc_X5_isFull l) ⟨rfl, rfl⟩ kf_5 kw_544 kw_545 kw_546 kw_547 kw_4 (by decide +kernel) (by decide) (by decide +kernel : decode cX7_readInto 31 = .ok (.invokevirtual 35, 3)))))
    (kx_sB (kx_sL (ks_if_eq hx hb (by decide) (by decide +kernel : decode cX7_readInto 34 = .ok (.ifCond .eq 5, 3))))
    (kx_sL (ks_iload_n hx hb rfl (by decide +kernel : decode cX7_readInto 37 = .ok (.iload_n 2, 1))))))
    (kx_sB (kx_sB (kx_sL (ks_iret Z hx hb hr (by decide +kernel : decode cX7_readInto 38 = .ok (.ireturn, 1))))
    (kx_sL (ks_aload_n hx hb rfl (by decide +kernel : decode cX7_readInto 39 = .ok (.aload_n 0, 1)))))
    (kx_sB (kx_sL (ks_iload_n hx hb rfl (by decide +kernel : decode cX7_readInto 40 = .ok (.iload_n 2, 1))))
    (kx_sL (ks_iconst hx hb (by decide +kernel) (by decide +kernel : decode cX7_readInto 41 = .ok (.iconst 1, 1)))))))
    (kx_sB (kx_sB (kx_sB (kx_sL (ks_iadd hx hb (by decide +kernel : decode cX7_readInto 42 = .ok (.iadd, 1))))
    (kx_sL (ks_cv X (kc_X7_countDigits l) ⟨rfl, rfl⟩ kf_7 kw_548 kw_550 kv_6 kw_551 kw_11 (by decide +kernel) (by decide) (by decide +kernel : decode cX7_readInto 43 = .ok (.invokevirtual 36, 3)))))
    (kx_sB (kx_sL (ks_istore hx hb (by decide) (by decide +kernel : decode cX7_readInto 46 = .ok (.istore 5, 2))))
    (kx_sL (ks_aload_n hx hb rfl (by decide +kernel : decode cX7_readInto 48 = .ok (.aload_n 0, 1))))))
    (kx_sB (kx_sB (kx_sL (ks_iload_n hx hb rfl (by decide +kernel : decode cX7_readInto 49 = .ok (.iload_n 2, 1))))
    (kx_sL (ks_iconst hx hb (by decide +kernel) (by decide +kernel : decode cX7_readInto 50 = .ok (.iconst 1, 1)))))
    (kx_sB (kx_sL (ks_iadd hx hb (by decide +kernel : decode cX7_readInto 51 = .ok (.iadd, 1))))
    (kx_sB (kx_sL (ks_iload hx hb (by decide +kernel : decode cX7_readInto 52 = .ok (.iload 5, 2))))
    (kx_sL (ks_cv X (kc_X7_numberAt l) ⟨rfl, rfl⟩ kf_7 kw_555 kw_557 kv_7 kw_558 kw_11 (by decide +kernel) (by decide) (by decide +kernel : decode cX7_readInto 54 = .ok (.invokevirtual 39, 3))))))))))
    (kx_sB (kx_sB (kx_sB (kx_sB (kx_sB (kx_sL (ks_istore hx hb (by decide) (by decide +kernel : decode cX7_readInto 57 = .ok (.istore 6, 2))))
    (kx_sL (ks_iload hx hb (by decide +kernel : decode cX7_readInto 59 = .ok (.iload 6, 2)))))
    (kx_sB (kx_sL (ks_if_ne hx hb (by decide) (by decide +kernel : decode cX7_readInto 61 = .ok (.ifCond .ne 7, 3))))
    (kx_sL (ks_iload_n hx hb rfl (by decide +kernel : decode cX7_readInto 64 = .ok (.iload_n 2, 1))))))
    (kx_sB (kx_sB (kx_sL (ks_iconst hx hb (by decide +kernel) (by decide +kernel : decode cX7_readInto 65 = .ok (.iconst 1, 1))))
    (kx_sL (ks_iadd hx hb (by decide +kernel : decode cX7_readInto 66 = .ok (.iadd, 1)))))
    (kx_sB (kx_sL (ks_iret Z hx hb hr (by decide +kernel : decode cX7_readInto 67 = .ok (.ireturn, 1))))
    (kx_sL (ks_aload_n hx hb rfl (by decide +kernel : decode cX7_readInto 68 = .ok (.aload_n 1, 1)))))))
    (kx_sB (kx_sB (kx_sB (kx_sL (ks_iload hx hb (by decide +kernel : decode cX7_readInto 69 = .ok (.iload 4, 2))))
    (kx_sL (ks_iload hx hb (by decide +kernel : decode cX7_readInto 71 = .ok (.iload 6, 2)))))
    (kx_sB (kx_sL (ks_cv X (kc_X5_append l) ⟨rfl, rfl⟩ kf_5 kw_559 kw_560 kw_561 kw_562 kw_4 (by decide +kernel) (by decide) (by decide +kernel : decode cX7_readInto 73 = .ok (.invokevirtual 43, 3))))
    (kx_sL (ks_iload_n hx hb rfl (by decide +kernel : decode cX7_readInto 76 = .ok (.iload_n 2, 1))))))
    (kx_sB (kx_sB (kx_sL (ks_iconst hx hb (by decide +kernel) (by decide +kernel : decode cX7_readInto 77 = .ok (.iconst 1, 1))))
    (kx_sL (ks_iload hx hb (by decide +kernel : decode cX7_readInto 78 = .ok (.iload 5, 2)))))
    (kx_sB (kx_sL (ks_iadd hx hb (by decide +kernel : decode cX7_readInto 80 = .ok (.iadd, 1))))
    (kx_sB (kx_sL (ks_iadd hx hb (by decide +kernel : decode cX7_readInto 81 = .ok (.iadd, 1))))
    (kx_sL (ks_istore_n hx hb rfl (by decide) (by decide +kernel : decode cX7_readInto 82 = .ok (.istore_n 2, 1)))))))))
    (kx_sB (kx_sB (kx_sB (kx_sB (kx_sL (ks_iload_n hx hb rfl (by decide +kernel : decode cX7_readInto 83 = .ok (.iload_n 2, 1))))
    (kx_sL (ks_aload_n hx hb rfl (by decide +kernel : decode cX7_readInto 84 = .ok (.aload_n 0, 1)))))
    (kx_sB (kx_sL (ks_getI hx hb hts X.1.2.2.2.1 X.2.1 kf_7 (j := 1) rfl kw_309 (by decide +kernel : decode cX7_readInto 85 = .ok (.getfield 15, 3))))
    (kx_sL (ks_icmp_ne hx hb (by decide) (by decide +kernel : decode cX7_readInto 88 = .ok (.if_icmp .ne 5, 3))))))
    (kx_sB (kx_sB (kx_sL (ks_iconst hx hb (by decide +kernel) (by decide +kernel : decode cX7_readInto 91 = .ok (.iconst (-1), 1))))
    (kx_sL (ks_iret Z hx hb hr (by decide +kernel : decode cX7_readInto 92 = .ok (.ireturn, 1)))))
    (kx_sB (kx_sL (ks_aload_n hx hb rfl (by decide +kernel : decode cX7_readInto 93 = .ok (.aload_n 0, 1))))
    (kx_sB (kx_sL (ks_iload_n hx hb rfl (by decide +kernel : decode cX7_readInto 94 = .ok (.iload_n 2, 1))))
    (kx_sL (ks_cv X (kc_X7_byteAt l) ⟨rfl, rfl⟩ kf_7 kw_536 kw_538 kv_5 kw_539 kw_11 (by decide +kernel) (by decide) (by decide +kernel : decode cX7_readInto 95 = .ok (.invokevirtual 28, 3))))))))
    (kx_sB (kx_sB (kx_sB (kx_sL (ks_bipush hx hb (by decide +kernel) (by decide +kernel : decode cX7_readInto 98 = .ok (.bipush 32, 2))))
    (kx_sL (ks_icmp_eq hx hb (by decide) (by decide +kernel : decode cX7_readInto 100 = .ok (.if_icmp .eq 5, 3)))))
    (kx_sB (kx_sL (ks_iload_n hx hb rfl (by decide +kernel : decode cX7_readInto 103 = .ok (.iload_n 2, 1))))
    (kx_sL (ks_iret Z hx hb hr (by decide +kernel : decode cX7_readInto 104 = .ok (.ireturn, 1))))))
    (kx_sB (kx_sB (kx_sL (ks_iinc hx hb (by decide +kernel) (by decide) (by decide +kernel : decode cX7_readInto 105 = .ok (.iinc 2 1, 3))))
    (kx_sL (ks_iinc hx hb (by decide +kernel) (by decide) (by decide +kernel : decode cX7_readInto 108 = .ok (.iinc 3 1, 3)))))
    (kx_sB (kx_sL (ks_goto hx hb (by decide) (by decide +kernel : decode cX7_readInto 111 = .ok (.goto (-103), 3))))
    (kx_sB (kx_sL (ks_iload_n hx hb rfl (by decide +kernel : decode cX7_readInto 114 = .ok (.iload_n 2, 1))))
    (kx_sL (ks_iret Z hx hb hr (by decide +kernel : decode cX7_readInto 115 = .ok (.ireturn, 1))))))))))))
def tb_X8_begin : Nat → kx_T := (kx_br 23 (kx_br 12 (kx_br 5 (kx_br 1 (kx_lf 0 (ki_aload 0 1)) (kx_br 4 (kx_lf 1 (ki_getR 8 0 6 (fun _ => 2) 4)) (kx_lf 4 (ki_aload 1 5)))) (kx_br 8 (kx_lf 5 (ki_getR 9 0 6 (fun o => o) 8)) (kx_br 11 (kx_lf 8 (ki_cv 6 1 2 sp_X6_become 11)) (kx_lf 11 (ki_aload 0 12))))) (kx_br 17 (kx_br 13 (kx_lf 12 (ki_ic (0) 13)) (kx_br 16 (kx_lf 13 (ki_putI 8 1 16)) (kx_lf 16 (ki_aload 0 17)))) (kx_br 21 (kx_br 18 (kx_lf 17 (ki_ic (0) 18)) (kx_lf 18 (ki_putI 8 2 21))) (kx_br 22 (kx_lf 21 (ki_aload 0 22)) (kx_lf 22 (ki_ic (0) 23)))))) (kx_br 33 (kx_br 28 (kx_br 26 (kx_lf 23 (ki_putI 8 3 26)) (kx_br 27 (kx_lf 26 (ki_aload 0 27)) (kx_lf 27 (ki_ic (0) 28)))) (kx_br 31 (kx_lf 28 (ki_putI 8 4 31)) (kx_br 32 (kx_lf 31 (ki_aload 0 32)) (kx_lf 32 (ki_aload 1 33))))) (kx_br 40 (kx_br 36 (kx_lf 33 (ki_getR 9 1 2 (fun o => o) 36)) (kx_br 37 (kx_lf 36 (ki_aload 0 37)) (kx_lf 37 (ki_getR 8 0 6 (fun _ => 2) 40)))) (kx_br 46 (kx_br 43 (kx_lf 40 (ki_getI 6 4 43)) (kx_lf 43 (ki_cv 2 1 6 sp_X2_firstPlaceOf 46))) (kx_br 49 (kx_lf 46 (ki_putI 8 5 49)) (kx_lf 49 (ki_vret)))))))
def sp_X8_begin : kx_Sp := kx_sp tb_X8_begin 2
set_option maxRecDepth 100000 in
set_option maxHeartbeats 4000000 in
theorem kc_X8_begin (l : Launch) : kx_ok1 l yX8_begin (kx_wd yX8_begin cX8_begin 2 none) ({ frames := 3, cells := 0, slots := 0, locals := 82 }) sp_X8_begin 2 0 0 := kx_met (by decide) ⟨rfl, rfl⟩ (fun p e s m args below meth c Q D C4 A cnt0 ad0 P X Z hr hn => by
  have hx := X.1.1
  have hb := X.1.2.1
  have hts := X.1.2.2.2.2
  exact (kx_sB (kx_sB (kx_sB (kx_sB (kx_sL (ks_aload_n hx hb rfl (by decide +kernel : decode cX8_begin 0 = .ok (.aload_n 0, 1))))
    (kx_sB (kx_sL (ks_getR hx hb hts X.1.2.2.2.1 X.2.1 kf_8 (j := 0) rfl kw_278 (by decide +kernel : decode cX8_begin 1 = .ok (.getfield 12, 3))))
    (kx_sL (ks_aload_n hx hb rfl (by decide +kernel : decode cX8_begin 4 = .ok (.aload_n 1, 1))))))
    (kx_sB (kx_sL (ks_getR hx hb hts X.1.2.2.2.1 X.2.1 kf_9 (j := 0) rfl kw_244 (by decide +kernel : decode cX8_begin 5 = .ok (.getfield 34, 3))))
    (kx_sB (kx_sL (ks_cv X (kc_X6_become l) ⟨rfl, rfl⟩ kf_6 kw_928 kw_929 kw_930 kw_931 kw_3 (by decide +kernel) (by decide) (by decide +kernel : decode cX8_begin 8 = .ok (.invokevirtual 37, 3))))
    (kx_sL (ks_aload_n hx hb rfl (by decide +kernel : decode cX8_begin 11 = .ok (.aload_n 0, 1)))))))
    (kx_sB (kx_sB (kx_sL (ks_iconst hx hb (by decide +kernel) (by decide +kernel : decode cX8_begin 12 = .ok (.iconst 0, 1))))
    (kx_sB (kx_sL (ks_putI hx hb hts X.1.2.2.2.1 X.2.1 kf_8 (j := 1) rfl kw_280 (by decide +kernel) (by decide +kernel) (by decide +kernel : decode cX8_begin 13 = .ok (.putfield 18, 3))))
    (kx_sL (ks_aload_n hx hb rfl (by decide +kernel : decode cX8_begin 16 = .ok (.aload_n 0, 1))))))
    (kx_sB (kx_sB (kx_sL (ks_iconst hx hb (by decide +kernel) (by decide +kernel : decode cX8_begin 17 = .ok (.iconst 0, 1))))
    (kx_sL (ks_putI hx hb hts X.1.2.2.2.1 X.2.1 kf_8 (j := 2) rfl kw_282 (by decide +kernel) (by decide +kernel) (by decide +kernel : decode cX8_begin 18 = .ok (.putfield 22, 3)))))
    (kx_sB (kx_sL (ks_aload_n hx hb rfl (by decide +kernel : decode cX8_begin 21 = .ok (.aload_n 0, 1))))
    (kx_sL (ks_iconst hx hb (by decide +kernel) (by decide +kernel : decode cX8_begin 22 = .ok (.iconst 0, 1))))))))
    (kx_sB (kx_sB (kx_sB (kx_sL (ks_putI hx hb hts X.1.2.2.2.1 X.2.1 kf_8 (j := 3) rfl kw_284 (by decide +kernel) (by decide +kernel) (by decide +kernel : decode cX8_begin 23 = .ok (.putfield 25, 3))))
    (kx_sB (kx_sL (ks_aload_n hx hb rfl (by decide +kernel : decode cX8_begin 26 = .ok (.aload_n 0, 1))))
    (kx_sL (ks_iconst hx hb (by decide +kernel) (by decide +kernel : decode cX8_begin 27 = .ok (.iconst 0, 1))))))
    (kx_sB (kx_sL (ks_putI hx hb hts X.1.2.2.2.1 X.2.1 kf_8 (j := 4) rfl kw_286 (by decide +kernel) (by decide +kernel) (by decide +kernel : decode cX8_begin 28 = .ok (.putfield 28, 3))))
    (kx_sB (kx_sL (ks_aload_n hx hb rfl (by decide +kernel : decode cX8_begin 31 = .ok (.aload_n 0, 1))))
    (kx_sL (ks_aload_n hx hb rfl (by decide +kernel : decode cX8_begin 32 = .ok (.aload_n 1, 1)))))))
    (kx_sB (kx_sB (kx_sL (ks_getR hx hb hts X.1.2.2.2.1 X.2.1 kf_9 (j := 1) rfl kw_247 (by decide +kernel : decode cX8_begin 33 = .ok (.getfield 41, 3))))
    (kx_sB (kx_sL (ks_aload_n hx hb rfl (by decide +kernel : decode cX8_begin 36 = .ok (.aload_n 0, 1))))
    (kx_sL (ks_getR hx hb hts X.1.2.2.2.1 X.2.1 kf_8 (j := 0) rfl kw_278 (by decide +kernel : decode cX8_begin 37 = .ok (.getfield 12, 3))))))
    (kx_sB (kx_sB (kx_sL (ks_getI hx hb hts X.1.2.2.2.1 X.2.1 kf_6 (j := 4) rfl kw_127 (by decide +kernel : decode cX8_begin 40 = .ok (.getfield 45, 3))))
    (kx_sL (ks_cv X (kc_X2_firstPlaceOf l) ⟨rfl, rfl⟩ kf_2 kw_943 kw_718 kw_719 kw_720 kw_8 (by decide +kernel) (by decide) (by decide +kernel : decode cX8_begin 43 = .ok (.invokevirtual 48, 3)))))
    (kx_sB (kx_sL (ks_putI hx hb hts X.1.2.2.2.1 X.2.1 kf_8 (j := 5) rfl kw_288 (by decide +kernel) (by decide +kernel) (by decide +kernel : decode cX8_begin 46 = .ok (.putfield 31, 3))))
    (kx_sL (ks_vret Z hx hb hr (by decide +kernel : decode cX8_begin 49 = .ok (.return_, 1))))))))))
def tb_X10_lacks : Nat → kx_T := (kx_br 43 (kx_br 21 (kx_br 11 (kx_br 4 (kx_br 1 (kx_lf 0 (ki_ic (0) 1)) (kx_br 3 (kx_lf 1 (ki_istore 5 3)) (kx_lf 3 (ki_iload 1 4)))) (kx_br 7 (kx_lf 4 (ki_if_eq 20 7)) (kx_br 8 (kx_lf 7 (ki_iload 2 8)) (kx_lf 8 (ki_if_ne 20 11))))) (kx_br 16 (kx_br 12 (kx_lf 11 (ki_iload 0 12)) (kx_br 13 (kx_lf 12 (ki_ic (4) 13)) (kx_lf 13 (ki_icmp_eq 20 16)))) (kx_br 17 (kx_lf 16 (ki_ic (1) 17)) (kx_br 20 (kx_lf 17 (ki_goto 21)) (kx_lf 20 (ki_ic (0) 21)))))) (kx_br 33 (kx_br 26 (kx_br 23 (kx_lf 21 (ki_istore 6 23)) (kx_br 24 (kx_lf 23 (ki_iload 0 24)) (kx_lf 24 (ki_ic (7) 26)))) (kx_br 29 (kx_lf 26 (ki_icmp_ne 42 29)) (kx_br 30 (kx_lf 29 (ki_iload 1 30)) (kx_lf 30 (ki_if_ne 42 33))))) (kx_br 38 (kx_br 34 (kx_lf 33 (ki_iload 3 34)) (kx_br 35 (kx_lf 34 (ki_ic (2) 35)) (kx_lf 35 (ki_icmp_ne 42 38)))) (kx_br 39 (kx_lf 38 (ki_ic (1) 39)) (kx_br 42 (kx_lf 39 (ki_goto 43)) (kx_lf 42 (ki_ic (0) 43))))))) (kx_br 69 (kx_br 58 (kx_br 50 (kx_br 45 (kx_lf 43 (ki_istore 7 45)) (kx_br 47 (kx_lf 45 (ki_iload 6 47)) (kx_lf 47 (ki_if_ne 55 50)))) (kx_br 52 (kx_lf 50 (ki_iload 7 52)) (kx_br 55 (kx_lf 52 (ki_if_eq 58 55)) (kx_lf 55 (ki_iinc 5 (1) 58))))) (kx_br 63 (kx_br 59 (kx_lf 58 (ki_iload 3 59)) (kx_br 60 (kx_lf 59 (ki_ic (1) 60)) (kx_lf 60 (ki_icmp_ne 76 63)))) (kx_br 65 (kx_lf 63 (ki_iload 4 65)) (kx_br 68 (kx_lf 65 (ki_if_ne 76 68)) (kx_lf 68 (ki_iload 0 69)))))) (kx_br 81 (kx_br 76 (kx_br 70 (kx_lf 69 (ki_ic (3) 70)) (kx_br 73 (kx_lf 70 (ki_icmp_eq 76 73)) (kx_lf 73 (ki_iinc 5 (1) 76)))) (kx_br 77 (kx_lf 76 (ki_iload 3 77)) (kx_br 78 (kx_lf 77 (ki_ic (2) 78)) (kx_lf 78 (ki_icmp_ne 92 81))))) (kx_br 86 (kx_br 82 (kx_lf 81 (ki_iload 0 82)) (kx_br 83 (kx_lf 82 (ki_ic (1) 83)) (kx_lf 83 (ki_cs 2 4 sp_X10_isUnder 86)))) (kx_br 92 (kx_br 89 (kx_lf 86 (ki_if_eq 92 89)) (kx_lf 89 (ki_iinc 5 (1) 92))) (kx_br 94 (kx_lf 92 (ki_iload 5 94)) (kx_lf 94 (ki_iret))))))))
def sp_X10_lacks : kx_Sp := kx_sp tb_X10_lacks 8
set_option maxRecDepth 100000 in
set_option maxHeartbeats 4000000 in
theorem kc_X10_lacks (l : Launch) : kx_ok1 l yX10_lacks (kx_wd yX10_lacks cX10_lacks 8 (some .int)) ({ frames := 2, cells := 0, slots := 0, locals := 43 }) sp_X10_lacks 8 0 0 := kx_met (by decide) ⟨rfl, rfl⟩ (fun p e s m args below meth c Q D C4 A cnt0 ad0 P X Z hr hn => by
  have hx := X.1.1
  have hb := X.1.2.1
  have hts := X.1.2.2.2.2
  exact (kx_sB (kx_sB (kx_sB (kx_sB (kx_sB (kx_sL (ks_iconst hx hb (by decide +kernel) (by decide +kernel : decode cX10_lacks 0 = .ok (.iconst 0, 1))))
    (kx_sB (kx_sL (ks_istore hx hb (by decide) (by decide +kernel : decode cX10_lacks 1 = .ok (.istore 5, 2))))
    (kx_sL (ks_iload_n hx hb rfl (by decide +kernel : decode cX10_lacks 3 = .ok (.iload_n 1, 1))))))
    (kx_sB (kx_sL (ks_if_eq hx hb (by decide) (by decide +kernel : decode cX10_lacks 4 = .ok (.ifCond .eq 16, 3))))
    (kx_sB (kx_sL (ks_iload_n hx hb rfl (by decide +kernel : decode cX10_lacks 7 = .ok (.iload_n 2, 1))))
    (kx_sL (ks_if_ne hx hb (by decide) (by decide +kernel : decode cX10_lacks 8 = .ok (.ifCond .ne 12, 3)))))))
    (kx_sB (kx_sB (kx_sL (ks_iload_n hx hb rfl (by decide +kernel : decode cX10_lacks 11 = .ok (.iload_n 0, 1))))
    (kx_sB (kx_sL (ks_iconst hx hb (by decide +kernel) (by decide +kernel : decode cX10_lacks 12 = .ok (.iconst 4, 1))))
    (kx_sL (ks_icmp_eq hx hb (by decide) (by decide +kernel : decode cX10_lacks 13 = .ok (.if_icmp .eq 7, 3))))))
    (kx_sB (kx_sL (ks_iconst hx hb (by decide +kernel) (by decide +kernel : decode cX10_lacks 16 = .ok (.iconst 1, 1))))
    (kx_sB (kx_sL (ks_goto hx hb (by decide) (by decide +kernel : decode cX10_lacks 17 = .ok (.goto 4, 3))))
    (kx_sL (ks_iconst hx hb (by decide +kernel) (by decide +kernel : decode cX10_lacks 20 = .ok (.iconst 0, 1))))))))
    (kx_sB (kx_sB (kx_sB (kx_sL (ks_istore hx hb (by decide) (by decide +kernel : decode cX10_lacks 21 = .ok (.istore 6, 2))))
    (kx_sB (kx_sL (ks_iload_n hx hb rfl (by decide +kernel : decode cX10_lacks 23 = .ok (.iload_n 0, 1))))
    (kx_sL (ks_bipush hx hb (by decide +kernel) (by decide +kernel : decode cX10_lacks 24 = .ok (.bipush 7, 2))))))
    (kx_sB (kx_sL (ks_icmp_ne hx hb (by decide) (by decide +kernel : decode cX10_lacks 26 = .ok (.if_icmp .ne 16, 3))))
    (kx_sB (kx_sL (ks_iload_n hx hb rfl (by decide +kernel : decode cX10_lacks 29 = .ok (.iload_n 1, 1))))
    (kx_sL (ks_if_ne hx hb (by decide) (by decide +kernel : decode cX10_lacks 30 = .ok (.ifCond .ne 12, 3)))))))
    (kx_sB (kx_sB (kx_sL (ks_iload_n hx hb rfl (by decide +kernel : decode cX10_lacks 33 = .ok (.iload_n 3, 1))))
    (kx_sB (kx_sL (ks_iconst hx hb (by decide +kernel) (by decide +kernel : decode cX10_lacks 34 = .ok (.iconst 2, 1))))
    (kx_sL (ks_icmp_ne hx hb (by decide) (by decide +kernel : decode cX10_lacks 35 = .ok (.if_icmp .ne 7, 3))))))
    (kx_sB (kx_sL (ks_iconst hx hb (by decide +kernel) (by decide +kernel : decode cX10_lacks 38 = .ok (.iconst 1, 1))))
    (kx_sB (kx_sL (ks_goto hx hb (by decide) (by decide +kernel : decode cX10_lacks 39 = .ok (.goto 4, 3))))
    (kx_sL (ks_iconst hx hb (by decide +kernel) (by decide +kernel : decode cX10_lacks 42 = .ok (.iconst 0, 1)))))))))
    (kx_sB (kx_sB (kx_sB (kx_sB (kx_sL (ks_istore hx hb (by decide) (by decide +kernel : decode cX10_lacks 43 = .ok (.istore 7, 2))))
    (kx_sB (kx_sL (ks_iload hx hb (by decide +kernel : decode cX10_lacks 45 = .ok (.iload 6, 2))))
    (kx_sL (ks_if_ne hx hb (by decide) (by decide +kernel : decode cX10_lacks 47 = .ok (.ifCond .ne 8, 3))))))
    (kx_sB (kx_sL (ks_iload hx hb (by decide +kernel : decode cX10_lacks 50 = .ok (.iload 7, 2))))
    (kx_sB (kx_sL (ks_if_eq hx hb (by decide) (by decide +kernel : decode cX10_lacks 52 = .ok (.ifCond .eq 6, 3))))
    (kx_sL (ks_iinc hx hb (by decide +kernel) (by decide) (by decide +kernel : decode cX10_lacks 55 = .ok (.iinc 5 1, 3)))))))
    (kx_sB (kx_sB (kx_sL (ks_iload_n hx hb rfl (by decide +kernel : decode cX10_lacks 58 = .ok (.iload_n 3, 1))))
    (kx_sB (kx_sL (ks_iconst hx hb (by decide +kernel) (by decide +kernel : decode cX10_lacks 59 = .ok (.iconst 1, 1))))
    (kx_sL (ks_icmp_ne hx hb (by decide) (by decide +kernel : decode cX10_lacks 60 = .ok (.if_icmp .ne 16, 3))))))
    (kx_sB (kx_sL (ks_iload hx hb (by decide +kernel : decode cX10_lacks 63 = .ok (.iload 4, 2))))
    (kx_sB (kx_sL (ks_if_ne hx hb (by decide) (by decide +kernel : decode cX10_lacks 65 = .ok (.ifCond .ne 11, 3))))
    (kx_sL (ks_iload_n hx hb rfl (by decide +kernel : decode cX10_lacks 68 = .ok (.iload_n 0, 1))))))))
    (kx_sB (kx_sB (kx_sB (kx_sL (ks_iconst hx hb (by decide +kernel) (by decide +kernel : decode cX10_lacks 69 = .ok (.iconst 3, 1))))
    (kx_sB (kx_sL (ks_icmp_eq hx hb (by decide) (by decide +kernel : decode cX10_lacks 70 = .ok (.if_icmp .eq 6, 3))))
    (kx_sL (ks_iinc hx hb (by decide +kernel) (by decide) (by decide +kernel : decode cX10_lacks 73 = .ok (.iinc 5 1, 3))))))
    (kx_sB (kx_sL (ks_iload_n hx hb rfl (by decide +kernel : decode cX10_lacks 76 = .ok (.iload_n 3, 1))))
    (kx_sB (kx_sL (ks_iconst hx hb (by decide +kernel) (by decide +kernel : decode cX10_lacks 77 = .ok (.iconst 2, 1))))
    (kx_sL (ks_icmp_ne hx hb (by decide) (by decide +kernel : decode cX10_lacks 78 = .ok (.if_icmp .ne 14, 3)))))))
    (kx_sB (kx_sB (kx_sL (ks_iload_n hx hb rfl (by decide +kernel : decode cX10_lacks 81 = .ok (.iload_n 0, 1))))
    (kx_sB (kx_sL (ks_iconst hx hb (by decide +kernel) (by decide +kernel : decode cX10_lacks 82 = .ok (.iconst 1, 1))))
    (kx_sL (ks_cs X (kc_X10_isUnder l) ⟨rfl, rfl⟩ kw_482 kw_483 kw_484 kw_1 (by decide +kernel) (by decide) (by decide +kernel : decode cX10_lacks 83 = .ok (.invokestatic 134, 3))))))
    (kx_sB (kx_sB (kx_sL (ks_if_eq hx hb (by decide) (by decide +kernel : decode cX10_lacks 86 = .ok (.ifCond .eq 6, 3))))
    (kx_sL (ks_iinc hx hb (by decide +kernel) (by decide) (by decide +kernel : decode cX10_lacks 89 = .ok (.iinc 5 1, 3)))))
    (kx_sB (kx_sL (ks_iload hx hb (by decide +kernel : decode cX10_lacks 92 = .ok (.iload 5, 2))))
    (kx_sL (ks_iret Z hx hb hr (by decide +kernel : decode cX10_lacks 94 = .ok (.ireturn, 1)))))))))))
def tb_X10_fateIn : Nat → kx_T := (kx_br 32 (kx_br 17 (kx_br 6 (kx_br 2 (kx_br 1 (kx_lf 0 (ki_iload 1 1)) (kx_lf 1 (ki_aload 0 2))) (kx_br 5 (kx_lf 2 (ki_getI 6 13 5)) (kx_lf 5 (ki_aload 0 6)))) (kx_br 10 (kx_br 9 (kx_lf 6 (ki_getI 6 10 9)) (kx_lf 9 (ki_aload 0 10))) (kx_br 13 (kx_lf 10 (ki_getI 6 12 13)) (kx_br 14 (kx_lf 13 (ki_aload 0 14)) (kx_lf 14 (ki_getI 6 16 17)))))) (kx_br 25 (kx_br 21 (kx_br 20 (kx_lf 17 (ki_cs 5 8 sp_X10_lacks 20)) (kx_lf 20 (ki_istore 2 21))) (kx_br 22 (kx_lf 21 (ki_iload 2 22)) (kx_lf 22 (ki_if_ne 27 25)))) (kx_br 27 (kx_br 26 (kx_lf 25 (ki_ic (0) 26)) (kx_lf 26 (ki_iret))) (kx_br 28 (kx_lf 27 (ki_iload 2 28)) (kx_br 29 (kx_lf 28 (ki_ic (1) 29)) (kx_lf 29 (ki_icmp_ne 52 32))))))) (kx_br 49 (kx_br 40 (kx_br 36 (kx_br 33 (kx_lf 32 (ki_aload 0 33)) (kx_lf 33 (ki_getI 6 12 36))) (kx_br 37 (kx_lf 36 (ki_ic (2) 37)) (kx_lf 37 (ki_icmp_ne 48 40)))) (kx_br 42 (kx_br 41 (kx_lf 40 (ki_iload 1 41)) (kx_lf 41 (ki_ic (2) 42))) (kx_br 45 (kx_lf 42 (ki_cs 2 4 sp_X10_isUnder 45)) (kx_br 48 (kx_lf 45 (ki_if_ne 52 48)) (kx_lf 48 (ki_ic (1) 49)))))) (kx_br 55 (kx_br 53 (kx_br 52 (kx_lf 49 (ki_goto 53)) (kx_lf 52 (ki_ic (0) 53))) (kx_br 54 (kx_lf 53 (ki_istore 3 54)) (kx_lf 54 (ki_iload 3 55)))) (kx_br 59 (kx_br 58 (kx_lf 55 (ki_if_eq 62 58)) (kx_lf 58 (ki_ic (1) 59))) (kx_br 62 (kx_lf 59 (ki_goto 63)) (kx_br 63 (kx_lf 62 (ki_ic (2) 63)) (kx_lf 63 (ki_iret))))))))
def sp_X10_fateIn : kx_Sp := kx_sp tb_X10_fateIn 4
set_option maxRecDepth 100000 in
set_option maxHeartbeats 4000000 in
theorem kc_X10_fateIn (l : Launch) : kx_ok1 l yX10_fateIn (kx_wd yX10_fateIn cX10_fateIn 4 (some .int)) ({ frames := 3, cells := 0, slots := 0, locals := 70 }) sp_X10_fateIn 4 0 0 := kx_met (by decide) ⟨rfl, rfl⟩ (fun p e s m args below meth c Q D C4 A cnt0 ad0 P X Z hr hn => by
  have hx := X.1.1
  have hb := X.1.2.1
  have hts := X.1.2.2.2.2
  exact (kx_sB (kx_sB (kx_sB (kx_sB (kx_sB (kx_sL (ks_iload_n hx hb rfl (by decide +kernel : decode cX10_fateIn 0 = .ok (.iload_n 1, 1))))
    (kx_sL (ks_aload_n hx hb rfl (by decide +kernel : decode cX10_fateIn 1 = .ok (.aload_n 0, 1)))))
    (kx_sB (kx_sL (ks_getI hx hb hts X.1.2.2.2.1 X.2.1 kf_6 (j := 13) rfl kw_148 (by decide +kernel : decode cX10_fateIn 2 = .ok (.getfield 398, 3))))
    (kx_sL (ks_aload_n hx hb rfl (by decide +kernel : decode cX10_fateIn 5 = .ok (.aload_n 0, 1))))))
    (kx_sB (kx_sB (kx_sL (ks_getI hx hb hts X.1.2.2.2.1 X.2.1 kf_6 (j := 10) rfl kw_141 (by decide +kernel : decode cX10_fateIn 6 = .ok (.getfield 383, 3))))
    (kx_sL (ks_aload_n hx hb rfl (by decide +kernel : decode cX10_fateIn 9 = .ok (.aload_n 0, 1)))))
    (kx_sB (kx_sL (ks_getI hx hb hts X.1.2.2.2.1 X.2.1 kf_6 (j := 12) rfl kw_145 (by decide +kernel : decode cX10_fateIn 10 = .ok (.getfield 401, 3))))
    (kx_sB (kx_sL (ks_aload_n hx hb rfl (by decide +kernel : decode cX10_fateIn 13 = .ok (.aload_n 0, 1))))
    (kx_sL (ks_getI hx hb hts X.1.2.2.2.1 X.2.1 kf_6 (j := 16) rfl kw_155 (by decide +kernel : decode cX10_fateIn 14 = .ok (.getfield 404, 3))))))))
    (kx_sB (kx_sB (kx_sB (kx_sL (ks_cs X (kc_X10_lacks l) ⟨rfl, rfl⟩ kw_496 kw_497 kw_498 kw_1 (by decide +kernel) (by decide) (by decide +kernel : decode cX10_fateIn 17 = .ok (.invokestatic 144, 3))))
    (kx_sL (ks_istore_n hx hb rfl (by decide) (by decide +kernel : decode cX10_fateIn 20 = .ok (.istore_n 2, 1)))))
    (kx_sB (kx_sL (ks_iload_n hx hb rfl (by decide +kernel : decode cX10_fateIn 21 = .ok (.iload_n 2, 1))))
    (kx_sL (ks_if_ne hx hb (by decide) (by decide +kernel : decode cX10_fateIn 22 = .ok (.ifCond .ne 5, 3))))))
    (kx_sB (kx_sB (kx_sL (ks_iconst hx hb (by decide +kernel) (by decide +kernel : decode cX10_fateIn 25 = .ok (.iconst 0, 1))))
    (kx_sL (ks_iret Z hx hb hr (by decide +kernel : decode cX10_fateIn 26 = .ok (.ireturn, 1)))))
    (kx_sB (kx_sL (ks_iload_n hx hb rfl (by decide +kernel : decode cX10_fateIn 27 = .ok (.iload_n 2, 1))))
    (kx_sB (kx_sL (ks_iconst hx hb (by decide +kernel) (by decide +kernel : decode cX10_fateIn 28 = .ok (.iconst 1, 1))))
    (kx_sL (ks_icmp_ne hx hb (by decide) (by decide +kernel : decode cX10_fateIn 29 = .ok (.if_icmp .ne 23, 3)))))))))
    (kx_sB (kx_sB (kx_sB (kx_sB (kx_sL (ks_aload_n hx hb rfl (by decide +kernel : decode cX10_fateIn 32 = .ok (.aload_n 0, 1))))
    (kx_sL (ks_getI hx hb hts X.1.2.2.2.1 X.2.1 kf_6 (j := 12) rfl kw_145 (by decide +kernel : decode cX10_fateIn 33 = .ok (.getfield 401, 3)))))
    (kx_sB (kx_sL (ks_iconst hx hb (by decide +kernel) (by decide +kernel : decode cX10_fateIn 36 = .ok (.iconst 2, 1))))
    (kx_sL (ks_icmp_ne hx hb (by decide) (by decide +kernel : decode cX10_fateIn 37 = .ok (.if_icmp .ne 11, 3))))))
    (kx_sB (kx_sB (kx_sL (ks_iload_n hx hb rfl (by decide +kernel : decode cX10_fateIn 40 = .ok (.iload_n 1, 1))))
    (kx_sL (ks_iconst hx hb (by decide +kernel) (by decide +kernel : decode cX10_fateIn 41 = .ok (.iconst 2, 1)))))
    (kx_sB (kx_sL (ks_cs X (kc_X10_isUnder l) ⟨rfl, rfl⟩ kw_482 kw_483 kw_484 kw_1 (by decide +kernel) (by decide) (by decide +kernel : decode cX10_fateIn 42 = .ok (.invokestatic 134, 3))))
    (kx_sB (kx_sL (ks_if_ne hx hb (by decide) (by decide +kernel : decode cX10_fateIn 45 = .ok (.ifCond .ne 7, 3))))
    (kx_sL (ks_iconst hx hb (by decide +kernel) (by decide +kernel : decode cX10_fateIn 48 = .ok (.iconst 1, 1))))))))
    (kx_sB (kx_sB (kx_sB (kx_sL (ks_goto hx hb (by decide) (by decide +kernel : decode cX10_fateIn 49 = .ok (.goto 4, 3))))
    (kx_sL (ks_iconst hx hb (by decide +kernel) (by decide +kernel : decode cX10_fateIn 52 = .ok (.iconst 0, 1)))))
    (kx_sB (kx_sL (ks_istore_n hx hb rfl (by decide) (by decide +kernel : decode cX10_fateIn 53 = .ok (.istore_n 3, 1))))
    (kx_sL (ks_iload_n hx hb rfl (by decide +kernel : decode cX10_fateIn 54 = .ok (.iload_n 3, 1))))))
    (kx_sB (kx_sB (kx_sL (ks_if_eq hx hb (by decide) (by decide +kernel : decode cX10_fateIn 55 = .ok (.ifCond .eq 7, 3))))
    (kx_sL (ks_iconst hx hb (by decide +kernel) (by decide +kernel : decode cX10_fateIn 58 = .ok (.iconst 1, 1)))))
    (kx_sB (kx_sL (ks_goto hx hb (by decide) (by decide +kernel : decode cX10_fateIn 59 = .ok (.goto 4, 3))))
    (kx_sB (kx_sL (ks_iconst hx hb (by decide +kernel) (by decide +kernel : decode cX10_fateIn 62 = .ok (.iconst 2, 1))))
    (kx_sL (ks_iret Z hx hb hr (by decide +kernel : decode cX10_fateIn 63 = .ok (.ireturn, 1)))))))))))
def tb_X8_passHour : Nat → kx_T := (kx_br 85 (kx_br 40 (kx_br 22 (kx_br 9 (kx_br 4 (kx_br 1 (kx_lf 0 (ki_aload 0 1)) (kx_lf 1 (ki_getR 8 0 6 (fun _ => 2) 4))) (kx_br 7 (kx_lf 4 (ki_cv 6 0 1 sp_X6_keepWatch 7)) (kx_br 8 (kx_lf 7 (ki_aload 0 8)) (kx_lf 8 (ki_dup 9))))) (kx_br 13 (kx_br 12 (kx_lf 9 (ki_getI 8 1 12)) (kx_lf 12 (ki_aload 0 13))) (kx_br 16 (kx_lf 13 (ki_getR 8 0 6 (fun _ => 2) 16)) (kx_br 19 (kx_lf 16 (ki_cv 6 0 1 sp_X6_isUnlit 19)) (kx_lf 19 (ki_if_eq 26 22)))))) (kx_br 31 (kx_br 26 (kx_br 23 (kx_lf 22 (ki_ic (1) 23)) (kx_lf 23 (ki_goto 27))) (kx_br 27 (kx_lf 26 (ki_ic (0) 27)) (kx_br 28 (kx_lf 27 (ki_iadd 28)) (kx_lf 28 (ki_putI 8 1 31))))) (kx_br 33 (kx_br 32 (kx_lf 31 (ki_aload 0 32)) (kx_lf 32 (ki_dup 33))) (kx_br 36 (kx_lf 33 (ki_getI 8 4 36)) (kx_br 37 (kx_lf 36 (ki_aload 0 37)) (kx_lf 37 (ki_getR 8 0 6 (fun _ => 2) 40))))))) (kx_br 60 (kx_br 51 (kx_br 46 (kx_br 43 (kx_lf 40 (ki_cv 6 0 1 sp_X6_isAsleepOnWatch 43)) (kx_lf 43 (ki_if_eq 50 46))) (kx_br 47 (kx_lf 46 (ki_ic (1) 47)) (kx_br 50 (kx_lf 47 (ki_goto 51)) (kx_lf 50 (ki_ic (0) 51))))) (kx_br 55 (kx_br 52 (kx_lf 51 (ki_iadd 52)) (kx_lf 52 (ki_putI 8 4 55))) (kx_br 56 (kx_lf 55 (ki_aload 0 56)) (kx_br 59 (kx_lf 56 (ki_getI 8 5 59)) (kx_lf 59 (ki_aload 1 60)))))) (kx_br 71 (kx_br 66 (kx_br 63 (kx_lf 60 (ki_getI 2 5 63)) (kx_lf 63 (ki_icmp_ge 155 66))) (kx_br 67 (kx_lf 66 (ki_aload 1 67)) (kx_br 68 (kx_lf 67 (ki_aload 0 68)) (kx_lf 68 (ki_getR 8 0 6 (fun _ => 2) 71))))) (kx_br 78 (kx_br 74 (kx_lf 71 (ki_getI 6 4 74)) (kx_br 75 (kx_lf 74 (ki_aload 0 75)) (kx_lf 75 (ki_getI 8 5 78)))) (kx_br 81 (kx_lf 78 (ki_cv 2 2 3 sp_X2_isPlaceOf 81)) (kx_br 84 (kx_lf 81 (ki_if_eq 155 84)) (kx_lf 84 (ki_aload 0 85)))))))) (kx_br 124 (kx_br 105 (kx_br 94 (kx_br 89 (kx_br 88 (kx_lf 85 (ki_getR 8 0 6 (fun _ => 2) 88)) (kx_lf 88 (ki_aload 1 89))) (kx_br 90 (kx_lf 89 (ki_aload 1 90)) (kx_br 91 (kx_lf 90 (ki_aload 0 91)) (kx_lf 91 (ki_getI 8 5 94))))) (kx_br 100 (kx_br 97 (kx_lf 94 (ki_cv 2 1 2 sp_X2_shipInPlace 97)) (kx_lf 97 (ki_cv 2 1 2 sp_X2_kindOf 100))) (kx_br 103 (kx_lf 100 (ki_cs 2 4 sp_X10_fateIn 103)) (kx_br 104 (kx_lf 103 (ki_istore 2 104)) (kx_lf 104 (ki_aload 0 105)))))) (kx_br 114 (kx_br 109 (kx_br 106 (kx_lf 105 (ki_dup 106)) (kx_lf 106 (ki_getI 8 2 109))) (kx_br 110 (kx_lf 109 (ki_iload 2 110)) (kx_br 111 (kx_lf 110 (ki_ic (1) 111)) (kx_lf 111 (ki_icmp_ne 118 114))))) (kx_br 119 (kx_br 115 (kx_lf 114 (ki_ic (1) 115)) (kx_br 118 (kx_lf 115 (ki_goto 119)) (kx_lf 118 (ki_ic (0) 119)))) (kx_br 120 (kx_lf 119 (ki_iadd 120)) (kx_br 123 (kx_lf 120 (ki_putI 8 2 123)) (kx_lf 123 (ki_aload 0 124))))))) (kx_br 142 (kx_br 133 (kx_br 128 (kx_br 125 (kx_lf 124 (ki_dup 125)) (kx_lf 125 (ki_getI 8 3 128))) (kx_br 129 (kx_lf 128 (ki_iload 2 129)) (kx_br 130 (kx_lf 129 (ki_ic (2) 130)) (kx_lf 130 (ki_icmp_ne 137 133))))) (kx_br 137 (kx_br 134 (kx_lf 133 (ki_ic (1) 134)) (kx_lf 134 (ki_goto 138))) (kx_br 138 (kx_lf 137 (ki_ic (0) 138)) (kx_br 139 (kx_lf 138 (ki_iadd 139)) (kx_lf 139 (ki_putI 8 3 142)))))) (kx_br 149 (kx_br 144 (kx_br 143 (kx_lf 142 (ki_aload 0 143)) (kx_lf 143 (ki_dup 144))) (kx_br 147 (kx_lf 144 (ki_getI 8 5 147)) (kx_br 148 (kx_lf 147 (ki_ic (1) 148)) (kx_lf 148 (ki_iadd 149))))) (kx_br 156 (kx_br 152 (kx_lf 149 (ki_putI 8 5 152)) (kx_br 155 (kx_lf 152 (ki_goto 55)) (kx_lf 155 (ki_aload 0 156)))) (kx_br 159 (kx_lf 156 (ki_getR 8 0 6 (fun _ => 2) 159)) (kx_br 162 (kx_lf 159 (ki_cv 6 0 1 sp_X6_endHour 162)) (kx_lf 162 (ki_vret)))))))))
def sp_X8_passHour : kx_Sp := kx_sp tb_X8_passHour 3
set_option maxRecDepth 100000 in
set_option maxHeartbeats 4000000 in
theorem kc_X8_passHour (l : Launch) : kx_ok1 l yX8_passHour (kx_wd yX8_passHour cX8_passHour 3 none) ({ frames := 4, cells := 0, slots := 0, locals := 93 }) sp_X8_passHour 3 0 0 := kx_met (by decide) ⟨rfl, rfl⟩ (fun p e s m args below meth c Q D C4 A cnt0 ad0 P X Z hr hn => by
  have hx := X.1.1
  have hb := X.1.2.1
  have hts := X.1.2.2.2.2
  exact (kx_sB (kx_sB (kx_sB (kx_sB (kx_sB (kx_sB (kx_sL (ks_aload_n hx hb rfl (by decide +kernel : decode cX8_passHour 0 = .ok (.aload_n 0, 1))))
    (kx_sL (ks_getR hx hb hts X.1.2.2.2.1 X.2.1 kf_8 (j := 0) rfl kw_278 (by decide +kernel : decode cX8_passHour 1 = .ok (.getfield 12, 3)))))
    (kx_sB (kx_sL (ks_cv X (kc_X6_keepWatch l) ⟨rfl, rfl⟩ kf_6 kw_952 kw_747 kw_748 kw_749 kw_3 (by decide +kernel) (by decide) (by decide +kernel : decode cX8_passHour 4 = .ok (.invokevirtual 58, 3))))
    (kx_sB (kx_sL (ks_aload_n hx hb rfl (by decide +kernel : decode cX8_passHour 7 = .ok (.aload_n 0, 1))))
    (kx_sL (ks_dup hx hb (by decide +kernel : decode cX8_passHour 8 = .ok (.dup, 1)))))))
    (kx_sB (kx_sB (kx_sL (ks_getI hx hb hts X.1.2.2.2.1 X.2.1 kf_8 (j := 1) rfl kw_280 (by decide +kernel : decode cX8_passHour 9 = .ok (.getfield 18, 3))))
    (kx_sL (ks_aload_n hx hb rfl (by decide +kernel : decode cX8_passHour 12 = .ok (.aload_n 0, 1)))))
    (kx_sB (kx_sL (ks_getR hx hb hts X.1.2.2.2.1 X.2.1 kf_8 (j := 0) rfl kw_278 (by decide +kernel : decode cX8_passHour 13 = .ok (.getfield 12, 3))))
    (kx_sB (kx_sL (ks_cv X (kc_X6_isUnlit l) ⟨rfl, rfl⟩ kf_6 kw_953 kw_800 kw_801 kw_802 kw_3 (by decide +kernel) (by decide) (by decide +kernel : decode cX8_passHour 16 = .ok (.invokevirtual 61, 3))))
    (kx_sL (ks_if_eq hx hb (by decide) (by decide +kernel : decode cX8_passHour 19 = .ok (.ifCond .eq 7, 3))))))))
    (kx_sB (kx_sB (kx_sB (kx_sL (ks_iconst hx hb (by decide +kernel) (by decide +kernel : decode cX8_passHour 22 = .ok (.iconst 1, 1))))
    (kx_sL (ks_goto hx hb (by decide) (by decide +kernel : decode cX8_passHour 23 = .ok (.goto 4, 3)))))
    (kx_sB (kx_sL (ks_iconst hx hb (by decide +kernel) (by decide +kernel : decode cX8_passHour 26 = .ok (.iconst 0, 1))))
    (kx_sB (kx_sL (ks_iadd hx hb (by decide +kernel : decode cX8_passHour 27 = .ok (.iadd, 1))))
    (kx_sL (ks_putI hx hb hts X.1.2.2.2.1 X.2.1 kf_8 (j := 1) rfl kw_280 (by decide +kernel) (by decide +kernel) (by decide +kernel : decode cX8_passHour 28 = .ok (.putfield 18, 3)))))))
    (kx_sB (kx_sB (kx_sL (ks_aload_n hx hb rfl (by decide +kernel : decode cX8_passHour 31 = .ok (.aload_n 0, 1))))
    (kx_sL (ks_dup hx hb (by decide +kernel : decode cX8_passHour 32 = .ok (.dup, 1)))))
    (kx_sB (kx_sL (ks_getI hx hb hts X.1.2.2.2.1 X.2.1 kf_8 (j := 4) rfl kw_286 (by decide +kernel : decode cX8_passHour 33 = .ok (.getfield 28, 3))))
    (kx_sB (kx_sL (ks_aload_n hx hb rfl (by decide +kernel : decode cX8_passHour 36 = .ok (.aload_n 0, 1))))
    (kx_sL (ks_getR hx hb hts X.1.2.2.2.1 X.2.1 kf_8 (j := 0) rfl kw_278 (by decide +kernel : decode cX8_passHour 37 = .ok (.getfield 12, 3)))))))))
    (kx_sB (kx_sB (kx_sB (kx_sB (kx_sL (ks_cv X (kc_X6_isAsleepOnWatch l) ⟨rfl, rfl⟩ kf_6 kw_954 kw_785 kw_786 kw_787 kw_3 (by decide +kernel) (by decide) (by decide +kernel : decode cX8_passHour 40 = .ok (.invokevirtual 65, 3))))
    (kx_sL (ks_if_eq hx hb (by decide) (by decide +kernel : decode cX8_passHour 43 = .ok (.ifCond .eq 7, 3)))))
    (kx_sB (kx_sL (ks_iconst hx hb (by decide +kernel) (by decide +kernel : decode cX8_passHour 46 = .ok (.iconst 1, 1))))
    (kx_sB (kx_sL (ks_goto hx hb (by decide) (by decide +kernel : decode cX8_passHour 47 = .ok (.goto 4, 3))))
    (kx_sL (ks_iconst hx hb (by decide +kernel) (by decide +kernel : decode cX8_passHour 50 = .ok (.iconst 0, 1)))))))
    (kx_sB (kx_sB (kx_sL (ks_iadd hx hb (by decide +kernel : decode cX8_passHour 51 = .ok (.iadd, 1))))
    (kx_sL (ks_putI hx hb hts X.1.2.2.2.1 X.2.1 kf_8 (j := 4) rfl kw_286 (by decide +kernel) (by decide +kernel) (by decide +kernel : decode cX8_passHour 52 = .ok (.putfield 28, 3)))))
    (kx_sB (kx_sL (ks_aload_n hx hb rfl (by decide +kernel : decode cX8_passHour 55 = .ok (.aload_n 0, 1))))
    (kx_sB (kx_sL (ks_getI hx hb hts X.1.2.2.2.1 X.2.1 kf_8 (j := 5) rfl kw_288 (by decide +kernel : decode cX8_passHour 56 = .ok (.getfield 31, 3))))
    (kx_sL (ks_aload_n hx hb rfl (by decide +kernel : decode cX8_passHour 59 = .ok (.aload_n 1, 1))))))))
    (kx_sB (kx_sB (kx_sB (kx_sL (ks_getI hx hb hts X.1.2.2.2.1 X.2.1 kf_2 (j := 5) rfl kw_204 (by decide +kernel : decode cX8_passHour 60 = .ok (.getfield 68, 3))))
    (kx_sL (ks_icmp_ge hx hb (by decide) (by decide +kernel : decode cX8_passHour 63 = .ok (.if_icmp .ge 92, 3)))))
    (kx_sB (kx_sL (ks_aload_n hx hb rfl (by decide +kernel : decode cX8_passHour 66 = .ok (.aload_n 1, 1))))
    (kx_sB (kx_sL (ks_aload_n hx hb rfl (by decide +kernel : decode cX8_passHour 67 = .ok (.aload_n 0, 1))))
    (kx_sL (ks_getR hx hb hts X.1.2.2.2.1 X.2.1 kf_8 (j := 0) rfl kw_278 (by decide +kernel : decode cX8_passHour 68 = .ok (.getfield 12, 3)))))))
    (kx_sB (kx_sB (kx_sL (ks_getI hx hb hts X.1.2.2.2.1 X.2.1 kf_6 (j := 4) rfl kw_127 (by decide +kernel : decode cX8_passHour 71 = .ok (.getfield 45, 3))))
    (kx_sB (kx_sL (ks_aload_n hx hb rfl (by decide +kernel : decode cX8_passHour 74 = .ok (.aload_n 0, 1))))
    (kx_sL (ks_getI hx hb hts X.1.2.2.2.1 X.2.1 kf_8 (j := 5) rfl kw_288 (by decide +kernel : decode cX8_passHour 75 = .ok (.getfield 31, 3))))))
    (kx_sB (kx_sL (ks_cv X (kc_X2_isPlaceOf l) ⟨rfl, rfl⟩ kf_2 kw_955 kw_722 kw_723 kw_724 kw_8 (by decide +kernel) (by decide) (by decide +kernel : decode cX8_passHour 78 = .ok (.invokevirtual 71, 3))))
    (kx_sB (kx_sL (ks_if_eq hx hb (by decide) (by decide +kernel : decode cX8_passHour 81 = .ok (.ifCond .eq 74, 3))))
    (kx_sL (ks_aload_n hx hb rfl (by decide +kernel : decode cX8_passHour 84 = .ok (.aload_n 0, 1))))))))))
    (kx_sB (kx_sB (kx_sB (kx_sB (kx_sB (kx_sL (ks_getR hx hb hts X.1.2.2.2.1 X.2.1 kf_8 (j := 0) rfl kw_278 (by decide +kernel : decode cX8_passHour 85 = .ok (.getfield 12, 3))))
    (kx_sL (ks_aload_n hx hb rfl (by decide +kernel : decode cX8_passHour 88 = .ok (.aload_n 1, 1)))))
    (kx_sB (kx_sL (ks_aload_n hx hb rfl (by decide +kernel : decode cX8_passHour 89 = .ok (.aload_n 1, 1))))
    (kx_sB (kx_sL (ks_aload_n hx hb rfl (by decide +kernel : decode cX8_passHour 90 = .ok (.aload_n 0, 1))))
    (kx_sL (ks_getI hx hb hts X.1.2.2.2.1 X.2.1 kf_8 (j := 5) rfl kw_288 (by decide +kernel : decode cX8_passHour 91 = .ok (.getfield 31, 3)))))))
    (kx_sB (kx_sB (kx_sL (ks_cv X (kc_X2_shipInPlace l) ⟨rfl, rfl⟩ kf_2 kw_956 kw_699 kw_700 kw_701 kw_8 (by decide +kernel) (by decide) (by decide +kernel : decode cX8_passHour 94 = .ok (.invokevirtual 75, 3))))
    (kx_sL (ks_cv X (kc_X2_kindOf l) ⟨rfl, rfl⟩ kf_2 kw_957 kw_478 kw_479 kw_480 kw_8 (by decide +kernel) (by decide) (by decide +kernel : decode cX8_passHour 97 = .ok (.invokevirtual 78, 3)))))
    (kx_sB (kx_sL (ks_csN X (kc_X10_fateIn l) ⟨rfl, rfl⟩ (host := "KeptLight") (by decide +kernel) kw_770 kw_771 kw_1 (by decide +kernel) (by decide) (by decide +kernel : decode cX8_passHour 100 = .ok (.invokestatic 81, 3))))
    (kx_sB (kx_sL (ks_istore_n hx hb rfl (by decide) (by decide +kernel : decode cX8_passHour 103 = .ok (.istore_n 2, 1))))
    (kx_sL (ks_aload_n hx hb rfl (by decide +kernel : decode cX8_passHour 104 = .ok (.aload_n 0, 1))))))))
    (kx_sB (kx_sB (kx_sB (kx_sL (ks_dup hx hb (by decide +kernel : decode cX8_passHour 105 = .ok (.dup, 1))))
    (kx_sL (ks_getI hx hb hts X.1.2.2.2.1 X.2.1 kf_8 (j := 2) rfl kw_282 (by decide +kernel : decode cX8_passHour 106 = .ok (.getfield 22, 3)))))
    (kx_sB (kx_sL (ks_iload_n hx hb rfl (by decide +kernel : decode cX8_passHour 109 = .ok (.iload_n 2, 1))))
    (kx_sB (kx_sL (ks_iconst hx hb (by decide +kernel) (by decide +kernel : decode cX8_passHour 110 = .ok (.iconst 1, 1))))
    (kx_sL (ks_icmp_ne hx hb (by decide) (by decide +kernel : decode cX8_passHour 111 = .ok (.if_icmp .ne 7, 3)))))))
    (kx_sB (kx_sB (kx_sL (ks_iconst hx hb (by decide +kernel) (by decide +kernel : decode cX8_passHour 114 = .ok (.iconst 1, 1))))
    (kx_sB (kx_sL (ks_goto hx hb (by decide) (by decide +kernel : decode cX8_passHour 115 = .ok (.goto 4, 3))))
    (kx_sL (ks_iconst hx hb (by decide +kernel) (by decide +kernel : decode cX8_passHour 118 = .ok (.iconst 0, 1))))))
    (kx_sB (kx_sL (ks_iadd hx hb (by decide +kernel : decode cX8_passHour 119 = .ok (.iadd, 1))))
    (kx_sB (kx_sL (ks_putI hx hb hts X.1.2.2.2.1 X.2.1 kf_8 (j := 2) rfl kw_282 (by decide +kernel) (by decide +kernel) (by decide +kernel : decode cX8_passHour 120 = .ok (.putfield 22, 3))))
    (kx_sL (ks_aload_n hx hb rfl (by decide +kernel : decode cX8_passHour 123 = .ok (.aload_n 0, 1)))))))))
    (kx_sB (kx_sB (kx_sB (kx_sB (kx_sL (ks_dup hx hb (by decide +kernel : decode cX8_passHour 124 = .ok (.dup, 1))))
    (kx_sL (ks_getI hx hb hts X.1.2.2.2.1 X.2.1 kf_8 (j := 3) rfl kw_284 (by decide +kernel : decode cX8_passHour 125 = .ok (.getfield 25, 3)))))
    (kx_sB (kx_sL (ks_iload_n hx hb rfl (by decide +kernel : decode cX8_passHour 128 = .ok (.iload_n 2, 1))))
    (kx_sB (kx_sL (ks_iconst hx hb (by decide +kernel) (by decide +kernel : decode cX8_passHour 129 = .ok (.iconst 2, 1))))
    (kx_sL (ks_icmp_ne hx hb (by decide) (by decide +kernel : decode cX8_passHour 130 = .ok (.if_icmp .ne 7, 3)))))))
    (kx_sB (kx_sB (kx_sL (ks_iconst hx hb (by decide +kernel) (by decide +kernel : decode cX8_passHour 133 = .ok (.iconst 1, 1))))
    (kx_sL (ks_goto hx hb (by decide) (by decide +kernel : decode cX8_passHour 134 = .ok (.goto 4, 3)))))
    (kx_sB (kx_sL (ks_iconst hx hb (by decide +kernel) (by decide +kernel : decode cX8_passHour 137 = .ok (.iconst 0, 1))))
    (kx_sB (kx_sL (ks_iadd hx hb (by decide +kernel : decode cX8_passHour 138 = .ok (.iadd, 1))))
    (kx_sL (ks_putI hx hb hts X.1.2.2.2.1 X.2.1 kf_8 (j := 3) rfl kw_284 (by decide +kernel) (by decide +kernel) (by decide +kernel : decode cX8_passHour 139 = .ok (.putfield 25, 3))))))))
    (kx_sB (kx_sB (kx_sB (kx_sL (ks_aload_n hx hb rfl (by decide +kernel : decode cX8_passHour 142 = .ok (.aload_n 0, 1))))
    (kx_sL (ks_dup hx hb (by decide +kernel : decode cX8_passHour 143 = .ok (.dup, 1)))))
    (kx_sB (kx_sL (ks_getI hx hb hts X.1.2.2.2.1 X.2.1 kf_8 (j := 5) rfl kw_288 (by decide +kernel : decode cX8_passHour 144 = .ok (.getfield 31, 3))))
    (kx_sB (kx_sL (ks_iconst hx hb (by decide +kernel) (by decide +kernel : decode cX8_passHour 147 = .ok (.iconst 1, 1))))
    (kx_sL (ks_iadd hx hb (by decide +kernel : decode cX8_passHour 148 = .ok (.iadd, 1)))))))
    (kx_sB (kx_sB (kx_sL (ks_putI hx hb hts X.1.2.2.2.1 X.2.1 kf_8 (j := 5) rfl kw_288 (by decide +kernel) (by decide +kernel) (by decide +kernel : decode cX8_passHour 149 = .ok (.putfield 31, 3))))
    (kx_sB (kx_sL (ks_goto hx hb (by decide) (by decide +kernel : decode cX8_passHour 152 = .ok (.goto (-97), 3))))
    (kx_sL (ks_aload_n hx hb rfl (by decide +kernel : decode cX8_passHour 155 = .ok (.aload_n 0, 1))))))
    (kx_sB (kx_sL (ks_getR hx hb hts X.1.2.2.2.1 X.2.1 kf_8 (j := 0) rfl kw_278 (by decide +kernel : decode cX8_passHour 156 = .ok (.getfield 12, 3))))
    (kx_sB (kx_sL (ks_cv X (kc_X6_endHour l) ⟨rfl, rfl⟩ kf_6 kw_959 kw_805 kw_806 kw_807 kw_3 (by decide +kernel) (by decide) (by decide +kernel : decode cX8_passHour 159 = .ok (.invokevirtual 85, 3))))
    (kx_sL (ks_vret Z hx hb hr (by decide +kernel : decode cX8_passHour 162 = .ok (.return_, 1))))))))))))

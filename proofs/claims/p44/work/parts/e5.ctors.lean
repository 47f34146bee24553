/-! the constructors' runs, made by wip/whole/gen/genctor.py -/
def cfill (o : Nat) (I : kI) : kI := kx_uA I 37 o (fun k => if k < 24 then -1 else I 37 o k)
def cn_5_0 (I : kI) : kI := kw (kw (kw (kx_uA (kw (kx_uA (I) 35 0 (fun _ => 0)) 5 0 0 1) 36 0 (fun _ => 0)) 5 0 1 1) 5 0 2 0) 5 0 3 0
def jn_5_0 (J : kJ) : kJ := kx_uL (kx_uL (J) 35 0 (fun _ => 0)) 36 0 (fun _ => 0)
set_option maxRecDepth 100000 in
set_option maxHeartbeats 1000000 in
theorem kn_5_0 (I : kI) (J : kJ) : sp_X5_init [kx_r 5 0] (I, J, some 4) none (cn_5_0 I, jn_5_0 J, some 6) := by
  have s0 : kx_Run tb_X5_init (kx_cnt (cn_5_0 I, jn_5_0 J, some 6), fun r' S'' => r' = none ∧ S'' = (cn_5_0 I, jn_5_0 J, some 6)) 20 [some (kx_r 5 0)] [] (kw (kx_uA (kw (kx_uA (I) 35 0 (fun _ => 0)) 5 0 0 1) 36 0 (fun _ => 0)) 5 0 1 1, kx_uL (kx_uL (J) 35 0 (fun _ => 0)) 36 0 (fun _ => 0), some 6) := by
    refine kx_start [] 200 ?_
    exact ⟨rfl, rfl⟩
  refine kx_start [20] 200 ?_
  refine ⟨rfl, ?_⟩
  refine ⟨rfl, ?_⟩
  exact s0
def cn_1_0 (I : kI) : kI := kw (kw (kx_uA (kw (kx_uA (kw (kx_uA (kw (kx_uA (kw (kx_uA (I) 20 0 (fun _ => 0)) 1 0 0 1) 21 0 (fun _ => 0)) 1 0 1 1) 22 0 (fun _ => 0)) 1 0 2 1) 23 0 (fun _ => 0)) 1 0 3 1) 24 0 (fun _ => 0)) 1 0 4 1) 1 0 5 0
def jn_1_0 (J : kJ) : kJ := kx_uL (kx_uL (kx_uL (kx_uL (kx_uL (J) 20 0 (fun _ => 0)) 21 0 (fun _ => 0)) 22 0 (fun _ => 0)) 23 0 (fun _ => 0)) 24 0 (fun _ => 0)
set_option maxRecDepth 100000 in
set_option maxHeartbeats 1000000 in
theorem kn_1_0 (I : kI) (J : kJ) : sp_X1_init [kx_r 1 0] (I, J, some 7) none (cn_1_0 I, jn_1_0 J, some 12) := by
  have s1 : kx_Run tb_X1_init (kx_cnt (cn_1_0 I, jn_1_0 J, some 12), fun r' S'' => r' = none ∧ S'' = (cn_1_0 I, jn_1_0 J, some 12)) 36 [some (kx_r 1 0)] [] (kw (kx_uA (kw (kx_uA (kw (kx_uA (kw (kx_uA (I) 20 0 (fun _ => 0)) 1 0 0 1) 21 0 (fun _ => 0)) 1 0 1 1) 22 0 (fun _ => 0)) 1 0 2 1) 23 0 (fun _ => 0)) 1 0 3 1, kx_uL (kx_uL (kx_uL (kx_uL (J) 20 0 (fun _ => 0)) 21 0 (fun _ => 0)) 22 0 (fun _ => 0)) 23 0 (fun _ => 0), some 11) := by
    refine kx_start [] 200 ?_
    refine ⟨rfl, ?_⟩
    exact ⟨rfl, rfl⟩
  have s0 : kx_Run tb_X1_init (kx_cnt (cn_1_0 I, jn_1_0 J, some 12), fun r' S'' => r' = none ∧ S'' = (cn_1_0 I, jn_1_0 J, some 12)) 20 [some (kx_r 1 0)] [] (kw (kx_uA (kw (kx_uA (I) 20 0 (fun _ => 0)) 1 0 0 1) 21 0 (fun _ => 0)) 1 0 1 1, kx_uL (kx_uL (J) 20 0 (fun _ => 0)) 21 0 (fun _ => 0), some 9) := by
    refine kx_start [36] 200 ?_
    refine ⟨rfl, ?_⟩
    refine ⟨rfl, ?_⟩
    exact s1
  refine kx_start [20] 200 ?_
  refine ⟨rfl, ?_⟩
  refine ⟨rfl, ?_⟩
  exact s0
def cn_0_0 (I : kI) : kI := kw (kw (kw (kw (kw (I) 0 0 0 (-1)) 0 0 1 168) 0 0 2 0) 0 0 3 0) 0 0 4 0
def jn_0_0 (J : kJ) : kJ := J
set_option maxRecDepth 100000 in
set_option maxHeartbeats 1000000 in
theorem kn_0_0 (I : kI) (J : kJ) : sp_X0_init [kx_r 0 0] (I, J, some 13) none (cn_0_0 I, jn_0_0 J, some 13) := by
  have s0 : kx_Run tb_X0_init (kx_cnt (cn_0_0 I, jn_0_0 J, some 13), fun r' S'' => r' = none ∧ S'' = (cn_0_0 I, jn_0_0 J, some 13)) 26 [some (kx_r 0 0)] [] (kw (kw (kw (kw (I) 0 0 0 (-1)) 0 0 1 168) 0 0 2 0) 0 0 3 0, J, some 13) := by
    refine kx_start [] 200 ?_
    exact ⟨rfl, rfl⟩
  refine kx_start [26] 200 ?_
  exact s0
def cn_6_0 (I : kI) : kI := cfill 0 (kw (kw (kw (kw (kw (kw (kw (kw (kw (kw (kw (kw (kw (kw (kx_uA (kw (cn_0_0 (kx_uA (kw (cn_1_0 (kx_uA (kw (cn_5_0 (kx_uA (I) 5 0 (fun _ => 0))) 6 0 0 1) 1 0 (fun _ => 0))) 6 0 1 1) 0 0 (fun _ => 0))) 6 0 2 1) 37 0 (fun _ => 0)) 6 0 3 1) 6 0 4 0) 6 0 5 6) 6 0 6 18) 6 0 7 1) 6 0 8 0) 6 0 9 0) 6 0 10 0) 6 0 11 0) 6 0 12 0) 6 0 13 0) 6 0 14 (-1)) 6 0 15 0) 6 0 16 0)
def jn_6_0 (J : kJ) : kJ := kx_uL (jn_0_0 (jn_1_0 (jn_5_0 (J)))) 37 0 (fun _ => 0)
set_option maxRecDepth 100000 in
set_option maxHeartbeats 1000000 in
theorem kn_6_0 (I : kI) (J : kJ) : sp_X6_init [kx_r 6 0] (I, J, some 3) none (cn_6_0 I, jn_6_0 J, some 14) := by
  have s4 : kx_Run tb_X6_init (kx_cnt (cn_6_0 I, jn_6_0 J, some 14), fun r' S'' => r' = none ∧ S'' = (cn_6_0 I, jn_6_0 J, some 14)) 107 [some (kx_r 6 0)] [] (kw (kw (kw (kw (kw (kw (kw (kw (kw (kw (kw (kw (kw (kx_uA (kw (cn_0_0 (kx_uA (kw (cn_1_0 (kx_uA (kw (cn_5_0 (kx_uA (I) 5 0 (fun _ => 0))) 6 0 0 1) 1 0 (fun _ => 0))) 6 0 1 1) 0 0 (fun _ => 0))) 6 0 2 1) 37 0 (fun _ => 0)) 6 0 3 1) 6 0 4 0) 6 0 5 6) 6 0 6 18) 6 0 7 1) 6 0 8 0) 6 0 9 0) 6 0 10 0) 6 0 11 0) 6 0 12 0) 6 0 13 0) 6 0 14 (-1)) 6 0 15 0, kx_uL (jn_0_0 (jn_1_0 (jn_5_0 (J)))) 37 0 (fun _ => 0), some 14) := by
    refine kx_start [] 200 ?_
    refine ⟨Or.inl rfl, ?_⟩
    refine ⟨fun h => absurd (show (1 : Int32) = 0 from h) (by decide), ?_⟩
    refine ⟨none, _, cs_J7_fill_53178 0 (-1) _ _ _, rfl, ?_⟩
    exact ⟨rfl, rfl⟩
  have s3 : kx_Run tb_X6_init (kx_cnt (cn_6_0 I, jn_6_0 J, some 14), fun r' S'' => r' = none ∧ S'' = (cn_6_0 I, jn_6_0 J, some 14)) 87 [some (kx_r 6 0)] [] (kw (kw (kw (kw (kw (kw (kw (kw (kw (kx_uA (kw (cn_0_0 (kx_uA (kw (cn_1_0 (kx_uA (kw (cn_5_0 (kx_uA (I) 5 0 (fun _ => 0))) 6 0 0 1) 1 0 (fun _ => 0))) 6 0 1 1) 0 0 (fun _ => 0))) 6 0 2 1) 37 0 (fun _ => 0)) 6 0 3 1) 6 0 4 0) 6 0 5 6) 6 0 6 18) 6 0 7 1) 6 0 8 0) 6 0 9 0) 6 0 10 0) 6 0 11 0, kx_uL (jn_0_0 (jn_1_0 (jn_5_0 (J)))) 37 0 (fun _ => 0), some 14) := by
    refine kx_start [107] 200 ?_
    refine ⟨Or.inl rfl, ?_⟩
    refine ⟨Or.inl rfl, ?_⟩
    exact s4
  have s2 : kx_Run tb_X6_init (kx_cnt (cn_6_0 I, jn_6_0 J, some 14), fun r' S'' => r' = none ∧ S'' = (cn_6_0 I, jn_6_0 J, some 14)) 67 [some (kx_r 6 0)] [] (kw (kw (kw (kw (kw (kx_uA (kw (cn_0_0 (kx_uA (kw (cn_1_0 (kx_uA (kw (cn_5_0 (kx_uA (I) 5 0 (fun _ => 0))) 6 0 0 1) 1 0 (fun _ => 0))) 6 0 1 1) 0 0 (fun _ => 0))) 6 0 2 1) 37 0 (fun _ => 0)) 6 0 3 1) 6 0 4 0) 6 0 5 6) 6 0 6 18) 6 0 7 1, kx_uL (jn_0_0 (jn_1_0 (jn_5_0 (J)))) 37 0 (fun _ => 0), some 14) := by
    refine kx_start [87] 200 ?_
    refine ⟨Or.inl rfl, ?_⟩
    exact s3
  have s1 : kx_Run tb_X6_init (kx_cnt (cn_6_0 I, jn_6_0 J, some 14), fun r' S'' => r' = none ∧ S'' = (cn_6_0 I, jn_6_0 J, some 14)) 45 [some (kx_r 6 0)] [] (kw (kx_uA (kw (cn_0_0 (kx_uA (kw (cn_1_0 (kx_uA (kw (cn_5_0 (kx_uA (I) 5 0 (fun _ => 0))) 6 0 0 1) 1 0 (fun _ => 0))) 6 0 1 1) 0 0 (fun _ => 0))) 6 0 2 1) 37 0 (fun _ => 0)) 6 0 3 1, kx_uL (jn_0_0 (jn_1_0 (jn_5_0 (J)))) 37 0 (fun _ => 0), some 14) := by
    refine kx_start [67] 200 ?_
    exact s2
  have s0 : kx_Run tb_X6_init (kx_cnt (cn_6_0 I, jn_6_0 J, some 14), fun r' S'' => r' = none ∧ S'' = (cn_6_0 I, jn_6_0 J, some 14)) 26 [some (kx_r 6 0)] [] (kw (cn_1_0 (kx_uA (kw (cn_5_0 (kx_uA (I) 5 0 (fun _ => 0))) 6 0 0 1) 1 0 (fun _ => 0))) 6 0 1 1, jn_1_0 (jn_5_0 (J)), some 12) := by
    refine kx_start [45] 200 ?_
    refine ⟨_, kn_0_0 _ _, rfl, rfl, Nat.le_of_ble_eq_true rfl, ?_⟩
    refine ⟨rfl, ?_⟩
    exact s1
  refine kx_start [26] 200 ?_
  refine ⟨_, kn_5_0 _ _, rfl, rfl, Nat.le_of_ble_eq_true rfl, ?_⟩
  refine ⟨_, kn_1_0 _ _, rfl, rfl, Nat.le_of_ble_eq_true rfl, ?_⟩
  exact s0
def cn_2_0 (I : kI) : kI := kw (kw (kx_uA (kw (kx_uA (kw (kx_uA (kw (kx_uA (kw (kx_uA (I) 25 0 (fun _ => 0)) 2 0 0 1) 26 0 (fun _ => 0)) 2 0 1 1) 27 0 (fun _ => 0)) 2 0 2 1) 28 0 (fun _ => 0)) 2 0 3 1) 29 0 (fun _ => 0)) 2 0 4 1) 2 0 5 0
def jn_2_0 (J : kJ) : kJ := kx_uL (kx_uL (kx_uL (kx_uL (kx_uL (J) 25 0 (fun _ => 0)) 26 0 (fun _ => 0)) 27 0 (fun _ => 0)) 28 0 (fun _ => 0)) 29 0 (fun _ => 0)
set_option maxRecDepth 100000 in
set_option maxHeartbeats 1000000 in
theorem kn_2_0 (I : kI) (J : kJ) : sp_X2_init [kx_r 2 0] (I, J, some 15) none (cn_2_0 I, jn_2_0 J, some 20) := by
  have s1 : kx_Run tb_X2_init (kx_cnt (cn_2_0 I, jn_2_0 J, some 20), fun r' S'' => r' = none ∧ S'' = (cn_2_0 I, jn_2_0 J, some 20)) 40 [some (kx_r 2 0)] [] (kw (kx_uA (kw (kx_uA (kw (kx_uA (kw (kx_uA (I) 25 0 (fun _ => 0)) 2 0 0 1) 26 0 (fun _ => 0)) 2 0 1 1) 27 0 (fun _ => 0)) 2 0 2 1) 28 0 (fun _ => 0)) 2 0 3 1, kx_uL (kx_uL (kx_uL (kx_uL (J) 25 0 (fun _ => 0)) 26 0 (fun _ => 0)) 27 0 (fun _ => 0)) 28 0 (fun _ => 0), some 19) := by
    refine kx_start [] 200 ?_
    refine ⟨rfl, ?_⟩
    exact ⟨rfl, rfl⟩
  have s0 : kx_Run tb_X2_init (kx_cnt (cn_2_0 I, jn_2_0 J, some 20), fun r' S'' => r' = none ∧ S'' = (cn_2_0 I, jn_2_0 J, some 20)) 22 [some (kx_r 2 0)] [] (kw (kx_uA (kw (kx_uA (I) 25 0 (fun _ => 0)) 2 0 0 1) 26 0 (fun _ => 0)) 2 0 1 1, kx_uL (kx_uL (J) 25 0 (fun _ => 0)) 26 0 (fun _ => 0), some 17) := by
    refine kx_start [40] 200 ?_
    refine ⟨rfl, ?_⟩
    refine ⟨rfl, ?_⟩
    exact s1
  refine kx_start [22] 200 ?_
  refine ⟨rfl, ?_⟩
  refine ⟨rfl, ?_⟩
  exact s0
def cn_3_0 (I : kI) : kI := kw (kw (kx_uA (kw (kx_uA (kw (kx_uA (kw (kx_uA (I) 30 0 (fun _ => 0)) 3 0 0 1) 31 0 (fun _ => 0)) 3 0 1 1) 32 0 (fun _ => 0)) 3 0 2 1) 33 0 (fun _ => 0)) 3 0 3 1) 3 0 4 0
def jn_3_0 (J : kJ) : kJ := kx_uL (kx_uL (kx_uL (kx_uL (J) 30 0 (fun _ => 0)) 31 0 (fun _ => 0)) 32 0 (fun _ => 0)) 33 0 (fun _ => 0)
set_option maxRecDepth 100000 in
set_option maxHeartbeats 1000000 in
theorem kn_3_0 (I : kI) (J : kJ) : sp_X3_init [kx_r 3 0] (I, J, some 21) none (cn_3_0 I, jn_3_0 J, some 25) := by
  have s1 : kx_Run tb_X3_init (kx_cnt (cn_3_0 I, jn_3_0 J, some 25), fun r' S'' => r' = none ∧ S'' = (cn_3_0 I, jn_3_0 J, some 25)) 40 [some (kx_r 3 0)] [] (kw (kx_uA (kw (kx_uA (kw (kx_uA (kw (kx_uA (I) 30 0 (fun _ => 0)) 3 0 0 1) 31 0 (fun _ => 0)) 3 0 1 1) 32 0 (fun _ => 0)) 3 0 2 1) 33 0 (fun _ => 0)) 3 0 3 1, kx_uL (kx_uL (kx_uL (kx_uL (J) 30 0 (fun _ => 0)) 31 0 (fun _ => 0)) 32 0 (fun _ => 0)) 33 0 (fun _ => 0), some 25) := by
    refine kx_start [] 200 ?_
    exact ⟨rfl, rfl⟩
  have s0 : kx_Run tb_X3_init (kx_cnt (cn_3_0 I, jn_3_0 J, some 25), fun r' S'' => r' = none ∧ S'' = (cn_3_0 I, jn_3_0 J, some 25)) 22 [some (kx_r 3 0)] [] (kw (kx_uA (kw (kx_uA (I) 30 0 (fun _ => 0)) 3 0 0 1) 31 0 (fun _ => 0)) 3 0 1 1, kx_uL (kx_uL (J) 30 0 (fun _ => 0)) 31 0 (fun _ => 0), some 23) := by
    refine kx_start [40] 200 ?_
    refine ⟨rfl, ?_⟩
    refine ⟨rfl, ?_⟩
    exact s1
  refine kx_start [22] 200 ?_
  refine ⟨rfl, ?_⟩
  refine ⟨rfl, ?_⟩
  exact s0
def cn_9_0 (I : kI) : kI := kw (kw (kw (kw (cn_3_0 (kx_uA (kw (cn_2_0 (kx_uA (kw (cn_6_0 (kx_uA (I) 6 0 (fun _ => 0))) 9 0 0 1) 2 0 (fun _ => 0))) 9 0 1 1) 3 0 (fun _ => 0))) 9 0 2 1) 9 0 3 0) 9 0 4 0) 9 0 5 1
def jn_9_0 (J : kJ) : kJ := jn_3_0 (jn_2_0 (jn_6_0 (J)))
set_option maxRecDepth 100000 in
set_option maxHeartbeats 1000000 in
theorem kn_9_0 (I : kI) (J : kJ) : sp_X9_init [kx_r 9 0] (I, J, some 2) none (cn_9_0 I, jn_9_0 J, some 25) := by
  have s1 : kx_Run tb_X9_init (kx_cnt (cn_9_0 I, jn_9_0 J, some 25), fun r' S'' => r' = none ∧ S'' = (cn_9_0 I, jn_9_0 J, some 25)) 42 [some (kx_r 9 0)] [] (kw (kw (cn_3_0 (kx_uA (kw (cn_2_0 (kx_uA (kw (cn_6_0 (kx_uA (I) 6 0 (fun _ => 0))) 9 0 0 1) 2 0 (fun _ => 0))) 9 0 1 1) 3 0 (fun _ => 0))) 9 0 2 1) 9 0 3 0, jn_3_0 (jn_2_0 (jn_6_0 (J))), some 25) := by
    refine kx_start [] 200 ?_
    exact ⟨rfl, rfl⟩
  have s0 : kx_Run tb_X9_init (kx_cnt (cn_9_0 I, jn_9_0 J, some 25), fun r' S'' => r' = none ∧ S'' = (cn_9_0 I, jn_9_0 J, some 25)) 26 [some (kx_r 9 0)] [] (kw (cn_2_0 (kx_uA (kw (cn_6_0 (kx_uA (I) 6 0 (fun _ => 0))) 9 0 0 1) 2 0 (fun _ => 0))) 9 0 1 1, jn_2_0 (jn_6_0 (J)), some 20) := by
    refine kx_start [42] 200 ?_
    refine ⟨_, kn_3_0 _ _, rfl, rfl, Nat.le_of_ble_eq_true rfl, ?_⟩
    exact s1
  refine kx_start [26] 200 ?_
  refine ⟨_, kn_6_0 _ _, rfl, rfl, Nat.le_of_ble_eq_true rfl, ?_⟩
  refine ⟨_, kn_2_0 _ _, rfl, rfl, Nat.le_of_ble_eq_true rfl, ?_⟩
  exact s0
def cn_5_1 (I : kI) : kI := kw (kw (kw (kx_uA (kw (kx_uA (I) 35 1 (fun _ => 0)) 5 1 0 1) 36 1 (fun _ => 0)) 5 1 1 1) 5 1 2 0) 5 1 3 0
def jn_5_1 (J : kJ) : kJ := kx_uL (kx_uL (J) 35 1 (fun _ => 0)) 36 1 (fun _ => 0)
set_option maxRecDepth 100000 in
set_option maxHeartbeats 1000000 in
theorem kn_5_1 (I : kI) (J : kJ) : sp_X5_init [kx_r 5 1] (I, J, some 28) none (cn_5_1 I, jn_5_1 J, some 30) := by
  have s0 : kx_Run tb_X5_init (kx_cnt (cn_5_1 I, jn_5_1 J, some 30), fun r' S'' => r' = none ∧ S'' = (cn_5_1 I, jn_5_1 J, some 30)) 20 [some (kx_r 5 1)] [] (kw (kx_uA (kw (kx_uA (I) 35 1 (fun _ => 0)) 5 1 0 1) 36 1 (fun _ => 0)) 5 1 1 1, kx_uL (kx_uL (J) 35 1 (fun _ => 0)) 36 1 (fun _ => 0), some 30) := by
    refine kx_start [] 200 ?_
    exact ⟨rfl, rfl⟩
  refine kx_start [20] 200 ?_
  refine ⟨rfl, ?_⟩
  refine ⟨rfl, ?_⟩
  exact s0
def cn_1_1 (I : kI) : kI := kw (kw (kx_uA (kw (kx_uA (kw (kx_uA (kw (kx_uA (kw (kx_uA (I) 20 1 (fun _ => 0)) 1 1 0 1) 21 1 (fun _ => 0)) 1 1 1 1) 22 1 (fun _ => 0)) 1 1 2 1) 23 1 (fun _ => 0)) 1 1 3 1) 24 1 (fun _ => 0)) 1 1 4 1) 1 1 5 0
def jn_1_1 (J : kJ) : kJ := kx_uL (kx_uL (kx_uL (kx_uL (kx_uL (J) 20 1 (fun _ => 0)) 21 1 (fun _ => 0)) 22 1 (fun _ => 0)) 23 1 (fun _ => 0)) 24 1 (fun _ => 0)
set_option maxRecDepth 100000 in
set_option maxHeartbeats 1000000 in
theorem kn_1_1 (I : kI) (J : kJ) : sp_X1_init [kx_r 1 1] (I, J, some 31) none (cn_1_1 I, jn_1_1 J, some 36) := by
  have s1 : kx_Run tb_X1_init (kx_cnt (cn_1_1 I, jn_1_1 J, some 36), fun r' S'' => r' = none ∧ S'' = (cn_1_1 I, jn_1_1 J, some 36)) 36 [some (kx_r 1 1)] [] (kw (kx_uA (kw (kx_uA (kw (kx_uA (kw (kx_uA (I) 20 1 (fun _ => 0)) 1 1 0 1) 21 1 (fun _ => 0)) 1 1 1 1) 22 1 (fun _ => 0)) 1 1 2 1) 23 1 (fun _ => 0)) 1 1 3 1, kx_uL (kx_uL (kx_uL (kx_uL (J) 20 1 (fun _ => 0)) 21 1 (fun _ => 0)) 22 1 (fun _ => 0)) 23 1 (fun _ => 0), some 35) := by
    refine kx_start [] 200 ?_
    refine ⟨rfl, ?_⟩
    exact ⟨rfl, rfl⟩
  have s0 : kx_Run tb_X1_init (kx_cnt (cn_1_1 I, jn_1_1 J, some 36), fun r' S'' => r' = none ∧ S'' = (cn_1_1 I, jn_1_1 J, some 36)) 20 [some (kx_r 1 1)] [] (kw (kx_uA (kw (kx_uA (I) 20 1 (fun _ => 0)) 1 1 0 1) 21 1 (fun _ => 0)) 1 1 1 1, kx_uL (kx_uL (J) 20 1 (fun _ => 0)) 21 1 (fun _ => 0), some 33) := by
    refine kx_start [36] 200 ?_
    refine ⟨rfl, ?_⟩
    refine ⟨rfl, ?_⟩
    exact s1
  refine kx_start [20] 200 ?_
  refine ⟨rfl, ?_⟩
  refine ⟨rfl, ?_⟩
  exact s0
def cn_0_1 (I : kI) : kI := kw (kw (kw (kw (kw (I) 0 1 0 (-1)) 0 1 1 168) 0 1 2 0) 0 1 3 0) 0 1 4 0
def jn_0_1 (J : kJ) : kJ := J
set_option maxRecDepth 100000 in
set_option maxHeartbeats 1000000 in
theorem kn_0_1 (I : kI) (J : kJ) : sp_X0_init [kx_r 0 1] (I, J, some 37) none (cn_0_1 I, jn_0_1 J, some 37) := by
  have s0 : kx_Run tb_X0_init (kx_cnt (cn_0_1 I, jn_0_1 J, some 37), fun r' S'' => r' = none ∧ S'' = (cn_0_1 I, jn_0_1 J, some 37)) 26 [some (kx_r 0 1)] [] (kw (kw (kw (kw (I) 0 1 0 (-1)) 0 1 1 168) 0 1 2 0) 0 1 3 0, J, some 37) := by
    refine kx_start [] 200 ?_
    exact ⟨rfl, rfl⟩
  refine kx_start [26] 200 ?_
  exact s0
def cn_6_1 (I : kI) : kI := cfill 1 (kw (kw (kw (kw (kw (kw (kw (kw (kw (kw (kw (kw (kw (kw (kx_uA (kw (cn_0_1 (kx_uA (kw (cn_1_1 (kx_uA (kw (cn_5_1 (kx_uA (I) 5 1 (fun _ => 0))) 6 1 0 1) 1 1 (fun _ => 0))) 6 1 1 1) 0 1 (fun _ => 0))) 6 1 2 1) 37 1 (fun _ => 0)) 6 1 3 1) 6 1 4 0) 6 1 5 6) 6 1 6 18) 6 1 7 1) 6 1 8 0) 6 1 9 0) 6 1 10 0) 6 1 11 0) 6 1 12 0) 6 1 13 0) 6 1 14 (-1)) 6 1 15 0) 6 1 16 0)
def jn_6_1 (J : kJ) : kJ := kx_uL (jn_0_1 (jn_1_1 (jn_5_1 (J)))) 37 1 (fun _ => 0)
set_option maxRecDepth 100000 in
set_option maxHeartbeats 1000000 in
theorem kn_6_1 (I : kI) (J : kJ) : sp_X6_init [kx_r 6 1] (I, J, some 27) none (cn_6_1 I, jn_6_1 J, some 38) := by
  have s4 : kx_Run tb_X6_init (kx_cnt (cn_6_1 I, jn_6_1 J, some 38), fun r' S'' => r' = none ∧ S'' = (cn_6_1 I, jn_6_1 J, some 38)) 107 [some (kx_r 6 1)] [] (kw (kw (kw (kw (kw (kw (kw (kw (kw (kw (kw (kw (kw (kx_uA (kw (cn_0_1 (kx_uA (kw (cn_1_1 (kx_uA (kw (cn_5_1 (kx_uA (I) 5 1 (fun _ => 0))) 6 1 0 1) 1 1 (fun _ => 0))) 6 1 1 1) 0 1 (fun _ => 0))) 6 1 2 1) 37 1 (fun _ => 0)) 6 1 3 1) 6 1 4 0) 6 1 5 6) 6 1 6 18) 6 1 7 1) 6 1 8 0) 6 1 9 0) 6 1 10 0) 6 1 11 0) 6 1 12 0) 6 1 13 0) 6 1 14 (-1)) 6 1 15 0, kx_uL (jn_0_1 (jn_1_1 (jn_5_1 (J)))) 37 1 (fun _ => 0), some 38) := by
    refine kx_start [] 200 ?_
    refine ⟨Or.inl rfl, ?_⟩
    refine ⟨fun h => absurd (show (1 : Int32) = 0 from h) (by decide), ?_⟩
    refine ⟨none, _, cs_J7_fill_53178 1 (-1) _ _ _, rfl, ?_⟩
    exact ⟨rfl, rfl⟩
  have s3 : kx_Run tb_X6_init (kx_cnt (cn_6_1 I, jn_6_1 J, some 38), fun r' S'' => r' = none ∧ S'' = (cn_6_1 I, jn_6_1 J, some 38)) 87 [some (kx_r 6 1)] [] (kw (kw (kw (kw (kw (kw (kw (kw (kw (kx_uA (kw (cn_0_1 (kx_uA (kw (cn_1_1 (kx_uA (kw (cn_5_1 (kx_uA (I) 5 1 (fun _ => 0))) 6 1 0 1) 1 1 (fun _ => 0))) 6 1 1 1) 0 1 (fun _ => 0))) 6 1 2 1) 37 1 (fun _ => 0)) 6 1 3 1) 6 1 4 0) 6 1 5 6) 6 1 6 18) 6 1 7 1) 6 1 8 0) 6 1 9 0) 6 1 10 0) 6 1 11 0, kx_uL (jn_0_1 (jn_1_1 (jn_5_1 (J)))) 37 1 (fun _ => 0), some 38) := by
    refine kx_start [107] 200 ?_
    refine ⟨Or.inl rfl, ?_⟩
    refine ⟨Or.inl rfl, ?_⟩
    exact s4
  have s2 : kx_Run tb_X6_init (kx_cnt (cn_6_1 I, jn_6_1 J, some 38), fun r' S'' => r' = none ∧ S'' = (cn_6_1 I, jn_6_1 J, some 38)) 67 [some (kx_r 6 1)] [] (kw (kw (kw (kw (kw (kx_uA (kw (cn_0_1 (kx_uA (kw (cn_1_1 (kx_uA (kw (cn_5_1 (kx_uA (I) 5 1 (fun _ => 0))) 6 1 0 1) 1 1 (fun _ => 0))) 6 1 1 1) 0 1 (fun _ => 0))) 6 1 2 1) 37 1 (fun _ => 0)) 6 1 3 1) 6 1 4 0) 6 1 5 6) 6 1 6 18) 6 1 7 1, kx_uL (jn_0_1 (jn_1_1 (jn_5_1 (J)))) 37 1 (fun _ => 0), some 38) := by
    refine kx_start [87] 200 ?_
    refine ⟨Or.inl rfl, ?_⟩
    exact s3
  have s1 : kx_Run tb_X6_init (kx_cnt (cn_6_1 I, jn_6_1 J, some 38), fun r' S'' => r' = none ∧ S'' = (cn_6_1 I, jn_6_1 J, some 38)) 45 [some (kx_r 6 1)] [] (kw (kx_uA (kw (cn_0_1 (kx_uA (kw (cn_1_1 (kx_uA (kw (cn_5_1 (kx_uA (I) 5 1 (fun _ => 0))) 6 1 0 1) 1 1 (fun _ => 0))) 6 1 1 1) 0 1 (fun _ => 0))) 6 1 2 1) 37 1 (fun _ => 0)) 6 1 3 1, kx_uL (jn_0_1 (jn_1_1 (jn_5_1 (J)))) 37 1 (fun _ => 0), some 38) := by
    refine kx_start [67] 200 ?_
    exact s2
  have s0 : kx_Run tb_X6_init (kx_cnt (cn_6_1 I, jn_6_1 J, some 38), fun r' S'' => r' = none ∧ S'' = (cn_6_1 I, jn_6_1 J, some 38)) 26 [some (kx_r 6 1)] [] (kw (cn_1_1 (kx_uA (kw (cn_5_1 (kx_uA (I) 5 1 (fun _ => 0))) 6 1 0 1) 1 1 (fun _ => 0))) 6 1 1 1, jn_1_1 (jn_5_1 (J)), some 36) := by
    refine kx_start [45] 200 ?_
    refine ⟨_, kn_0_1 _ _, rfl, rfl, Nat.le_of_ble_eq_true rfl, ?_⟩
    refine ⟨rfl, ?_⟩
    exact s1
  refine kx_start [26] 200 ?_
  refine ⟨_, kn_5_1 _ _, rfl, rfl, Nat.le_of_ble_eq_true rfl, ?_⟩
  refine ⟨_, kn_1_1 _ _, rfl, rfl, Nat.le_of_ble_eq_true rfl, ?_⟩
  exact s0
def cn_2_1 (I : kI) : kI := kw (kw (kx_uA (kw (kx_uA (kw (kx_uA (kw (kx_uA (kw (kx_uA (I) 25 1 (fun _ => 0)) 2 1 0 1) 26 1 (fun _ => 0)) 2 1 1 1) 27 1 (fun _ => 0)) 2 1 2 1) 28 1 (fun _ => 0)) 2 1 3 1) 29 1 (fun _ => 0)) 2 1 4 1) 2 1 5 0
def jn_2_1 (J : kJ) : kJ := kx_uL (kx_uL (kx_uL (kx_uL (kx_uL (J) 25 1 (fun _ => 0)) 26 1 (fun _ => 0)) 27 1 (fun _ => 0)) 28 1 (fun _ => 0)) 29 1 (fun _ => 0)
set_option maxRecDepth 100000 in
set_option maxHeartbeats 1000000 in
theorem kn_2_1 (I : kI) (J : kJ) : sp_X2_init [kx_r 2 1] (I, J, some 39) none (cn_2_1 I, jn_2_1 J, some 44) := by
  have s1 : kx_Run tb_X2_init (kx_cnt (cn_2_1 I, jn_2_1 J, some 44), fun r' S'' => r' = none ∧ S'' = (cn_2_1 I, jn_2_1 J, some 44)) 40 [some (kx_r 2 1)] [] (kw (kx_uA (kw (kx_uA (kw (kx_uA (kw (kx_uA (I) 25 1 (fun _ => 0)) 2 1 0 1) 26 1 (fun _ => 0)) 2 1 1 1) 27 1 (fun _ => 0)) 2 1 2 1) 28 1 (fun _ => 0)) 2 1 3 1, kx_uL (kx_uL (kx_uL (kx_uL (J) 25 1 (fun _ => 0)) 26 1 (fun _ => 0)) 27 1 (fun _ => 0)) 28 1 (fun _ => 0), some 43) := by
    refine kx_start [] 200 ?_
    refine ⟨rfl, ?_⟩
    exact ⟨rfl, rfl⟩
  have s0 : kx_Run tb_X2_init (kx_cnt (cn_2_1 I, jn_2_1 J, some 44), fun r' S'' => r' = none ∧ S'' = (cn_2_1 I, jn_2_1 J, some 44)) 22 [some (kx_r 2 1)] [] (kw (kx_uA (kw (kx_uA (I) 25 1 (fun _ => 0)) 2 1 0 1) 26 1 (fun _ => 0)) 2 1 1 1, kx_uL (kx_uL (J) 25 1 (fun _ => 0)) 26 1 (fun _ => 0), some 41) := by
    refine kx_start [40] 200 ?_
    refine ⟨rfl, ?_⟩
    refine ⟨rfl, ?_⟩
    exact s1
  refine kx_start [22] 200 ?_
  refine ⟨rfl, ?_⟩
  refine ⟨rfl, ?_⟩
  exact s0
def cn_3_1 (I : kI) : kI := kw (kw (kx_uA (kw (kx_uA (kw (kx_uA (kw (kx_uA (I) 30 1 (fun _ => 0)) 3 1 0 1) 31 1 (fun _ => 0)) 3 1 1 1) 32 1 (fun _ => 0)) 3 1 2 1) 33 1 (fun _ => 0)) 3 1 3 1) 3 1 4 0
def jn_3_1 (J : kJ) : kJ := kx_uL (kx_uL (kx_uL (kx_uL (J) 30 1 (fun _ => 0)) 31 1 (fun _ => 0)) 32 1 (fun _ => 0)) 33 1 (fun _ => 0)
set_option maxRecDepth 100000 in
set_option maxHeartbeats 1000000 in
theorem kn_3_1 (I : kI) (J : kJ) : sp_X3_init [kx_r 3 1] (I, J, some 45) none (cn_3_1 I, jn_3_1 J, some 49) := by
  have s1 : kx_Run tb_X3_init (kx_cnt (cn_3_1 I, jn_3_1 J, some 49), fun r' S'' => r' = none ∧ S'' = (cn_3_1 I, jn_3_1 J, some 49)) 40 [some (kx_r 3 1)] [] (kw (kx_uA (kw (kx_uA (kw (kx_uA (kw (kx_uA (I) 30 1 (fun _ => 0)) 3 1 0 1) 31 1 (fun _ => 0)) 3 1 1 1) 32 1 (fun _ => 0)) 3 1 2 1) 33 1 (fun _ => 0)) 3 1 3 1, kx_uL (kx_uL (kx_uL (kx_uL (J) 30 1 (fun _ => 0)) 31 1 (fun _ => 0)) 32 1 (fun _ => 0)) 33 1 (fun _ => 0), some 49) := by
    refine kx_start [] 200 ?_
    exact ⟨rfl, rfl⟩
  have s0 : kx_Run tb_X3_init (kx_cnt (cn_3_1 I, jn_3_1 J, some 49), fun r' S'' => r' = none ∧ S'' = (cn_3_1 I, jn_3_1 J, some 49)) 22 [some (kx_r 3 1)] [] (kw (kx_uA (kw (kx_uA (I) 30 1 (fun _ => 0)) 3 1 0 1) 31 1 (fun _ => 0)) 3 1 1 1, kx_uL (kx_uL (J) 30 1 (fun _ => 0)) 31 1 (fun _ => 0), some 47) := by
    refine kx_start [40] 200 ?_
    refine ⟨rfl, ?_⟩
    refine ⟨rfl, ?_⟩
    exact s1
  refine kx_start [22] 200 ?_
  refine ⟨rfl, ?_⟩
  refine ⟨rfl, ?_⟩
  exact s0
def cn_9_1 (I : kI) : kI := kw (kw (kw (kw (cn_3_1 (kx_uA (kw (cn_2_1 (kx_uA (kw (cn_6_1 (kx_uA (I) 6 1 (fun _ => 0))) 9 1 0 1) 2 1 (fun _ => 0))) 9 1 1 1) 3 1 (fun _ => 0))) 9 1 2 1) 9 1 3 0) 9 1 4 0) 9 1 5 1
def jn_9_1 (J : kJ) : kJ := jn_3_1 (jn_2_1 (jn_6_1 (J)))
set_option maxRecDepth 100000 in
set_option maxHeartbeats 1000000 in
theorem kn_9_1 (I : kI) (J : kJ) : sp_X9_init [kx_r 9 1] (I, J, some 26) none (cn_9_1 I, jn_9_1 J, some 49) := by
  have s1 : kx_Run tb_X9_init (kx_cnt (cn_9_1 I, jn_9_1 J, some 49), fun r' S'' => r' = none ∧ S'' = (cn_9_1 I, jn_9_1 J, some 49)) 42 [some (kx_r 9 1)] [] (kw (kw (cn_3_1 (kx_uA (kw (cn_2_1 (kx_uA (kw (cn_6_1 (kx_uA (I) 6 1 (fun _ => 0))) 9 1 0 1) 2 1 (fun _ => 0))) 9 1 1 1) 3 1 (fun _ => 0))) 9 1 2 1) 9 1 3 0, jn_3_1 (jn_2_1 (jn_6_1 (J))), some 49) := by
    refine kx_start [] 200 ?_
    exact ⟨rfl, rfl⟩
  have s0 : kx_Run tb_X9_init (kx_cnt (cn_9_1 I, jn_9_1 J, some 49), fun r' S'' => r' = none ∧ S'' = (cn_9_1 I, jn_9_1 J, some 49)) 26 [some (kx_r 9 1)] [] (kw (cn_2_1 (kx_uA (kw (cn_6_1 (kx_uA (I) 6 1 (fun _ => 0))) 9 1 0 1) 2 1 (fun _ => 0))) 9 1 1 1, jn_2_1 (jn_6_1 (J)), some 44) := by
    refine kx_start [42] 200 ?_
    refine ⟨_, kn_3_1 _ _, rfl, rfl, Nat.le_of_ble_eq_true rfl, ?_⟩
    exact s1
  refine kx_start [26] 200 ?_
  refine ⟨_, kn_6_1 _ _, rfl, rfl, Nat.le_of_ble_eq_true rfl, ?_⟩
  refine ⟨_, kn_2_1 _ _, rfl, rfl, Nat.le_of_ble_eq_true rfl, ?_⟩
  exact s0
def cn_5_2 (I : kI) : kI := kw (kw (kw (kx_uA (kw (kx_uA (I) 35 2 (fun _ => 0)) 5 2 0 1) 36 2 (fun _ => 0)) 5 2 1 1) 5 2 2 0) 5 2 3 0
def jn_5_2 (J : kJ) : kJ := kx_uL (kx_uL (J) 35 2 (fun _ => 0)) 36 2 (fun _ => 0)
set_option maxRecDepth 100000 in
set_option maxHeartbeats 1000000 in
theorem kn_5_2 (I : kI) (J : kJ) : sp_X5_init [kx_r 5 2] (I, J, some 52) none (cn_5_2 I, jn_5_2 J, some 54) := by
  have s0 : kx_Run tb_X5_init (kx_cnt (cn_5_2 I, jn_5_2 J, some 54), fun r' S'' => r' = none ∧ S'' = (cn_5_2 I, jn_5_2 J, some 54)) 20 [some (kx_r 5 2)] [] (kw (kx_uA (kw (kx_uA (I) 35 2 (fun _ => 0)) 5 2 0 1) 36 2 (fun _ => 0)) 5 2 1 1, kx_uL (kx_uL (J) 35 2 (fun _ => 0)) 36 2 (fun _ => 0), some 54) := by
    refine kx_start [] 200 ?_
    exact ⟨rfl, rfl⟩
  refine kx_start [20] 200 ?_
  refine ⟨rfl, ?_⟩
  refine ⟨rfl, ?_⟩
  exact s0
def cn_1_2 (I : kI) : kI := kw (kw (kx_uA (kw (kx_uA (kw (kx_uA (kw (kx_uA (kw (kx_uA (I) 20 2 (fun _ => 0)) 1 2 0 1) 21 2 (fun _ => 0)) 1 2 1 1) 22 2 (fun _ => 0)) 1 2 2 1) 23 2 (fun _ => 0)) 1 2 3 1) 24 2 (fun _ => 0)) 1 2 4 1) 1 2 5 0
def jn_1_2 (J : kJ) : kJ := kx_uL (kx_uL (kx_uL (kx_uL (kx_uL (J) 20 2 (fun _ => 0)) 21 2 (fun _ => 0)) 22 2 (fun _ => 0)) 23 2 (fun _ => 0)) 24 2 (fun _ => 0)
set_option maxRecDepth 100000 in
set_option maxHeartbeats 1000000 in
theorem kn_1_2 (I : kI) (J : kJ) : sp_X1_init [kx_r 1 2] (I, J, some 55) none (cn_1_2 I, jn_1_2 J, some 60) := by
  have s1 : kx_Run tb_X1_init (kx_cnt (cn_1_2 I, jn_1_2 J, some 60), fun r' S'' => r' = none ∧ S'' = (cn_1_2 I, jn_1_2 J, some 60)) 36 [some (kx_r 1 2)] [] (kw (kx_uA (kw (kx_uA (kw (kx_uA (kw (kx_uA (I) 20 2 (fun _ => 0)) 1 2 0 1) 21 2 (fun _ => 0)) 1 2 1 1) 22 2 (fun _ => 0)) 1 2 2 1) 23 2 (fun _ => 0)) 1 2 3 1, kx_uL (kx_uL (kx_uL (kx_uL (J) 20 2 (fun _ => 0)) 21 2 (fun _ => 0)) 22 2 (fun _ => 0)) 23 2 (fun _ => 0), some 59) := by
    refine kx_start [] 200 ?_
    refine ⟨rfl, ?_⟩
    exact ⟨rfl, rfl⟩
  have s0 : kx_Run tb_X1_init (kx_cnt (cn_1_2 I, jn_1_2 J, some 60), fun r' S'' => r' = none ∧ S'' = (cn_1_2 I, jn_1_2 J, some 60)) 20 [some (kx_r 1 2)] [] (kw (kx_uA (kw (kx_uA (I) 20 2 (fun _ => 0)) 1 2 0 1) 21 2 (fun _ => 0)) 1 2 1 1, kx_uL (kx_uL (J) 20 2 (fun _ => 0)) 21 2 (fun _ => 0), some 57) := by
    refine kx_start [36] 200 ?_
    refine ⟨rfl, ?_⟩
    refine ⟨rfl, ?_⟩
    exact s1
  refine kx_start [20] 200 ?_
  refine ⟨rfl, ?_⟩
  refine ⟨rfl, ?_⟩
  exact s0
def cn_0_2 (I : kI) : kI := kw (kw (kw (kw (kw (I) 0 2 0 (-1)) 0 2 1 168) 0 2 2 0) 0 2 3 0) 0 2 4 0
def jn_0_2 (J : kJ) : kJ := J
set_option maxRecDepth 100000 in
set_option maxHeartbeats 1000000 in
theorem kn_0_2 (I : kI) (J : kJ) : sp_X0_init [kx_r 0 2] (I, J, some 61) none (cn_0_2 I, jn_0_2 J, some 61) := by
  have s0 : kx_Run tb_X0_init (kx_cnt (cn_0_2 I, jn_0_2 J, some 61), fun r' S'' => r' = none ∧ S'' = (cn_0_2 I, jn_0_2 J, some 61)) 26 [some (kx_r 0 2)] [] (kw (kw (kw (kw (I) 0 2 0 (-1)) 0 2 1 168) 0 2 2 0) 0 2 3 0, J, some 61) := by
    refine kx_start [] 200 ?_
    exact ⟨rfl, rfl⟩
  refine kx_start [26] 200 ?_
  exact s0
def cn_6_2 (I : kI) : kI := cfill 2 (kw (kw (kw (kw (kw (kw (kw (kw (kw (kw (kw (kw (kw (kw (kx_uA (kw (cn_0_2 (kx_uA (kw (cn_1_2 (kx_uA (kw (cn_5_2 (kx_uA (I) 5 2 (fun _ => 0))) 6 2 0 1) 1 2 (fun _ => 0))) 6 2 1 1) 0 2 (fun _ => 0))) 6 2 2 1) 37 2 (fun _ => 0)) 6 2 3 1) 6 2 4 0) 6 2 5 6) 6 2 6 18) 6 2 7 1) 6 2 8 0) 6 2 9 0) 6 2 10 0) 6 2 11 0) 6 2 12 0) 6 2 13 0) 6 2 14 (-1)) 6 2 15 0) 6 2 16 0)
def jn_6_2 (J : kJ) : kJ := kx_uL (jn_0_2 (jn_1_2 (jn_5_2 (J)))) 37 2 (fun _ => 0)
set_option maxRecDepth 100000 in
set_option maxHeartbeats 1000000 in
theorem kn_6_2 (I : kI) (J : kJ) : sp_X6_init [kx_r 6 2] (I, J, some 51) none (cn_6_2 I, jn_6_2 J, some 62) := by
  have s4 : kx_Run tb_X6_init (kx_cnt (cn_6_2 I, jn_6_2 J, some 62), fun r' S'' => r' = none ∧ S'' = (cn_6_2 I, jn_6_2 J, some 62)) 107 [some (kx_r 6 2)] [] (kw (kw (kw (kw (kw (kw (kw (kw (kw (kw (kw (kw (kw (kx_uA (kw (cn_0_2 (kx_uA (kw (cn_1_2 (kx_uA (kw (cn_5_2 (kx_uA (I) 5 2 (fun _ => 0))) 6 2 0 1) 1 2 (fun _ => 0))) 6 2 1 1) 0 2 (fun _ => 0))) 6 2 2 1) 37 2 (fun _ => 0)) 6 2 3 1) 6 2 4 0) 6 2 5 6) 6 2 6 18) 6 2 7 1) 6 2 8 0) 6 2 9 0) 6 2 10 0) 6 2 11 0) 6 2 12 0) 6 2 13 0) 6 2 14 (-1)) 6 2 15 0, kx_uL (jn_0_2 (jn_1_2 (jn_5_2 (J)))) 37 2 (fun _ => 0), some 62) := by
    refine kx_start [] 200 ?_
    refine ⟨Or.inl rfl, ?_⟩
    refine ⟨fun h => absurd (show (1 : Int32) = 0 from h) (by decide), ?_⟩
    refine ⟨none, _, cs_J7_fill_53178 2 (-1) _ _ _, rfl, ?_⟩
    exact ⟨rfl, rfl⟩
  have s3 : kx_Run tb_X6_init (kx_cnt (cn_6_2 I, jn_6_2 J, some 62), fun r' S'' => r' = none ∧ S'' = (cn_6_2 I, jn_6_2 J, some 62)) 87 [some (kx_r 6 2)] [] (kw (kw (kw (kw (kw (kw (kw (kw (kw (kx_uA (kw (cn_0_2 (kx_uA (kw (cn_1_2 (kx_uA (kw (cn_5_2 (kx_uA (I) 5 2 (fun _ => 0))) 6 2 0 1) 1 2 (fun _ => 0))) 6 2 1 1) 0 2 (fun _ => 0))) 6 2 2 1) 37 2 (fun _ => 0)) 6 2 3 1) 6 2 4 0) 6 2 5 6) 6 2 6 18) 6 2 7 1) 6 2 8 0) 6 2 9 0) 6 2 10 0) 6 2 11 0, kx_uL (jn_0_2 (jn_1_2 (jn_5_2 (J)))) 37 2 (fun _ => 0), some 62) := by
    refine kx_start [107] 200 ?_
    refine ⟨Or.inl rfl, ?_⟩
    refine ⟨Or.inl rfl, ?_⟩
    exact s4
  have s2 : kx_Run tb_X6_init (kx_cnt (cn_6_2 I, jn_6_2 J, some 62), fun r' S'' => r' = none ∧ S'' = (cn_6_2 I, jn_6_2 J, some 62)) 67 [some (kx_r 6 2)] [] (kw (kw (kw (kw (kw (kx_uA (kw (cn_0_2 (kx_uA (kw (cn_1_2 (kx_uA (kw (cn_5_2 (kx_uA (I) 5 2 (fun _ => 0))) 6 2 0 1) 1 2 (fun _ => 0))) 6 2 1 1) 0 2 (fun _ => 0))) 6 2 2 1) 37 2 (fun _ => 0)) 6 2 3 1) 6 2 4 0) 6 2 5 6) 6 2 6 18) 6 2 7 1, kx_uL (jn_0_2 (jn_1_2 (jn_5_2 (J)))) 37 2 (fun _ => 0), some 62) := by
    refine kx_start [87] 200 ?_
    refine ⟨Or.inl rfl, ?_⟩
    exact s3
  have s1 : kx_Run tb_X6_init (kx_cnt (cn_6_2 I, jn_6_2 J, some 62), fun r' S'' => r' = none ∧ S'' = (cn_6_2 I, jn_6_2 J, some 62)) 45 [some (kx_r 6 2)] [] (kw (kx_uA (kw (cn_0_2 (kx_uA (kw (cn_1_2 (kx_uA (kw (cn_5_2 (kx_uA (I) 5 2 (fun _ => 0))) 6 2 0 1) 1 2 (fun _ => 0))) 6 2 1 1) 0 2 (fun _ => 0))) 6 2 2 1) 37 2 (fun _ => 0)) 6 2 3 1, kx_uL (jn_0_2 (jn_1_2 (jn_5_2 (J)))) 37 2 (fun _ => 0), some 62) := by
    refine kx_start [67] 200 ?_
    exact s2
  have s0 : kx_Run tb_X6_init (kx_cnt (cn_6_2 I, jn_6_2 J, some 62), fun r' S'' => r' = none ∧ S'' = (cn_6_2 I, jn_6_2 J, some 62)) 26 [some (kx_r 6 2)] [] (kw (cn_1_2 (kx_uA (kw (cn_5_2 (kx_uA (I) 5 2 (fun _ => 0))) 6 2 0 1) 1 2 (fun _ => 0))) 6 2 1 1, jn_1_2 (jn_5_2 (J)), some 60) := by
    refine kx_start [45] 200 ?_
    refine ⟨_, kn_0_2 _ _, rfl, rfl, Nat.le_of_ble_eq_true rfl, ?_⟩
    refine ⟨rfl, ?_⟩
    exact s1
  refine kx_start [26] 200 ?_
  refine ⟨_, kn_5_2 _ _, rfl, rfl, Nat.le_of_ble_eq_true rfl, ?_⟩
  refine ⟨_, kn_1_2 _ _, rfl, rfl, Nat.le_of_ble_eq_true rfl, ?_⟩
  exact s0
def cn_8_0 (I : kI) : kI := kw (kw (kw (kw (kw (kw (cn_6_2 (kx_uA (I) 6 2 (fun _ => 0))) 8 0 0 1) 8 0 1 0) 8 0 2 0) 8 0 3 0) 8 0 4 0) 8 0 5 0
def jn_8_0 (J : kJ) : kJ := jn_6_2 (J)
set_option maxRecDepth 100000 in
set_option maxHeartbeats 1000000 in
theorem kn_8_0 (I : kI) (J : kJ) : sp_X8_init [kx_r 8 0] (I, J, some 50) none (cn_8_0 I, jn_8_0 J, some 62) := by
  have s1 : kx_Run tb_X8_init (kx_cnt (cn_8_0 I, jn_8_0 J, some 62), fun r' S'' => r' = none ∧ S'' = (cn_8_0 I, jn_8_0 J, some 62)) 40 [some (kx_r 8 0)] [] (kw (kw (kw (kw (kw (kw (cn_6_2 (kx_uA (I) 6 2 (fun _ => 0))) 8 0 0 1) 8 0 1 0) 8 0 2 0) 8 0 3 0) 8 0 4 0) 8 0 5 0, jn_6_2 (J), some 62) := by
    refine kx_start [] 200 ?_
    exact ⟨rfl, rfl⟩
  have s0 : kx_Run tb_X8_init (kx_cnt (cn_8_0 I, jn_8_0 J, some 62), fun r' S'' => r' = none ∧ S'' = (cn_8_0 I, jn_8_0 J, some 62)) 20 [some (kx_r 8 0)] [] (kw (kw (cn_6_2 (kx_uA (I) 6 2 (fun _ => 0))) 8 0 0 1) 8 0 1 0, jn_6_2 (J), some 62) := by
    refine kx_start [40] 200 ?_
    exact s1
  refine kx_start [20] 200 ?_
  refine ⟨_, kn_6_2 _ _, rfl, rfl, Nat.le_of_ble_eq_true rfl, ?_⟩
  exact s0
def cn_7_0 (I : kI) : kI := kw (kw (kx_uA (I) 38 0 (fun _ => 0)) 7 0 0 1) 7 0 1 0
def jn_7_0 (J : kJ) : kJ := kx_uL (J) 38 0 (fun _ => 0)
set_option maxRecDepth 100000 in
set_option maxHeartbeats 1000000 in
theorem kn_7_0 (I : kI) (J : kJ) : sp_X7_init [kx_r 7 0] (I, J, some 63) none (cn_7_0 I, jn_7_0 J, some 64) := by
  refine kx_start [] 200 ?_
  refine ⟨rfl, ?_⟩
  exact ⟨rfl, rfl⟩
def cn_5_3 (I : kI) : kI := kw (kw (kw (kx_uA (kw (kx_uA (I) 35 3 (fun _ => 0)) 5 3 0 1) 36 3 (fun _ => 0)) 5 3 1 1) 5 3 2 0) 5 3 3 0
def jn_5_3 (J : kJ) : kJ := kx_uL (kx_uL (J) 35 3 (fun _ => 0)) 36 3 (fun _ => 0)
set_option maxRecDepth 100000 in
set_option maxHeartbeats 1000000 in
theorem kn_5_3 (I : kI) (J : kJ) : sp_X5_init [kx_r 5 3] (I, J, some 65) none (cn_5_3 I, jn_5_3 J, some 67) := by
  have s0 : kx_Run tb_X5_init (kx_cnt (cn_5_3 I, jn_5_3 J, some 67), fun r' S'' => r' = none ∧ S'' = (cn_5_3 I, jn_5_3 J, some 67)) 20 [some (kx_r 5 3)] [] (kw (kx_uA (kw (kx_uA (I) 35 3 (fun _ => 0)) 5 3 0 1) 36 3 (fun _ => 0)) 5 3 1 1, kx_uL (kx_uL (J) 35 3 (fun _ => 0)) 36 3 (fun _ => 0), some 67) := by
    refine kx_start [] 200 ?_
    exact ⟨rfl, rfl⟩
  refine kx_start [20] 200 ?_
  refine ⟨rfl, ?_⟩
  refine ⟨rfl, ?_⟩
  exact s0
def cn_4_0 (I : kI) : kI := kw (kw (kw (kx_uA (I) 34 0 (fun _ => 0)) 4 0 0 1) 4 0 1 0) 4 0 2 (-1)
def jn_4_0 (J : kJ) : kJ := kx_uL (J) 34 0 (fun _ => 0)
set_option maxRecDepth 100000 in
set_option maxHeartbeats 1000000 in
theorem kn_4_0 (I : kI) (J : kJ) : sp_X4_init [kx_r 4 0] (I, J, some 70) none (cn_4_0 I, jn_4_0 J, some 71) := by
  have s0 : kx_Run tb_X4_init (kx_cnt (cn_4_0 I, jn_4_0 J, some 71), fun r' S'' => r' = none ∧ S'' = (cn_4_0 I, jn_4_0 J, some 71)) 22 [some (kx_r 4 0)] [] (kw (kw (kw (kx_uA (I) 34 0 (fun _ => 0)) 4 0 0 1) 4 0 1 0) 4 0 2 (-1), kx_uL (J) 34 0 (fun _ => 0), some 71) := by
    refine kx_start [] 200 ?_
    exact ⟨rfl, rfl⟩
  refine kx_start [22] 200 ?_
  refine ⟨rfl, ?_⟩
  exact s0
def cn_4_1 (I : kI) : kI := kw (kw (kw (kx_uA (I) 34 1 (fun _ => 0)) 4 1 0 1) 4 1 1 0) 4 1 2 (-1)
def jn_4_1 (J : kJ) : kJ := kx_uL (J) 34 1 (fun _ => 0)
set_option maxRecDepth 100000 in
set_option maxHeartbeats 1000000 in
theorem kn_4_1 (I : kI) (J : kJ) : sp_X4_init [kx_r 4 1] (I, J, some 72) none (cn_4_1 I, jn_4_1 J, some 73) := by
  have s0 : kx_Run tb_X4_init (kx_cnt (cn_4_1 I, jn_4_1 J, some 73), fun r' S'' => r' = none ∧ S'' = (cn_4_1 I, jn_4_1 J, some 73)) 22 [some (kx_r 4 1)] [] (kw (kw (kw (kx_uA (I) 34 1 (fun _ => 0)) 4 1 0 1) 4 1 1 0) 4 1 2 (-1), kx_uL (J) 34 1 (fun _ => 0), some 73) := by
    refine kx_start [] 200 ?_
    exact ⟨rfl, rfl⟩
  refine kx_start [22] 200 ?_
  refine ⟨rfl, ?_⟩
  exact s0
def cn_4_2 (I : kI) : kI := kw (kw (kw (kx_uA (I) 34 2 (fun _ => 0)) 4 2 0 1) 4 2 1 0) 4 2 2 (-1)
def jn_4_2 (J : kJ) : kJ := kx_uL (J) 34 2 (fun _ => 0)
set_option maxRecDepth 100000 in
set_option maxHeartbeats 1000000 in
theorem kn_4_2 (I : kI) (J : kJ) : sp_X4_init [kx_r 4 2] (I, J, some 74) none (cn_4_2 I, jn_4_2 J, some 75) := by
  have s0 : kx_Run tb_X4_init (kx_cnt (cn_4_2 I, jn_4_2 J, some 75), fun r' S'' => r' = none ∧ S'' = (cn_4_2 I, jn_4_2 J, some 75)) 22 [some (kx_r 4 2)] [] (kw (kw (kw (kx_uA (I) 34 2 (fun _ => 0)) 4 2 0 1) 4 2 1 0) 4 2 2 (-1), kx_uL (J) 34 2 (fun _ => 0), some 75) := by
    refine kx_start [] 200 ?_
    exact ⟨rfl, rfl⟩
  refine kx_start [22] 200 ?_
  refine ⟨rfl, ?_⟩
  exact s0
def cn_4_3 (I : kI) : kI := kw (kw (kw (kx_uA (I) 34 3 (fun _ => 0)) 4 3 0 1) 4 3 1 0) 4 3 2 (-1)
def jn_4_3 (J : kJ) : kJ := kx_uL (J) 34 3 (fun _ => 0)
set_option maxRecDepth 100000 in
set_option maxHeartbeats 1000000 in
theorem kn_4_3 (I : kI) (J : kJ) : sp_X4_init [kx_r 4 3] (I, J, some 76) none (cn_4_3 I, jn_4_3 J, some 77) := by
  have s0 : kx_Run tb_X4_init (kx_cnt (cn_4_3 I, jn_4_3 J, some 77), fun r' S'' => r' = none ∧ S'' = (cn_4_3 I, jn_4_3 J, some 77)) 22 [some (kx_r 4 3)] [] (kw (kw (kw (kx_uA (I) 34 3 (fun _ => 0)) 4 3 0 1) 4 3 1 0) 4 3 2 (-1), kx_uL (J) 34 3 (fun _ => 0), some 77) := by
    refine kx_start [] 200 ?_
    exact ⟨rfl, rfl⟩
  refine kx_start [22] 200 ?_
  refine ⟨rfl, ?_⟩
  exact s0
def cn_4_4 (I : kI) : kI := kw (kw (kw (kx_uA (I) 34 4 (fun _ => 0)) 4 4 0 1) 4 4 1 0) 4 4 2 (-1)
def jn_4_4 (J : kJ) : kJ := kx_uL (J) 34 4 (fun _ => 0)
set_option maxRecDepth 100000 in
set_option maxHeartbeats 1000000 in
theorem kn_4_4 (I : kI) (J : kJ) : sp_X4_init [kx_r 4 4] (I, J, some 78) none (cn_4_4 I, jn_4_4 J, some 79) := by
  have s0 : kx_Run tb_X4_init (kx_cnt (cn_4_4 I, jn_4_4 J, some 79), fun r' S'' => r' = none ∧ S'' = (cn_4_4 I, jn_4_4 J, some 79)) 22 [some (kx_r 4 4)] [] (kw (kw (kw (kx_uA (I) 34 4 (fun _ => 0)) 4 4 0 1) 4 4 1 0) 4 4 2 (-1), kx_uL (J) 34 4 (fun _ => 0), some 79) := by
    refine kx_start [] 200 ?_
    exact ⟨rfl, rfl⟩
  refine kx_start [22] 200 ?_
  refine ⟨rfl, ?_⟩
  exact s0
def cn_4_5 (I : kI) : kI := kw (kw (kw (kx_uA (I) 34 5 (fun _ => 0)) 4 5 0 1) 4 5 1 0) 4 5 2 (-1)
def jn_4_5 (J : kJ) : kJ := kx_uL (J) 34 5 (fun _ => 0)
set_option maxRecDepth 100000 in
set_option maxHeartbeats 1000000 in
theorem kn_4_5 (I : kI) (J : kJ) : sp_X4_init [kx_r 4 5] (I, J, some 80) none (cn_4_5 I, jn_4_5 J, some 81) := by
  have s0 : kx_Run tb_X4_init (kx_cnt (cn_4_5 I, jn_4_5 J, some 81), fun r' S'' => r' = none ∧ S'' = (cn_4_5 I, jn_4_5 J, some 81)) 22 [some (kx_r 4 5)] [] (kw (kw (kw (kx_uA (I) 34 5 (fun _ => 0)) 4 5 0 1) 4 5 1 0) 4 5 2 (-1), kx_uL (J) 34 5 (fun _ => 0), some 81) := by
    refine kx_start [] 200 ?_
    exact ⟨rfl, rfl⟩
  refine kx_start [22] 200 ?_
  refine ⟨rfl, ?_⟩
  exact s0
def cn_4_6 (I : kI) : kI := kw (kw (kw (kx_uA (I) 34 6 (fun _ => 0)) 4 6 0 1) 4 6 1 0) 4 6 2 (-1)
def jn_4_6 (J : kJ) : kJ := kx_uL (J) 34 6 (fun _ => 0)
set_option maxRecDepth 100000 in
set_option maxHeartbeats 1000000 in
theorem kn_4_6 (I : kI) (J : kJ) : sp_X4_init [kx_r 4 6] (I, J, some 82) none (cn_4_6 I, jn_4_6 J, some 83) := by
  have s0 : kx_Run tb_X4_init (kx_cnt (cn_4_6 I, jn_4_6 J, some 83), fun r' S'' => r' = none ∧ S'' = (cn_4_6 I, jn_4_6 J, some 83)) 22 [some (kx_r 4 6)] [] (kw (kw (kw (kx_uA (I) 34 6 (fun _ => 0)) 4 6 0 1) 4 6 1 0) 4 6 2 (-1), kx_uL (J) 34 6 (fun _ => 0), some 83) := by
    refine kx_start [] 200 ?_
    exact ⟨rfl, rfl⟩
  refine kx_start [22] 200 ?_
  refine ⟨rfl, ?_⟩
  exact s0
def cn_4_7 (I : kI) : kI := kw (kw (kw (kx_uA (I) 34 7 (fun _ => 0)) 4 7 0 1) 4 7 1 0) 4 7 2 (-1)
def jn_4_7 (J : kJ) : kJ := kx_uL (J) 34 7 (fun _ => 0)
set_option maxRecDepth 100000 in
set_option maxHeartbeats 1000000 in
theorem kn_4_7 (I : kI) (J : kJ) : sp_X4_init [kx_r 4 7] (I, J, some 84) none (cn_4_7 I, jn_4_7 J, some 85) := by
  have s0 : kx_Run tb_X4_init (kx_cnt (cn_4_7 I, jn_4_7 J, some 85), fun r' S'' => r' = none ∧ S'' = (cn_4_7 I, jn_4_7 J, some 85)) 22 [some (kx_r 4 7)] [] (kw (kw (kw (kx_uA (I) 34 7 (fun _ => 0)) 4 7 0 1) 4 7 1 0) 4 7 2 (-1), kx_uL (J) 34 7 (fun _ => 0), some 85) := by
    refine kx_start [] 200 ?_
    exact ⟨rfl, rfl⟩
  refine kx_start [22] 200 ?_
  refine ⟨rfl, ?_⟩
  exact s0

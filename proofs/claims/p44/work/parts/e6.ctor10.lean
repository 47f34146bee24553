/-! the class's constructor's run -/
def cn_10_0 (I : kI) : kI := kw (cn_4_7 (kx_uA (kw (cn_4_6 (kx_uA (kw (cn_4_5 (kx_uA (kw (cn_4_4 (kx_uA (kw (cn_4_3 (kx_uA (kw (cn_4_2 (kx_uA (kw (cn_4_1 (kx_uA (kw (cn_4_0 (kx_uA (kw (kw (kx_uA (kw (kx_uA (kw (cn_5_3 (kx_uA (kw (cn_7_0 (kx_uA (kw (cn_8_0 (kx_uA (kw (cn_9_1 (kx_uA (kw (cn_9_0 (kx_uA (I) 9 0 (fun _ => 0))) 10 0 0 1) 9 1 (fun _ => 0))) 10 0 1 1) 8 0 (fun _ => 0))) 10 0 2 1) 7 0 (fun _ => 0))) 10 0 3 1) 5 3 (fun _ => 0))) 10 0 4 1) 39 0 (fun _ => 0)) 10 0 5 1) 40 0 (fun _ => 0)) 10 0 6 1) 10 0 7 0) 4 0 (fun _ => 0))) 39 0 0 1) 4 1 (fun _ => 0))) 39 0 1 1) 4 2 (fun _ => 0))) 39 0 2 1) 4 3 (fun _ => 0))) 39 0 3 1) 4 4 (fun _ => 0))) 39 0 4 1) 4 5 (fun _ => 0))) 39 0 5 1) 4 6 (fun _ => 0))) 39 0 6 1) 4 7 (fun _ => 0))) 39 0 7 1
def jn_10_0 (J : kJ) : kJ := jn_4_7 (jn_4_6 (jn_4_5 (jn_4_4 (jn_4_3 (jn_4_2 (jn_4_1 (jn_4_0 (kx_uL (kx_uL (jn_5_3 (jn_7_0 (jn_8_0 (jn_9_1 (jn_9_0 (J)))))) 39 0 (fun _ => 0)) 40 0 (fun _ => 0)))))))))
set_option maxRecDepth 100000 in
set_option maxHeartbeats 1000000 in
theorem kn_10_0 (I : kI) (J : kJ) : sp_X10_init [kx_r 10 0] (I, J, some 1) none (cn_10_0 I, jn_10_0 J, some 85) := by
  have s14 : kx_Run tb_X10_init (kx_cnt (cn_10_0 I, jn_10_0 J, some 85), fun r' S'' => r' = none ∧ S'' = (cn_10_0 I, jn_10_0 J, some 85)) 104 [some (kx_r 10 0), some (kx_i 7)] [] (kw (cn_4_7 (kx_uA (kw (cn_4_6 (kx_uA (kw (cn_4_5 (kx_uA (kw (cn_4_4 (kx_uA (kw (cn_4_3 (kx_uA (kw (cn_4_2 (kx_uA (kw (cn_4_1 (kx_uA (kw (cn_4_0 (kx_uA (kw (kw (kx_uA (kw (kx_uA (kw (cn_5_3 (kx_uA (kw (cn_7_0 (kx_uA (kw (cn_8_0 (kx_uA (kw (cn_9_1 (kx_uA (kw (cn_9_0 (kx_uA (I) 9 0 (fun _ => 0))) 10 0 0 1) 9 1 (fun _ => 0))) 10 0 1 1) 8 0 (fun _ => 0))) 10 0 2 1) 7 0 (fun _ => 0))) 10 0 3 1) 5 3 (fun _ => 0))) 10 0 4 1) 39 0 (fun _ => 0)) 10 0 5 1) 40 0 (fun _ => 0)) 10 0 6 1) 10 0 7 0) 4 0 (fun _ => 0))) 39 0 0 1) 4 1 (fun _ => 0))) 39 0 1 1) 4 2 (fun _ => 0))) 39 0 2 1) 4 3 (fun _ => 0))) 39 0 3 1) 4 4 (fun _ => 0))) 39 0 4 1) 4 5 (fun _ => 0))) 39 0 5 1) 4 6 (fun _ => 0))) 39 0 6 1) 4 7 (fun _ => 0))) 39 0 7 1, jn_4_7 (jn_4_6 (jn_4_5 (jn_4_4 (jn_4_3 (jn_4_2 (jn_4_1 (jn_4_0 (kx_uL (kx_uL (jn_5_3 (jn_7_0 (jn_8_0 (jn_9_1 (jn_9_0 (J)))))) 39 0 (fun _ => 0)) 40 0 (fun _ => 0))))))))), some 85) := by
    refine kx_start [] 200 ?_
    refine ⟨fun h => absurd (show (1 : Int32) = 0 from h) (by decide), ?_⟩
    refine ⟨fun _ => ?_, fun h => absurd (by decide) h⟩
    exact ⟨rfl, rfl⟩
  have s13 : kx_Run tb_X10_init (kx_cnt (cn_10_0 I, jn_10_0 J, some 85), fun r' S'' => r' = none ∧ S'' = (cn_10_0 I, jn_10_0 J, some 85)) 104 [some (kx_r 10 0), some (kx_i 6)] [] (kw (cn_4_6 (kx_uA (kw (cn_4_5 (kx_uA (kw (cn_4_4 (kx_uA (kw (cn_4_3 (kx_uA (kw (cn_4_2 (kx_uA (kw (cn_4_1 (kx_uA (kw (cn_4_0 (kx_uA (kw (kw (kx_uA (kw (kx_uA (kw (cn_5_3 (kx_uA (kw (cn_7_0 (kx_uA (kw (cn_8_0 (kx_uA (kw (cn_9_1 (kx_uA (kw (cn_9_0 (kx_uA (I) 9 0 (fun _ => 0))) 10 0 0 1) 9 1 (fun _ => 0))) 10 0 1 1) 8 0 (fun _ => 0))) 10 0 2 1) 7 0 (fun _ => 0))) 10 0 3 1) 5 3 (fun _ => 0))) 10 0 4 1) 39 0 (fun _ => 0)) 10 0 5 1) 40 0 (fun _ => 0)) 10 0 6 1) 10 0 7 0) 4 0 (fun _ => 0))) 39 0 0 1) 4 1 (fun _ => 0))) 39 0 1 1) 4 2 (fun _ => 0))) 39 0 2 1) 4 3 (fun _ => 0))) 39 0 3 1) 4 4 (fun _ => 0))) 39 0 4 1) 4 5 (fun _ => 0))) 39 0 5 1) 4 6 (fun _ => 0))) 39 0 6 1, jn_4_6 (jn_4_5 (jn_4_4 (jn_4_3 (jn_4_2 (jn_4_1 (jn_4_0 (kx_uL (kx_uL (jn_5_3 (jn_7_0 (jn_8_0 (jn_9_1 (jn_9_0 (J)))))) 39 0 (fun _ => 0)) 40 0 (fun _ => 0)))))))), some 83) := by
    refine kx_start [104] 200 ?_
    refine ⟨fun h => absurd (show (1 : Int32) = 0 from h) (by decide), ?_⟩
    refine ⟨fun h => absurd h (by decide), fun _ => ?_⟩
    refine ⟨fun h => absurd (show (1 : Int32) = 0 from h) (by decide), ?_⟩
    refine ⟨_, kn_4_7 _ _, rfl, rfl, Nat.le_of_ble_eq_true rfl, ?_⟩
    refine ⟨(vl 7 8 (by omega) (by omega)), ?_⟩
    refine ⟨rfl, ?_⟩
    exact s14
  have s12 : kx_Run tb_X10_init (kx_cnt (cn_10_0 I, jn_10_0 J, some 85), fun r' S'' => r' = none ∧ S'' = (cn_10_0 I, jn_10_0 J, some 85)) 104 [some (kx_r 10 0), some (kx_i 5)] [] (kw (cn_4_5 (kx_uA (kw (cn_4_4 (kx_uA (kw (cn_4_3 (kx_uA (kw (cn_4_2 (kx_uA (kw (cn_4_1 (kx_uA (kw (cn_4_0 (kx_uA (kw (kw (kx_uA (kw (kx_uA (kw (cn_5_3 (kx_uA (kw (cn_7_0 (kx_uA (kw (cn_8_0 (kx_uA (kw (cn_9_1 (kx_uA (kw (cn_9_0 (kx_uA (I) 9 0 (fun _ => 0))) 10 0 0 1) 9 1 (fun _ => 0))) 10 0 1 1) 8 0 (fun _ => 0))) 10 0 2 1) 7 0 (fun _ => 0))) 10 0 3 1) 5 3 (fun _ => 0))) 10 0 4 1) 39 0 (fun _ => 0)) 10 0 5 1) 40 0 (fun _ => 0)) 10 0 6 1) 10 0 7 0) 4 0 (fun _ => 0))) 39 0 0 1) 4 1 (fun _ => 0))) 39 0 1 1) 4 2 (fun _ => 0))) 39 0 2 1) 4 3 (fun _ => 0))) 39 0 3 1) 4 4 (fun _ => 0))) 39 0 4 1) 4 5 (fun _ => 0))) 39 0 5 1, jn_4_5 (jn_4_4 (jn_4_3 (jn_4_2 (jn_4_1 (jn_4_0 (kx_uL (kx_uL (jn_5_3 (jn_7_0 (jn_8_0 (jn_9_1 (jn_9_0 (J)))))) 39 0 (fun _ => 0)) 40 0 (fun _ => 0))))))), some 81) := by
    refine kx_start [104] 200 ?_
    refine ⟨fun h => absurd (show (1 : Int32) = 0 from h) (by decide), ?_⟩
    refine ⟨fun h => absurd h (by decide), fun _ => ?_⟩
    refine ⟨fun h => absurd (show (1 : Int32) = 0 from h) (by decide), ?_⟩
    refine ⟨_, kn_4_6 _ _, rfl, rfl, Nat.le_of_ble_eq_true rfl, ?_⟩
    refine ⟨(vl 6 8 (by omega) (by omega)), ?_⟩
    refine ⟨rfl, ?_⟩
    exact s13
  have s11 : kx_Run tb_X10_init (kx_cnt (cn_10_0 I, jn_10_0 J, some 85), fun r' S'' => r' = none ∧ S'' = (cn_10_0 I, jn_10_0 J, some 85)) 104 [some (kx_r 10 0), some (kx_i 4)] [] (kw (cn_4_4 (kx_uA (kw (cn_4_3 (kx_uA (kw (cn_4_2 (kx_uA (kw (cn_4_1 (kx_uA (kw (cn_4_0 (kx_uA (kw (kw (kx_uA (kw (kx_uA (kw (cn_5_3 (kx_uA (kw (cn_7_0 (kx_uA (kw (cn_8_0 (kx_uA (kw (cn_9_1 (kx_uA (kw (cn_9_0 (kx_uA (I) 9 0 (fun _ => 0))) 10 0 0 1) 9 1 (fun _ => 0))) 10 0 1 1) 8 0 (fun _ => 0))) 10 0 2 1) 7 0 (fun _ => 0))) 10 0 3 1) 5 3 (fun _ => 0))) 10 0 4 1) 39 0 (fun _ => 0)) 10 0 5 1) 40 0 (fun _ => 0)) 10 0 6 1) 10 0 7 0) 4 0 (fun _ => 0))) 39 0 0 1) 4 1 (fun _ => 0))) 39 0 1 1) 4 2 (fun _ => 0))) 39 0 2 1) 4 3 (fun _ => 0))) 39 0 3 1) 4 4 (fun _ => 0))) 39 0 4 1, jn_4_4 (jn_4_3 (jn_4_2 (jn_4_1 (jn_4_0 (kx_uL (kx_uL (jn_5_3 (jn_7_0 (jn_8_0 (jn_9_1 (jn_9_0 (J)))))) 39 0 (fun _ => 0)) 40 0 (fun _ => 0)))))), some 79) := by
    refine kx_start [104] 200 ?_
    refine ⟨fun h => absurd (show (1 : Int32) = 0 from h) (by decide), ?_⟩
    refine ⟨fun h => absurd h (by decide), fun _ => ?_⟩
    refine ⟨fun h => absurd (show (1 : Int32) = 0 from h) (by decide), ?_⟩
    refine ⟨_, kn_4_5 _ _, rfl, rfl, Nat.le_of_ble_eq_true rfl, ?_⟩
    refine ⟨(vl 5 8 (by omega) (by omega)), ?_⟩
    refine ⟨rfl, ?_⟩
    exact s12
  have s10 : kx_Run tb_X10_init (kx_cnt (cn_10_0 I, jn_10_0 J, some 85), fun r' S'' => r' = none ∧ S'' = (cn_10_0 I, jn_10_0 J, some 85)) 104 [some (kx_r 10 0), some (kx_i 3)] [] (kw (cn_4_3 (kx_uA (kw (cn_4_2 (kx_uA (kw (cn_4_1 (kx_uA (kw (cn_4_0 (kx_uA (kw (kw (kx_uA (kw (kx_uA (kw (cn_5_3 (kx_uA (kw (cn_7_0 (kx_uA (kw (cn_8_0 (kx_uA (kw (cn_9_1 (kx_uA (kw (cn_9_0 (kx_uA (I) 9 0 (fun _ => 0))) 10 0 0 1) 9 1 (fun _ => 0))) 10 0 1 1) 8 0 (fun _ => 0))) 10 0 2 1) 7 0 (fun _ => 0))) 10 0 3 1) 5 3 (fun _ => 0))) 10 0 4 1) 39 0 (fun _ => 0)) 10 0 5 1) 40 0 (fun _ => 0)) 10 0 6 1) 10 0 7 0) 4 0 (fun _ => 0))) 39 0 0 1) 4 1 (fun _ => 0))) 39 0 1 1) 4 2 (fun _ => 0))) 39 0 2 1) 4 3 (fun _ => 0))) 39 0 3 1, jn_4_3 (jn_4_2 (jn_4_1 (jn_4_0 (kx_uL (kx_uL (jn_5_3 (jn_7_0 (jn_8_0 (jn_9_1 (jn_9_0 (J)))))) 39 0 (fun _ => 0)) 40 0 (fun _ => 0))))), some 77) := by
    refine kx_start [104] 200 ?_
    refine ⟨fun h => absurd (show (1 : Int32) = 0 from h) (by decide), ?_⟩
    refine ⟨fun h => absurd h (by decide), fun _ => ?_⟩
    refine ⟨fun h => absurd (show (1 : Int32) = 0 from h) (by decide), ?_⟩
    refine ⟨_, kn_4_4 _ _, rfl, rfl, Nat.le_of_ble_eq_true rfl, ?_⟩
    refine ⟨(vl 4 8 (by omega) (by omega)), ?_⟩
    refine ⟨rfl, ?_⟩
    exact s11
  have s9 : kx_Run tb_X10_init (kx_cnt (cn_10_0 I, jn_10_0 J, some 85), fun r' S'' => r' = none ∧ S'' = (cn_10_0 I, jn_10_0 J, some 85)) 104 [some (kx_r 10 0), some (kx_i 2)] [] (kw (cn_4_2 (kx_uA (kw (cn_4_1 (kx_uA (kw (cn_4_0 (kx_uA (kw (kw (kx_uA (kw (kx_uA (kw (cn_5_3 (kx_uA (kw (cn_7_0 (kx_uA (kw (cn_8_0 (kx_uA (kw (cn_9_1 (kx_uA (kw (cn_9_0 (kx_uA (I) 9 0 (fun _ => 0))) 10 0 0 1) 9 1 (fun _ => 0))) 10 0 1 1) 8 0 (fun _ => 0))) 10 0 2 1) 7 0 (fun _ => 0))) 10 0 3 1) 5 3 (fun _ => 0))) 10 0 4 1) 39 0 (fun _ => 0)) 10 0 5 1) 40 0 (fun _ => 0)) 10 0 6 1) 10 0 7 0) 4 0 (fun _ => 0))) 39 0 0 1) 4 1 (fun _ => 0))) 39 0 1 1) 4 2 (fun _ => 0))) 39 0 2 1, jn_4_2 (jn_4_1 (jn_4_0 (kx_uL (kx_uL (jn_5_3 (jn_7_0 (jn_8_0 (jn_9_1 (jn_9_0 (J)))))) 39 0 (fun _ => 0)) 40 0 (fun _ => 0)))), some 75) := by
    refine kx_start [104] 200 ?_
    refine ⟨fun h => absurd (show (1 : Int32) = 0 from h) (by decide), ?_⟩
    refine ⟨fun h => absurd h (by decide), fun _ => ?_⟩
    refine ⟨fun h => absurd (show (1 : Int32) = 0 from h) (by decide), ?_⟩
    refine ⟨_, kn_4_3 _ _, rfl, rfl, Nat.le_of_ble_eq_true rfl, ?_⟩
    refine ⟨(vl 3 8 (by omega) (by omega)), ?_⟩
    refine ⟨rfl, ?_⟩
    exact s10
  have s8 : kx_Run tb_X10_init (kx_cnt (cn_10_0 I, jn_10_0 J, some 85), fun r' S'' => r' = none ∧ S'' = (cn_10_0 I, jn_10_0 J, some 85)) 104 [some (kx_r 10 0), some (kx_i 1)] [] (kw (cn_4_1 (kx_uA (kw (cn_4_0 (kx_uA (kw (kw (kx_uA (kw (kx_uA (kw (cn_5_3 (kx_uA (kw (cn_7_0 (kx_uA (kw (cn_8_0 (kx_uA (kw (cn_9_1 (kx_uA (kw (cn_9_0 (kx_uA (I) 9 0 (fun _ => 0))) 10 0 0 1) 9 1 (fun _ => 0))) 10 0 1 1) 8 0 (fun _ => 0))) 10 0 2 1) 7 0 (fun _ => 0))) 10 0 3 1) 5 3 (fun _ => 0))) 10 0 4 1) 39 0 (fun _ => 0)) 10 0 5 1) 40 0 (fun _ => 0)) 10 0 6 1) 10 0 7 0) 4 0 (fun _ => 0))) 39 0 0 1) 4 1 (fun _ => 0))) 39 0 1 1, jn_4_1 (jn_4_0 (kx_uL (kx_uL (jn_5_3 (jn_7_0 (jn_8_0 (jn_9_1 (jn_9_0 (J)))))) 39 0 (fun _ => 0)) 40 0 (fun _ => 0))), some 73) := by
    refine kx_start [104] 200 ?_
    refine ⟨fun h => absurd (show (1 : Int32) = 0 from h) (by decide), ?_⟩
    refine ⟨fun h => absurd h (by decide), fun _ => ?_⟩
    refine ⟨fun h => absurd (show (1 : Int32) = 0 from h) (by decide), ?_⟩
    refine ⟨_, kn_4_2 _ _, rfl, rfl, Nat.le_of_ble_eq_true rfl, ?_⟩
    refine ⟨(vl 2 8 (by omega) (by omega)), ?_⟩
    refine ⟨rfl, ?_⟩
    exact s9
  have s7 : kx_Run tb_X10_init (kx_cnt (cn_10_0 I, jn_10_0 J, some 85), fun r' S'' => r' = none ∧ S'' = (cn_10_0 I, jn_10_0 J, some 85)) 104 [some (kx_r 10 0), some (kx_i 0)] [] (kw (cn_4_0 (kx_uA (kw (kw (kx_uA (kw (kx_uA (kw (cn_5_3 (kx_uA (kw (cn_7_0 (kx_uA (kw (cn_8_0 (kx_uA (kw (cn_9_1 (kx_uA (kw (cn_9_0 (kx_uA (I) 9 0 (fun _ => 0))) 10 0 0 1) 9 1 (fun _ => 0))) 10 0 1 1) 8 0 (fun _ => 0))) 10 0 2 1) 7 0 (fun _ => 0))) 10 0 3 1) 5 3 (fun _ => 0))) 10 0 4 1) 39 0 (fun _ => 0)) 10 0 5 1) 40 0 (fun _ => 0)) 10 0 6 1) 10 0 7 0) 4 0 (fun _ => 0))) 39 0 0 1, jn_4_0 (kx_uL (kx_uL (jn_5_3 (jn_7_0 (jn_8_0 (jn_9_1 (jn_9_0 (J)))))) 39 0 (fun _ => 0)) 40 0 (fun _ => 0)), some 71) := by
    refine kx_start [104] 200 ?_
    refine ⟨fun h => absurd (show (1 : Int32) = 0 from h) (by decide), ?_⟩
    refine ⟨fun h => absurd h (by decide), fun _ => ?_⟩
    refine ⟨fun h => absurd (show (1 : Int32) = 0 from h) (by decide), ?_⟩
    refine ⟨_, kn_4_1 _ _, rfl, rfl, Nat.le_of_ble_eq_true rfl, ?_⟩
    refine ⟨(vl 1 8 (by omega) (by omega)), ?_⟩
    refine ⟨rfl, ?_⟩
    exact s8
  have s6 : kx_Run tb_X10_init (kx_cnt (cn_10_0 I, jn_10_0 J, some 85), fun r' S'' => r' = none ∧ S'' = (cn_10_0 I, jn_10_0 J, some 85)) 75 [some (kx_r 10 0), none] [] (kw (kx_uA (kw (kx_uA (kw (cn_5_3 (kx_uA (kw (cn_7_0 (kx_uA (kw (cn_8_0 (kx_uA (kw (cn_9_1 (kx_uA (kw (cn_9_0 (kx_uA (I) 9 0 (fun _ => 0))) 10 0 0 1) 9 1 (fun _ => 0))) 10 0 1 1) 8 0 (fun _ => 0))) 10 0 2 1) 7 0 (fun _ => 0))) 10 0 3 1) 5 3 (fun _ => 0))) 10 0 4 1) 39 0 (fun _ => 0)) 10 0 5 1) 40 0 (fun _ => 0)) 10 0 6 1, kx_uL (kx_uL (jn_5_3 (jn_7_0 (jn_8_0 (jn_9_1 (jn_9_0 (J)))))) 39 0 (fun _ => 0)) 40 0 (fun _ => 0), some 69) := by
    refine kx_start [104] 200 ?_
    refine ⟨Or.inl rfl, ?_⟩
    refine ⟨fun h => absurd (show (1 : Int32) = 0 from h) (by decide), ?_⟩
    refine ⟨fun h => absurd h (by decide), fun _ => ?_⟩
    refine ⟨fun h => absurd (show (1 : Int32) = 0 from h) (by decide), ?_⟩
    refine ⟨_, kn_4_0 _ _, rfl, rfl, Nat.le_of_ble_eq_true rfl, ?_⟩
    refine ⟨(vl 0 8 (by omega) (by omega)), ?_⟩
    refine ⟨rfl, ?_⟩
    exact s7
  have s5 : kx_Run tb_X10_init (kx_cnt (cn_10_0 I, jn_10_0 J, some 85), fun r' S'' => r' = none ∧ S'' = (cn_10_0 I, jn_10_0 J, some 85)) 68 [some (kx_r 10 0), none] [] (kw (kx_uA (kw (cn_5_3 (kx_uA (kw (cn_7_0 (kx_uA (kw (cn_8_0 (kx_uA (kw (cn_9_1 (kx_uA (kw (cn_9_0 (kx_uA (I) 9 0 (fun _ => 0))) 10 0 0 1) 9 1 (fun _ => 0))) 10 0 1 1) 8 0 (fun _ => 0))) 10 0 2 1) 7 0 (fun _ => 0))) 10 0 3 1) 5 3 (fun _ => 0))) 10 0 4 1) 39 0 (fun _ => 0)) 10 0 5 1, kx_uL (jn_5_3 (jn_7_0 (jn_8_0 (jn_9_1 (jn_9_0 (J)))))) 39 0 (fun _ => 0), some 68) := by
    refine kx_start [75] 200 ?_
    refine ⟨rfl, ?_⟩
    exact s6
  have s4 : kx_Run tb_X10_init (kx_cnt (cn_10_0 I, jn_10_0 J, some 85), fun r' S'' => r' = none ∧ S'' = (cn_10_0 I, jn_10_0 J, some 85)) 59 [some (kx_r 10 0), none] [] (kw (cn_5_3 (kx_uA (kw (cn_7_0 (kx_uA (kw (cn_8_0 (kx_uA (kw (cn_9_1 (kx_uA (kw (cn_9_0 (kx_uA (I) 9 0 (fun _ => 0))) 10 0 0 1) 9 1 (fun _ => 0))) 10 0 1 1) 8 0 (fun _ => 0))) 10 0 2 1) 7 0 (fun _ => 0))) 10 0 3 1) 5 3 (fun _ => 0))) 10 0 4 1, jn_5_3 (jn_7_0 (jn_8_0 (jn_9_1 (jn_9_0 (J))))), some 67) := by
    refine kx_start [68] 200 ?_
    refine ⟨rfl, ?_⟩
    exact s5
  have s3 : kx_Run tb_X10_init (kx_cnt (cn_10_0 I, jn_10_0 J, some 85), fun r' S'' => r' = none ∧ S'' = (cn_10_0 I, jn_10_0 J, some 85)) 48 [some (kx_r 10 0), none] [] (kw (cn_7_0 (kx_uA (kw (cn_8_0 (kx_uA (kw (cn_9_1 (kx_uA (kw (cn_9_0 (kx_uA (I) 9 0 (fun _ => 0))) 10 0 0 1) 9 1 (fun _ => 0))) 10 0 1 1) 8 0 (fun _ => 0))) 10 0 2 1) 7 0 (fun _ => 0))) 10 0 3 1, jn_7_0 (jn_8_0 (jn_9_1 (jn_9_0 (J)))), some 64) := by
    refine kx_start [59] 200 ?_
    refine ⟨_, kn_5_3 _ _, rfl, rfl, Nat.le_of_ble_eq_true rfl, ?_⟩
    exact s4
  have s2 : kx_Run tb_X10_init (kx_cnt (cn_10_0 I, jn_10_0 J, some 85), fun r' S'' => r' = none ∧ S'' = (cn_10_0 I, jn_10_0 J, some 85)) 37 [some (kx_r 10 0), none] [] (kw (cn_8_0 (kx_uA (kw (cn_9_1 (kx_uA (kw (cn_9_0 (kx_uA (I) 9 0 (fun _ => 0))) 10 0 0 1) 9 1 (fun _ => 0))) 10 0 1 1) 8 0 (fun _ => 0))) 10 0 2 1, jn_8_0 (jn_9_1 (jn_9_0 (J))), some 62) := by
    refine kx_start [48] 200 ?_
    refine ⟨_, kn_7_0 _ _, rfl, rfl, Nat.le_of_ble_eq_true rfl, ?_⟩
    exact s3
  have s1 : kx_Run tb_X10_init (kx_cnt (cn_10_0 I, jn_10_0 J, some 85), fun r' S'' => r' = none ∧ S'' = (cn_10_0 I, jn_10_0 J, some 85)) 26 [some (kx_r 10 0), none] [] (kw (cn_9_1 (kx_uA (kw (cn_9_0 (kx_uA (I) 9 0 (fun _ => 0))) 10 0 0 1) 9 1 (fun _ => 0))) 10 0 1 1, jn_9_1 (jn_9_0 (J)), some 49) := by
    refine kx_start [37] 200 ?_
    refine ⟨_, kn_8_0 _ _, rfl, rfl, Nat.le_of_ble_eq_true rfl, ?_⟩
    exact s2
  have s0 : kx_Run tb_X10_init (kx_cnt (cn_10_0 I, jn_10_0 J, some 85), fun r' S'' => r' = none ∧ S'' = (cn_10_0 I, jn_10_0 J, some 85)) 15 [some (kx_r 10 0), none] [] (kw (cn_9_0 (kx_uA (I) 9 0 (fun _ => 0))) 10 0 0 1, jn_9_0 (J), some 25) := by
    refine kx_start [26] 200 ?_
    refine ⟨_, kn_9_1 _ _, rfl, rfl, Nat.le_of_ble_eq_true rfl, ?_⟩
    exact s1
  refine kx_start [15] 200 ?_
  refine ⟨_, kn_9_0 _ _, rfl, rfl, Nat.le_of_ble_eq_true rfl, ?_⟩
  exact s0

/-! the reference's hour from the log on -/
def lgI (x w4 : Int32) (I : kI) : kI := kx_uA I 41 0 (logG (I 41 0) x (-1) w4)
theorem lgI_ok {I : kI} {c k : Nat} {kd : Nat → Nat} (hc : c ≤ 200) (x w4 : Int32) (h : psI (I 41 0) c kd ∧ I 41 0 13 = nI k) : psI ((lgI x w4 I) 41 0) c kd ∧ (lgI x w4 I) 41 0 13 = nI k := by
  obtain ⟨⟨h14, ⟨n, hn, h15⟩, hk⟩, h13⟩ := h
  unfold lgI
  rw [kx_uA_eq]
  refine ⟨⟨?_, logG_15 _ _ _ _ hn h15, fun s hs => ?_⟩, ?_⟩
  · rw [logG_lt _ _ _ _ (by omega) (by omega), h14]
  · rw [logG_lt _ _ _ _ (by omega) (by omega)]
    exact hk s hs
  · rw [logG_lt _ _ _ _ (by omega) (by omega), h13]
noncomputable def lgA (t d w4 : Int32) (I : kI) : kI := kif (¬ t = 0 ∧ ¬ d = 0) (lgI (kif (I 41 0 6 = 1) 1 2) w4 I) I
noncomputable def lgB (sg w4 : Int32) (I : kI) : kI := kif (sg = 0) I (lgI 3 w4 I)
noncomputable def lgC (a d w4 : Int32) (I : kI) : kI := kif (¬ a = 0 ∧ I 41 0 (61 + 4 * w4.toNatClampNeg) = 2 ∧ ¬ d = 0) (lgI 1 w4 I) I
theorem g_logs (v1 d t sg w who a w4 : Int32) (h3 : d = 0 ∨ d = 1) (h6 : t = 0 ∨ t = 1) (J : kJ) {c k : Nat} (hc : c ≤ 200) (hk : k ≤ 6) (kd : Nat → Nat) (haw : ¬ a = 0 → ∃ i, i < k ∧ w4 = nI i) (I : kI) (hok : psI (I 41 0) c kd ∧ I 41 0 13 = nI k) (m : Nat) (hm : k + 10 ≤ m) (v8 v9 s1 s2 s3 : Int32) : G_X11_hourPasses m 194 v1 w d w4 a t sg v8 v9 who s1 s2 s3 I J = some (hend v1 d t (sbX (lgC a d w4 (lgB sg w4 (lgA t d w4 I))) kd c k v1 d sg w who), J) := by
  have lo : ∀ (x : Int32) (K : kI), psI (K 41 0) c kd ∧ K 41 0 13 = nI k → F_X11_logs x (-1) w4 K J = (lgI x w4 K, J) ∧ pre_X11_logs x (-1) w4 K J := fun x K hK => by
    obtain ⟨⟨h14, ⟨n, hn, h15⟩, hk'⟩, h13⟩ := hK
    exact E_logs x (-1) w4 K J hn h15
  have l6 : ((6 : Int32)).toNatClampNeg = 6 := rfl
  have v6 : vp_in (6 : Int32) 2509 := vl 6 2509 (by omega) (by omega)
  have t241 : ∀ (K : kI), psI (K 41 0) c kd ∧ K 41 0 13 = nI k → ∀ m, k + 7 ≤ m → G_X11_hourPasses m 241 v1 w d w4 a t sg who 0 0 0 0 0 K J = some (hend v1 d t (sbX (lgC a d w4 K) kd c k v1 d sg w who), J) := by
    intro K hK m hm
    obtain ⟨m, rfl⟩ : ∃ m', m = m' + 1 := ⟨m - 1, by omega⟩
    have nx : ∀ K' : kI, psI (K' 41 0) c kd ∧ K' 41 0 13 = nI k → G_X11_hourPasses m 269 v1 w d 0 0 t sg who 0 0 0 0 0 K' J = some (hend v1 d t (sbX K' kd c k v1 d sg w who), J) := fun K' hK' => g_ships v1 d t sg w who h3 h6 K' J hc hk kd hK'.1 hK'.2 m (by omega) 0 0 0 0 0 0 0
    unfold lgC
    rw [G_X11_hourPasses_241]
    by_cases a0 : a = 0
    · rw [kif_pos a0, kif_neg (fun q => q.1 a0)]
      exact nx K hK
    · obtain ⟨i, hi, rfl⟩ := haw a0
      have hcl : ((61 : Int32) + 4 * nI i + 0).toNatClampNeg = 61 + 4 * i + 0 := ix3c (a := 61) (b := 4) (c := 0) (by omega)
      have hv : vp_in ((61 : Int32) + 4 * nI i + 0) 2509 := ix3v (a := 61) (b := 4) (c := 0) (by omega) (by omega)
      rw [kif_neg a0, kif_pos (show pre_X11_ofKeeper (nI i) (0 : Int32) K J from ⟨hv, trivial⟩), nI_clamp (by omega)]
      unfold F_X11_ofKeeper
      rw [hcl, Nat.add_zero]
      by_cases r2 : K 41 0 (61 + 4 * i) = 2
      · rw [kif_pos r2]
        by_cases d0 : d = 0
        · rw [kif_pos d0, kif_neg (fun q => q.2.2 d0)]
          exact nx K hK
        · rw [kif_neg d0, kif_pos (lo 1 K hK).2, (lo 1 K hK).1, kif_pos (show ¬ a = 0 ∧ K 41 0 (61 + 4 * i) = 2 ∧ ¬ d = 0 from ⟨a0, r2, d0⟩)]
          exact nx _ (lgI_ok hc 1 _ hK)
      · rw [kif_neg r2, kif_neg (fun q => r2 q.2.1)]
        exact nx K hK
  have t228 : ∀ (K : kI), psI (K 41 0) c kd ∧ K 41 0 13 = nI k → ∀ m, k + 8 ≤ m → ∀ v9 s0 s1 s2 s3, G_X11_hourPasses m 228 v1 w d w4 a t sg who v9 s0 s1 s2 s3 K J = some (hend v1 d t (sbX (lgC a d w4 (lgB sg w4 K)) kd c k v1 d sg w who), J) := by
    intro K hK m hm v9 s0 s1 s2 s3
    obtain ⟨m, rfl⟩ : ∃ m', m = m' + 1 := ⟨m - 1, by omega⟩
    unfold lgB
    rw [G_X11_hourPasses_228]
    by_cases q : sg = 0
    · rw [kif_pos q, kif_pos q]
      exact t241 K hK m (by omega)
    · rw [kif_neg q, kif_neg q, kif_pos (lo 3 K hK).2, (lo 3 K hK).1]
      exact t241 _ (lgI_ok hc 3 _ hK) m (by omega)
  obtain ⟨m, rfl⟩ : ∃ m', m = m' + 2 := ⟨m - 2, by omega⟩
  unfold lgA
  rw [G_X11_hourPasses_194]
  by_cases q1 : t = 0
  · rw [kif_pos q1, kif_neg (fun q => q.1 q1)]
    exact t228 I hok (m + 1) (by omega) _ _ _ _ _
  · rw [kif_neg q1]
    by_cases q2 : d = 0
    · rw [kif_pos q2, kif_neg (fun q => q.2 q2)]
      exact t228 I hok (m + 1) (by omega) _ _ _ _ _
    · rw [kif_neg q2, kif_pos v6, l6, kif_pos (show ¬ t = 0 ∧ ¬ d = 0 from ⟨q1, q2⟩)]
      by_cases q3 : I 41 0 6 = 1
      · rw [kif_pos q3, kif_pos q3, G_X11_hourPasses_222, kif_pos (lo 1 I hok).2, (lo 1 I hok).1]
        exact t228 _ (lgI_ok hc 1 _ hok) m (by omega) _ _ _ _ _
      · rw [kif_neg q3, kif_neg q3, G_X11_hourPasses_222, kif_pos (lo 2 I hok).2, (lo 2 I hok).1]
        exact t228 _ (lgI_ok hc 2 _ hok) m (by omega) _ _ _ _ _

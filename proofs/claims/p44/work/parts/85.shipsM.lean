/-! the reference's hour from the ships on -/
theorem psF_lo (kd : Nat → Nat) (d sg w who : Int32) {j : Nat} (h : j < 109) (h15 : ¬ j = 15) : ∀ (l : List Nat) (g : Nat → Int32), psF kd d sg w who g l j = g j := by
  intro l
  induction l with
  | nil => intro g; rfl
  | cons s l ih => intro g; rw [psF, ih, ps1_lo _ _ _ _ _ _ _ (by omega) h15 (by omega) (by omega)]
/-- the array after ships and tired -/
def spG (g : Nat → Int32) (kd : Nat → Nat) (c k : Nat) (d sg w who : Int32) : Nat → Int32 := trG (psF kd d sg w who g (rkK g (g 0) c 5)) who w k
def boM (g : Nat → Int32) (v1 d w : Int32) : Prop := ¬ g 8 = -1 ∧ ¬ v1 < g 8 ∧ ¬ w = 2 ∧ d = 0
noncomputable def sbX (I : kI) (kd : Nat → Nat) (c k : Nat) (v1 d sg w who : Int32) : kI := kif (boM (spG (I 41 0) kd c k d sg w who) v1 d w) (bmX (kx_uA I 41 0 (spG (I 41 0) kd c k d sg w who)) v1 k) (kw (kx_uA I 41 0 (spG (I 41 0) kd c k d sg w who)) 11 0 7 0)
theorem trG_lo (g : Nat → Int32) (w wth : Int32) (i : Nat) {j : Nat} (h : j < 62) : trG g w wth i j = g j := by
  unfold trG
  rw [if_neg (fun q => by omega)]
theorem g_ships (v1 d t sg w who : Int32) (h3 : d = 0 ∨ d = 1) (h6 : t = 0 ∨ t = 1) (I : kI) (J : kJ) {c k : Nat} (hc : c ≤ 200) (hk : k ≤ 6) (kd : Nat → Nat) (hg : psI (I 41 0) c kd) (h13 : I 41 0 13 = nI k) (m : Nat) (hm : k + 6 ≤ m) (v4 v5 v9 s0 s1 s2 s3 : Int32) : G_X11_hourPasses m 269 v1 w d v4 v5 t sg who v9 s0 s1 s2 s3 I J = some (hend v1 d t (sbX I kd c k v1 d sg w who), J) := by
  have l8 : ((8 : Int32)).toNatClampNeg = 8 := rfl
  have v8 : vp_in (8 : Int32) 2509 := vl 8 2509 (by omega) (by omega)
  obtain ⟨m, rfl⟩ : ∃ m', m = m' + 2 := ⟨m - 2, by omega⟩
  have e1 := E_passesShips d sg w who I J hc kd hg
  have e2 := E_tires who w (kx_uA I 41 0 (psF kd d sg w who (I 41 0) (rkK (I 41 0) (I 41 0 0) c 5))) J hk (by rw [kx_uA_eq, psF_lo _ _ _ _ _ (by omega) (by omega), h13])
  have eu : ∀ f f2 : Nat → Int32, kx_uA (kx_uA I 41 0 f) 41 0 f2 = kx_uA I 41 0 f2 := fun f f2 => kI_ext fun t2 o2 j => by
    simp only [kx_uA_app]
    split <;> rfl
  rw [eu, kx_uA_eq] at e2
  have hK : kx_uA I 41 0 (trG (psF kd d sg w who (I 41 0) (rkK (I 41 0) (I 41 0 0) c 5)) who w k) = kx_uA I 41 0 (spG (I 41 0) kd c k d sg w who) := rfl
  rw [hK] at e2
  have b13 : (kx_uA I 41 0 (spG (I 41 0) kd c k d sg w who)) 41 0 13 = nI k := by
    rw [kx_uA_eq]
    unfold spG
    rw [trG_lo _ _ _ _ (by omega), psF_lo _ _ _ _ _ (by omega) (by omega), h13]
  have gb := fun m' (hm' : k + 4 ≤ m') => g_boat v1 d t h3 h6 (kx_uA I 41 0 (spG (I 41 0) kd c k d sg w who)) J hk b13 m' hm' 0 0 0
  unfold sbX
  rw [G_X11_hourPasses_269, kbd_eq e1]
  dsimp only
  rw [kbd_eq e2]
  dsimp only
  rw [kif_pos v8, l8, kif_pos v8, kx_uA_eq]
  generalize spG (I 41 0) kd c k d sg w who = G at *
  have no : ¬ boM G v1 d w → G_X11_hourPasses (m + 1) 322 v1 0 d 0 0 t 0 0 0 0 0 0 0 (kx_uA I 41 0 G) J = some (hend v1 d t (kif (boM G v1 d w) (bmX (kx_uA I 41 0 G) v1 k) (kw (kx_uA I 41 0 G) 11 0 7 0)), J) := fun q => by
    rw [kif_neg q, G_X11_hourPasses_322]
    exact (gb m (by omega)).1
  by_cases a1 : G 8 = -1
  · rw [kif_pos a1]
    exact no (fun q => q.1 a1)
  · rw [kif_neg a1]
    by_cases a2 : v1 < G 8
    · rw [kif_pos a2]
      exact no (fun q => q.2.1 a2)
    · rw [kif_neg a2]
      by_cases a3 : w = 2
      · rw [kif_pos a3]
        exact no (fun q => q.2.2.1 a3)
      · rw [kif_neg a3]
        by_cases a4 : d = 0
        · rw [kif_pos a4, kif_pos (show boM G v1 d w from ⟨a1, a2, a3, a4⟩)]
          exact (gb (m + 1) (by omega)).2
        · rw [kif_neg a4]
          exact no (fun q => a4 q.2.2.2)

/-! well-made arrays; the hour as a function of the array alone -/
abbrev nn (x : Int32) : Nat := x.toNatClampNeg
def rg (x : Int32) (b : Nat) : Prop := x = nI (nn x) ∧ nn x ≤ b
theorem nn_nI {n : Nat} (h : n < 2147483648) : nn (nI n) = n := nI_clamp h
theorem rg_nI {n b : Nat} (h : n ≤ b) (hb : b < 2147483648) : rg (nI n) b := ⟨by rw [nn_nI (by omega)], by rw [nn_nI (by omega)]; exact h⟩
theorem rg_mono {x : Int32} {b b' : Nat} (h : rg x b) (hb : b ≤ b') : rg x b' := ⟨h.1, Nat.le_trans h.2 hb⟩
theorem rg_ge {x : Int32} {b : Nat} (h : rg x b) (hb : b < 2147483648) : ¬ x < 0 := by
  rw [h.1]
  exact i_nlt0 _ (by have := h.2; omega)
theorem rg_01 {x : Int32} (h : rg x 1) : x = 0 ∨ x = 1 := by
  have h1 := h.1
  have h2 := h.2
  have e : nn x = 0 ∨ nn x = 1 := by omega
  rcases e with e | e <;> rw [e] at h1
  · exact Or.inl h1
  · exact Or.inr h1
def WS (g : Nat → Int32) : Prop := ∀ i, i < nn (g 12) → rg (g (21 + 2 * i + 1)) 99 ∧ 1 ≤ nn (g (21 + 2 * i + 1)) ∧ rg (g (21 + 2 * i)) 2
def WP (g : Nat → Int32) : Prop := ∀ i, i < 24 → g (85 + i) = -1 ∨ ∃ j, j < nn (g 13) ∧ g (85 + i) = nI j
def WO (g : Nat → Int32) : Prop := rg (g 3) 4 ∧ 1 ≤ nn (g 3) ∧ rg (g 4) 9999 ∧ rg (g 5) 9999 ∧ rg (g 6) 1 ∧ rg (g 7) 1 ∧ rg (g 10) 9999 ∧ rg (g 11) 9999
def WK (g : Nat → Int32) : Prop := ∀ s, s < nn (g 14) → rg (g (109 + 4 * s)) 7 ∧ 3 ≤ nn (g (109 + 4 * s)) ∧ rg (g (109 + 4 * s + 1)) 1000000
def WF (g : Nat → Int32) : Prop := ∀ s, s < nn (g 14) → (nn (g (109 + 4 * s + 1)) < nn (g 0) → rg (g (109 + 4 * s + 2)) 2 ∧ rg (g (109 + 4 * s + 3)) 3) ∧ (¬ nn (g (109 + 4 * s + 1)) < nn (g 0) → g (109 + 4 * s + 2) = -1 ∧ g (109 + 4 * s + 3) = -1)
def WLb (g : Nat → Int32) (n : Nat) : Prop := rg (g 15) 400 ∧ ∀ e, e < nn (g 15) → rg (g (909 + 4 * e)) 1000000 ∧ nn (g (909 + 4 * e)) < n ∧ rg (g (909 + 4 * e + 1)) 6 ∧ 1 ≤ nn (g (909 + 4 * e + 1))
def WG (g : Nat → Int32) (N : Nat) : Prop := rg (g 0) N ∧ rg (g 12) 20 ∧ rg (g 13) 6 ∧ rg (g 14) 200 ∧ WS g ∧ WP g ∧ WO g ∧ WK g ∧ WF g ∧ WLb g (nn (g 0))
/-- the weather of an array's sky -/
def wth (g : Nat → Int32) (a : Nat) : Int32 := if nn (g 12) = 0 then 0 else wAt (fun r => g (21 + 2 * r)) (fun r => g (21 + 2 * r + 1)) (nn (g 12)) 0 (nI (a % lsum (fun r => nn (g (21 + 2 * r + 1))) 0 (nn (g 12))))
def gk (g : Nat → Int32) (s : Nat) : Nat := nn (g (109 + 4 * s))
def gh (g : Nat → Int32) (s : Nat) : Nat := nn (g (109 + 4 * s + 1))
def hw (g : Nat → Int32) : Int32 := wth g (nn (g 0))
def hd (g : Nat → Int32) : Int32 := aD g (nn (g 0))
def hW (g : Nat → Int32) : Int32 := aW g (nn (g 0))
noncomputable def ht (g : Nat → Int32) : Int32 := aT g (hW g)
def hb (g : Nat → Int32) : Prop := aB g (nn (g 0)) (hd g) (hw g)
def hl (g : Nat → Int32) : List Nat := rkK g (g 0) (nn (g 14)) 5
noncomputable def H (g : Nat → Int32) : Nat → Int32 := hG g (gk g) (nn (g 14)) (nn (g 13)) (nn (g 0)) (hw g)
theorem WG_W {g : Nat → Int32} {N : Nat} (h : WG g N) (i : Nat) (hi : i < 24) : g (85 + i) = -1 ∨ ∃ j, j < 6 ∧ j < nn (g 13) ∧ g (85 + i) = nI j := by
  obtain ⟨_, _, h13, _, _, hP, _⟩ := h
  rcases hP i hi with e | ⟨j, h1, h2⟩
  · exact Or.inl e
  · exact Or.inr ⟨j, by have := h13.2; omega, h1, h2⟩
theorem WG_W2 {g : Nat → Int32} {N : Nat} (h : WG g N) : hW g < 0 ∨ (hW g).toNatClampNeg < 6 := by
  rcases WG_W h (nn (g 0) % 24) (Nat.mod_lt _ (by omega)) with e | ⟨j, h1, _, h2⟩
  · left
    show g (85 + nn (g 0) % 24) < 0
    rw [e]
    decide
  · right
    show (g (85 + nn (g 0) % 24)).toNatClampNeg < 6
    rw [h2, nI_clamp (by omega)]
    exact h1
theorem WG_GF {g : Nat → Int32} {N : Nat} (h : WG g N) : GF g (nn (g 14)) (gk g) (gh g) := fun s hs => by
  obtain ⟨_, _, _, _, _, _, _, hK, _⟩ := h
  obtain ⟨e1, e2, e3⟩ := hK s hs
  exact ⟨e1.1, e3.1, e2, e1.2, by have := e3.2; unfold gh; omega⟩
theorem WG_psI {g : Nat → Int32} {N : Nat} (h : WG g N) : psI g (nn (g 14)) (gk g) := by
  have hF := WG_GF h
  obtain ⟨_, _, _, h14, _, _, _, _, _, hL, _⟩ := h
  exact ⟨h14.1, ⟨_, hL.2, hL.1⟩, fun s hs => ⟨(hF s hs).1, (hF s hs).2.2.1, (hF s hs).2.2.2.1⟩⟩
theorem R_weather (a : Nat) (ha : a < 2147483648) (I : kI) (J : kJ) {N : Nat} (h : WG (I 41 0) N) : E_X11_weatherOf (nI a) I J = some (wth (I 41 0) a) := by
  obtain ⟨_, h12, _, _, hS, _⟩ := h
  exact E_weatherOf a ha I J h12.2 h12.1 (fun r => nn (I 41 0 (21 + 2 * r + 1))) (fun r hr => ⟨(hS r hr).1.1, (hS r hr).2.1, (hS r hr).1.2⟩)
/-- the reference's hour -/
theorem R_hour {N : Nat} (hN : N < 2147483647) (I : kI) (J : kJ) (h : WG (I 41 0) N) : ∃ I', E_X11_hourPasses I J = some (I', J) ∧ I' 41 0 = H (I 41 0) ∧ oth I I' ∧ I' 11 0 5 = hd (I 41 0) ∧ I' 11 0 6 = ht (I 41 0) ∧ I' 11 0 7 = kif (hb (I 41 0)) 1 0 := by
  have h0 := h.1
  have h13 := h.2.2.1
  have h14 := h.2.2.2.1
  have hpl : I 41 0 (85 + nn (I 41 0 0) % 24) = -1 ∨ ∃ i, i < nn (I 41 0 13) ∧ I 41 0 (85 + nn (I 41 0 0) % 24) = nI i := h.2.2.2.2.2.1 _ (Nat.mod_lt _ (by omega))
  have e := E_hourPasses (nn (I 41 0 0)) (by have := h0.2; omega) I J h14.2 h13.2 (gk (I 41 0)) ⟨WG_psI h, h13.1⟩ h0.1 (wth (I 41 0) (nn (I 41 0 0))) (by have := h0.2; exact R_weather _ (by omega) I J h) hpl
  have q := hmX_hP I (gk (I 41 0)) (nn (I 41 0 14)) (nn (I 41 0 13)) (nn (I 41 0 0)) (wth (I 41 0) (nn (I 41 0 0))) h13.2 hpl
  refine ⟨_, e, q.1, q.2.1, q.2.2.1, q.2.2.2.1, ?_⟩
  rw [q.2.2.2.2, boM_aB]
  rfl

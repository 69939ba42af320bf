/-! ===== a game is played: the row behind it ===== -/
theorem winA_ne {s : Nat → Int32} {w e1 e2 : Int32} {k : Nat} (h2 : k ≠ 2) (h : k < 23 + 7 * nP s + 3 ∨ 23 + 7 * nP s + 6 < k) : winA s w e1 e2 k = s k := by
  unfold winA
  rw [pk_un h2, pk_un (by omega), pk_un (by omega), pk_un (by omega), pk_un (by omega)]
theorem winA_2 {s : Nat → Int32} {w e1 e2 : Int32} : winA s w e1 e2 2 = s 2 + 1 := pk_us
theorem winA_g3 {s : Nat → Int32} {w e1 e2 : Int32} : gO (winA s w e1 e2) (nP s) 3 = w := by
  unfold gO winA
  rw [pk_un (by omega), pk_un (by omega), pk_un (by omega), pk_us]
theorem winA_g4 {s : Nat → Int32} {w e1 e2 : Int32} : gO (winA s w e1 e2) (nP s) 4 = givA s (nP s) w := by
  unfold gO winA
  rw [pk_un (by omega), pk_un (by omega), pk_un (by omega), pk_un (by omega), pk_us]
theorem winA_g5 {s : Nat → Int32} {w e1 e2 : Int32} : gO (winA s w e1 e2) (nP s) 5 = e1 := by
  unfold gO winA
  rw [pk_un (by omega), pk_un (by omega), pk_us]
theorem winA_g6 {s : Nat → Int32} {w e1 e2 : Int32} : gO (winA s w e1 e2) (nP s) 6 = e2 := by
  unfold gO winA
  rw [pk_un (by omega), pk_us]
theorem winA_lo {s : Nat → Int32} {w e1 e2 : Int32} {g j : Nat} (h : j < 3) : gO (winA s w e1 e2) g j = gO s g j := by
  unfold gO
  exact winA_ne (by omega) (by omega)
theorem winA_old {s : Nat → Int32} {w e1 e2 : Int32} {g j : Nat} (h : g ≠ nP s) (hj : j < 7) : gO (winA s w e1 e2) g j = gO s g j := by
  unfold gO
  exact winA_ne (by omega) (by omega)
theorem winA_sO {s : Nat → Int32} {w e1 e2 : Int32} {i j : Nat} (h : i < 6) (hj : j < 3) : sO (winA s w e1 e2) i j = sO s i j := by
  unfold sO
  exact winA_ne (by omega) (by omega)
theorem ptsA_cong {s s' : Nat → Int32} {k : Int32} : ∀ g, (∀ h, h < g → ∀ j, j < 7 → gO s' h j = gO s h j) → ptsA s' g k = ptsA s g k := by
  intro g
  induction g with
  | zero => intro _; rfl
  | succ g ih =>
    intro hh
    simp only [ptsA]
    rw [ih (fun h hl => hh h (by omega)), hh g (by omega) 4 (by decide), hh g (by omega) 2 (by decide)]
theorem stkA_cong {s s' : Nat → Int32} {k : Int32} : ∀ g, (∀ h, h < g → ∀ j, j < 7 → gO s' h j = gO s h j) → stkA s' g k = stkA s g k := by
  intro g
  induction g with
  | zero => intro _; rfl
  | succ g ih =>
    intro hh
    have a0 := hh g (by omega) 0 (by decide)
    have a1 := hh g (by omega) 1 (by decide)
    have a4 := hh g (by omega) 4 (by decide)
    have ai := ih (fun h hl => hh h (by omega))
    simp only [stkA, plA, a0, a1, a4, ai]
theorem tirA_cong {s s' : Nat → Int32} {k : Int32} : ∀ g, (∀ h, h < g → ∀ j, j < 7 → gO s' h j = gO s h j) → tirA s' g k = tirA s g k := by
  intro g
  induction g with
  | zero => intro _; rfl
  | succ g ih =>
    intro hh
    have a0 := hh g (by omega) 0 (by decide)
    have a1 := hh g (by omega) 1 (by decide)
    have a5 := hh g (by omega) 5 (by decide)
    have a6 := hh g (by omega) 6 (by decide)
    have ai := ih (fun h hl => hh h (by omega))
    by_cases c : gO s g 0 = k
    · simp only [tirA, plA, a0, a1, ai, if_pos c, a5]
    · simp only [tirA, plA, a0, a1, ai, if_neg c, a6]
theorem nI_clampS {s : Nat → Int32} {k n : Nat} (h : s k = nI n) (hn : n < 2 ^ 31) : (s k).toNatClampNeg = n := by rw [h, nI_clamp hn]
section WW
variable {s : Nat → Int32} {w e1 e2 : Int32}
theorem winA_nS : nS (winA s w e1 e2) = nS s := by
  unfold nS
  rw [winA_ne (by decide) (by omega)]
theorem winA_nG : nG (winA s w e1 e2) = nG s := by
  unfold nG
  rw [winA_ne (by decide) (by omega)]
theorem winA_lW : lW (winA s w e1 e2) = lW s := by
  unfold lW
  rw [winA_ne (by decide) (by omega)]
theorem winA_nP (hI : Inv s) : nP (winA s w e1 e2) = nP s + 1 := by
  have h8 := hI.np8
  unfold nP
  rw [winA_2, hI.2.2.1.1, nI_1, nI_clamp (by omega), nI_clamp (by omega)]
theorem winA_fI {g : Nat} : fI (winA s w e1 e2) g = fI s g := by
  unfold fI
  rw [winA_lo (by decide)]
theorem winA_oI {g : Nat} : oI (winA s w e1 e2) g = oI s g := by
  unfold oI
  rw [winA_lo (by decide)]
theorem winA_pre {g : Nat} (hg : g ≤ nP s) : ∀ h, h < g → ∀ j, j < 7 → gO (winA s w e1 e2) h j = gO s h j := fun h hl j hj => winA_old (by omega) hj
theorem givA_in {g : Nat} (hw : w = gO s g 0 ∨ w = gO s g 1) : givA s g w = gO s g 0 ∨ givA s g w = gO s g 1 := by
  have ho : otA s g w = gO s g 0 ∨ otA s g w = gO s g 1 := by
    unfold otA
    split
    · exact Or.inr rfl
    · exact Or.inl rfl
  unfold givA
  split
  · split
    · split
      · exact hw
      · exact ho
    · exact ho
  · exact hw
theorem Inv.win (hI : Inv s) (hg : nP s < nG s) (hw : w = gO s (nP s) 0 ∨ w = gO s (nP s) 1) : Inv (winA s w e1 e2) := by
  have h6 := hI.1.2
  have h8 := hI.2.1.2
  unfold Inv
  simp only [winA_nS, winA_nG, winA_lW, winA_nP hI, winA_fI, winA_oI, winA_2]
  refine ⟨⟨?_, hI.1.2⟩, ⟨?_, hI.2.1.2⟩, ⟨?_, hg⟩, ⟨?_, hI.2.2.2.1.2⟩, ?_, ?_, ?_, ?_⟩
  · rw [winA_ne (by decide) (by omega)]
    exact hI.1.1
  · rw [winA_ne (by decide) (by omega)]
    exact hI.2.1.1
  · rw [hI.2.2.1.1, nI_1]
    rw [nI_clampS (s := s) (k := 2) hI.2.2.1.1 (by omega)] at *
  · rw [winA_ne (by decide) (by omega)]
    exact hI.2.2.2.1.1
  · intro g hgg
    rw [winA_lo (g := g) (j := 0) (by decide), winA_lo (g := g) (j := 1) (by decide), winA_lo (g := g) (j := 2) (by decide)]
    exact hI.2.2.2.2.1 g hgg
  · intro g hgg
    rw [winA_lo (g := g) (j := 0) (by decide), winA_lo (g := g) (j := 1) (by decide)]
    by_cases c : g = nP s
    · subst c
      rw [winA_g3, winA_g4]
      exact ⟨hw, givA_in hw⟩
    · rw [winA_old (j := 3) c (by decide), winA_old (j := 4) c (by decide)]
      exact hI.2.2.2.2.2.1 g (by omega)
  · intro i hi
    rw [winA_sO (i := i) (j := 0) (by omega) (by decide), winA_sO (i := i) (j := 1) (by omega) (by decide), winA_sO (i := i) (j := 2) (by omega) (by decide)]
    exact hI.2.2.2.2.2.2.1 i hi
  · intro j hj
    rw [winA_ne (by omega) (by omega)]
    exact hI.2.2.2.2.2.2.2 j hj
end WW

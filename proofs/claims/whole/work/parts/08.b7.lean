theorem rdE {M : Mm} {o k : Nat} {v : Int32} : (sI M o k v).1 o k = v := by simp [sI]
theorem rdK {M : Mm} {o k c : Nat} {v : Int32} (h : c ≠ k) : (sI M o k v).1 o c = M.1 o c := by simp [sI, h]
theorem rdN {M : Mm} {o k a c : Nat} {v : Int32} (h : a ≠ o) : (sI M o k v).1 a c = M.1 a c := by simp [sI, h]
/-- only the league at b has changed, and no reference -/
def FR (b : Nat) (M M' : Mm) : Prop := M'.2 = M.2 ∧ ∀ o, (o < b ∨ b + 18 ≤ o) → M'.1 o = M.1 o
theorem fr_rf {b : Nat} {M : Mm} : FR b M M := ⟨rfl, fun _ _ => rfl⟩
theorem fr_tr {b : Nat} {M M1 M2 : Mm} (h : FR b M M1) (h2 : FR b M1 M2) : FR b M M2 := ⟨h2.1.trans h.1, fun o ho => (h2.2 o ho).trans (h.2 o ho)⟩
theorem fr_sI {b o k : Nat} {M M1 : Mm} {v : Int32} (h : FR b M M1) (h1 : b ≤ o) (h2 : o < b + 18) : FR b M (sI M1 o k v) := ⟨h.1, fun q hq => by rw [sI_obj (by omega)]; exact h.2 q hq⟩
theorem fr_gq {b c g : Nat} {M M' : Mm} (h : FR b M M') : gq M' c g = gq M c g := by
  unfold gq
  rw [h.1]
theorem fr_XL {b c : Nat} {M M' : Mm} (h : FR b M M') (hX : XL M c) : XL M' c := by
  unfold XL gq at *
  rw [h.1]
  exact hX
theorem X3_rem0 {M : Mm} {o : Nat} (ho : ok nX shX o 3) (wo e : Int32) : f_X3_remember M o 0 wo e = some (sI (sI M o 4 0) o 5 (if e = 3 then 1 else 0), ()) := by
  unfold f_X3_remember
  rw [if_pos rfl, gd_t ho]
  simp only [lt]
  unfold f_X3_remember_b32 f_X3_remember_b43
  by_cases c : e = 3
  · simp only [if_pos c]
    rw [gd_t ho, gd_t (Or.inr rfl)]
    rfl
  · simp only [if_neg c]
    rw [gd_t ho, gd_t (Or.inl rfl)]
    rfl
theorem X3_rem1 {M : Mm} {o : Nat} (ho : ok nX shX o 3) (wo e : Int32) : f_X3_remember M o 1 wo e = some (sI (sI (sI M o 3 (M.1 o 3 + wo)) o 4 (M.1 o 4 + 1)) o 5 (if e = 3 then 1 else 0), ()) := by
  unfold f_X3_remember
  rw [if_neg (by decide), gd_t ho]
  simp only [lt]
  rw [rdK (by decide)]
  unfold f_X3_remember_b32 f_X3_remember_b43
  by_cases c : e = 3
  · simp only [if_pos c]
    rw [gd_t ho, gd_t (Or.inr rfl)]
    rfl
  · simp only [if_neg c]
    rw [gd_t ho, gd_t (Or.inl rfl)]
    rfl
/-- the league behind a game, from what the places hold -/
theorem LD.of_win {M M' : Mm} {b : Nat} {s : Nat → Int32} {T : Int32 × Int32 × Int32} {w e1 e2 : Int32} (hI : Inv s) (hg : nP s < nG s) (hX : XL M b) (hL : LD M b s T) (hF : FR b M M')
    (hb : ∀ k, k ≠ 5 → M'.1 b k = M.1 b k) (hb5 : M'.1 b 5 = nI (nP s) + 1) (hsp : ∀ k, M'.1 (b + 3) k = M.1 (b + 3) k)
    (hs0 : ∀ i, i < 6 → ∀ k, k < 3 → M'.1 (b + 4 + i) k = M.1 (b + 4 + i) k)
    (hs : ∀ i, i < nS s → M'.1 (b + 4 + i) 3 = ptsA (winA s w e1 e2) (nP s + 1) (nI i) ∧ M'.1 (b + 4 + i) 4 = nI (stkA (winA s w e1 e2) (nP s + 1) (nI i)) ∧ M'.1 (b + 4 + i) 5 = tirA (winA s w e1 e2) (nP s + 1) (nI i))
    (hg0 : ∀ g, g < 8 → (g ≠ nP s ∨ True) → ∀ k, k < 9 → (g ≠ nP s ∨ k < 3) → M'.1 (gq M b g) k = M.1 (gq M b g) k)
    (hgn : M'.1 (gq M b (nP s)) 3 = w ∧ M'.1 (gq M b (nP s)) 4 = givA s (nP s) w ∧ M'.1 (gq M b (nP s)) 5 = nI (stkA s (nP s) (gO s (nP s) 0)) ∧ M'.1 (gq M b (nP s)) 6 = nI (stkA s (nP s) (gO s (nP s) 1)) ∧ M'.1 (gq M b (nP s)) 7 = tirA s (nP s) (gO s (nP s) 0) ∧ M'.1 (gq M b (nP s)) 8 = tirA s (nP s) (gO s (nP s) 1)) : LD M' b (winA s w e1 e2) T := by
  have h6 := hI.1.2
  have h8 := hI.2.1.2
  unfold LD
  simp only [winA_nS, winA_nG, winA_nP hI, fr_gq hF]
  refine ⟨⟨?_, ?_, ?_, ?_, ?_, ?_, ?_, ?_⟩, ?_, ?_, ?_, ?_, ?_⟩
  · rw [hb 3 (by decide), winA_ne (by decide) (by omega)]; exact hL.1.1
  · rw [hb 4 (by decide), winA_ne (by decide) (by omega)]; exact hL.1.2.1
  · rw [hb5, winA_2, hI.2.2.1.1]
  · rw [hb 6 (by decide), winA_ne (by decide) (by omega)]; exact hL.1.2.2.2.1
  · rw [hb 7 (by decide), winA_ne (by decide) (by omega)]; exact hL.1.2.2.2.2.1
  · rw [hb 8 (by decide)]; exact hL.1.2.2.2.2.2.1
  · rw [hb 9 (by decide)]; exact hL.1.2.2.2.2.2.2.1
  · rw [hb 10 (by decide)]; exact hL.1.2.2.2.2.2.2.2
  · intro i hi
    rw [hs0 i (by omega) 0 (by decide), hs0 i (by omega) 1 (by decide), hs0 i (by omega) 2 (by decide), winA_sO (i := i) (j := 0) (by omega) (by decide), winA_sO (i := i) (j := 1) (by omega) (by decide), winA_sO (i := i) (j := 2) (by omega) (by decide)]
    obtain ⟨a0, a1, a2, -⟩ := hL.2.1 i hi
    exact ⟨a0, a1, a2, hs i hi⟩
  · intro g hgg
    rw [hg0 g (by omega) (Or.inr trivial) 0 (by decide) (Or.inr (by decide)), hg0 g (by omega) (Or.inr trivial) 1 (by decide) (Or.inr (by decide)), hg0 g (by omega) (Or.inr trivial) 2 (by decide) (Or.inr (by decide)), winA_lo (g := g) (j := 0) (by decide), winA_lo (g := g) (j := 1) (by decide), winA_lo (g := g) (j := 2) (by decide)]
    exact hL.2.2.1 g hgg
  · intro g hgg
    have hp := winA_pre (s := s) (w := w) (e1 := e1) (e2 := e2) (g := g) (by omega)
    rw [winA_lo (g := g) (j := 0) (by decide), winA_lo (g := g) (j := 1) (by decide), stkA_cong g hp, stkA_cong g hp, tirA_cong g hp, tirA_cong g hp]
    by_cases c : g = nP s
    · subst c
      rw [winA_g3, winA_g4]
      exact hgn
    · rw [winA_old (j := 3) c (by decide), winA_old (j := 4) c (by decide), hg0 g (by omega) (Or.inr trivial) 3 (by decide) (Or.inl c), hg0 g (by omega) (Or.inr trivial) 4 (by decide) (Or.inl c), hg0 g (by omega) (Or.inr trivial) 5 (by decide) (Or.inl c), hg0 g (by omega) (Or.inr trivial) 6 (by decide) (Or.inl c), hg0 g (by omega) (Or.inr trivial) 7 (by decide) (Or.inl c), hg0 g (by omega) (Or.inr trivial) 8 (by decide) (Or.inl c)]
      exact hL.2.2.2.1 g (by omega)
  · intro j hj
    rw [hsp, winA_ne (by omega) (by omega)]
    exact hL.2.2.2.2.1 j hj
  · intro g hgg
    by_cases c : g = nP s
    · subst c
      rw [hgn.2.2.2.2.1, hgn.2.2.2.2.2]
      exact ⟨tirA_bz _ _ _, tirA_bz _ _ _⟩
    · rw [hg0 g hgg (Or.inr trivial) 7 (by decide) (Or.inl c), hg0 g hgg (Or.inr trivial) 8 (by decide) (Or.inl c)]
      exact hL.2.2.2.2.2 g hgg
/-- one step of the sums -/
theorem ptsA_win {s : Nat → Int32} {w e1 e2 k : Int32} : ptsA (winA s w e1 e2) (nP s + 1) k = ptsA s (nP s) k + (if givA s (nP s) w = k then gO s (nP s) 2 else 0) := by
  simp only [ptsA]
  rw [winA_g4, winA_lo (g := nP s) (j := 2) (by decide), ptsA_cong (nP s) (winA_pre (Nat.le_refl _))]
theorem stkA_win {s : Nat → Int32} {w e1 e2 k : Int32} : stkA (winA s w e1 e2) (nP s + 1) k = if plA s k (nP s) then (if givA s (nP s) w = k then stkA s (nP s) k + 1 else 0) else stkA s (nP s) k := by
  have a0 := winA_lo (s := s) (w := w) (e1 := e1) (e2 := e2) (g := nP s) (j := 0) (by decide)
  have a1 := winA_lo (s := s) (w := w) (e1 := e1) (e2 := e2) (g := nP s) (j := 1) (by decide)
  simp only [stkA, plA, a0, a1, winA_g4, stkA_cong (nP s) (winA_pre (s := s) (w := w) (e1 := e1) (e2 := e2) (Nat.le_refl _))]
theorem tirA_win {s : Nat → Int32} {w e1 e2 k : Int32} : tirA (winA s w e1 e2) (nP s + 1) k = if plA s k (nP s) then (if gO s (nP s) 0 = k then (if e1 = 3 then 1 else 0) else (if e2 = 3 then 1 else 0)) else tirA s (nP s) k := by
  have a0 := winA_lo (s := s) (w := w) (e1 := e1) (e2 := e2) (g := nP s) (j := 0) (by decide)
  have a1 := winA_lo (s := s) (w := w) (e1 := e1) (e2 := e2) (g := nP s) (j := 1) (by decide)
  have ac := tirA_cong (k := k) (nP s) (winA_pre (s := s) (w := w) (e1 := e1) (e2 := e2) (Nat.le_refl _))
  by_cases c : gO s (nP s) 0 = k
  · simp only [tirA, plA, a0, a1, ac, if_pos c, winA_g5]
  · simp only [tirA, plA, a0, a1, ac, if_neg c, winA_g6]

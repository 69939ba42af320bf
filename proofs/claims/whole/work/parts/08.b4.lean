/-! ===== what the class's league does, over the same row ===== -/
abbrev lb (b : Nat) : Prop := b = 1 ∨ b = 19 ∨ b = 38
def gq (M : Mm) (b g : Nat) : Nat := (M.2.2 (b + 2) g).getD 0
def XL (M : Mm) (b : Nat) : Prop := (M.2.2 b 0 = some (b + 1) ∧ M.2.2 b 1 = some (b + 2) ∧ M.2.2 b 2 = some (b + 3)) ∧ (∀ i, i < 6 → M.2.2 (b + 1) i = some (b + 4 + i)) ∧ (∀ g, g < 8 → M.2.2 (b + 2) g = some (gq M b g) ∧ b + 10 ≤ gq M b g ∧ gq M b g < b + 18) ∧ (∀ g h, g < 8 → h < 8 → gq M b g = gq M b h → g = h)
def LD (M : Mm) (b : Nat) (s : Nat → Int32) (T : Int32 × Int32 × Int32) : Prop :=
  (M.1 b 3 = s 0 ∧ M.1 b 4 = s 1 ∧ M.1 b 5 = s 2 ∧ M.1 b 6 = s 3 ∧ M.1 b 7 = s 4 ∧ M.1 b 8 = T.1 ∧ M.1 b 9 = T.2.1 ∧ M.1 b 10 = T.2.2) ∧
  (∀ i, i < nS s → M.1 (b + 4 + i) 0 = sO s i 0 ∧ M.1 (b + 4 + i) 1 = sO s i 1 ∧ M.1 (b + 4 + i) 2 = sO s i 2 ∧ M.1 (b + 4 + i) 3 = ptsA s (nP s) (nI i) ∧ M.1 (b + 4 + i) 4 = nI (stkA s (nP s) (nI i)) ∧ M.1 (b + 4 + i) 5 = tirA s (nP s) (nI i)) ∧
  (∀ g, g < nG s → M.1 (gq M b g) 0 = gO s g 0 ∧ M.1 (gq M b g) 1 = gO s g 1 ∧ M.1 (gq M b g) 2 = gO s g 2) ∧
  (∀ g, g < nP s → M.1 (gq M b g) 3 = gO s g 3 ∧ M.1 (gq M b g) 4 = gO s g 4 ∧ M.1 (gq M b g) 5 = nI (stkA s g (gO s g 0)) ∧ M.1 (gq M b g) 6 = nI (stkA s g (gO s g 1)) ∧ M.1 (gq M b g) 7 = tirA s g (gO s g 0) ∧ M.1 (gq M b g) 8 = tirA s g (gO s g 1)) ∧
  (∀ j, j < 10 → M.1 (b + 3) j = s (79 + j)) ∧
  (∀ g, g < 8 → bz (M.1 (gq M b g) 7) ∧ bz (M.1 (gq M b g) 8))
def LG (M : Mm) (b : Nat) (s : Nat → Int32) (T : Int32 × Int32 × Int32) : Prop := lb b ∧ XL M b ∧ LD M b s T
theorem okB {b : Nat} (h : lb b) : ok nX shX b 1 := by rcases h with rfl | rfl | rfl <;> decide
theorem okSo {b i : Nat} (h : lb b) (hi : i < 6) : ok nX shX (b + 4 + i) 3 := by
  have h1 : ∀ i, i < 6 → ok nX shX (1 + 4 + i) 3 := by decide
  have h2 : ∀ i, i < 6 → ok nX shX (19 + 4 + i) 3 := by decide
  have h3 : ∀ i, i < 6 → ok nX shX (38 + 4 + i) 3 := by decide
  rcases h with rfl | rfl | rfl
  · exact h1 i hi
  · exact h2 i hi
  · exact h3 i hi
theorem okGo {b q : Nat} (h : lb b) (h1 : b + 10 ≤ q) (h2 : q < b + 18) : ok nX shX q 0 := by
  obtain ⟨j, hj, rfl⟩ : ∃ j, j < 8 ∧ q = b + 10 + j := ⟨q - (b + 10), by omega, by omega⟩
  have e1 : ∀ j, j < 8 → ok nX shX (1 + 10 + j) 0 := by decide
  have e2 : ∀ j, j < 8 → ok nX shX (19 + 10 + j) 0 := by decide
  have e3 : ∀ j, j < 8 → ok nX shX (38 + 10 + j) 0 := by decide
  rcases h with rfl | rfl | rfl
  · exact e1 j hj
  · exact e2 j hj
  · exact e3 j hj
theorem shSr {b : Nat} (h : lb b) : ok nX shX (b + 1) 10 ∧ (shX (b + 1)).2 = 6 := by rcases h with rfl | rfl | rfl <;> decide
theorem shGr {b : Nat} (h : lb b) : ok nX shX (b + 2) 11 ∧ (shX (b + 2)).2 = 8 := by rcases h with rfl | rfl | rfl <;> decide
theorem shPr {b : Nat} (h : lb b) : ok nX shX (b + 3) 8 ∧ (shX (b + 3)).2 = 10 := by rcases h with rfl | rfl | rfl <;> decide
theorem okSr {b i : Nat} (h : lb b) (hi : i < 6) : okA nX shX (b + 1) 10 (nI i) := ⟨(shSr h).1, by rw [(shSr h).2]; exact vin_nI hi (by decide)⟩
theorem okGr {b g : Nat} (h : lb b) (hg : g < 8) : okA nX shX (b + 2) 11 (nI g) := ⟨(shGr h).1, by rw [(shGr h).2]; exact vin_nI hg (by decide)⟩
theorem okPr {b j : Nat} (h : lb b) (hj : j < 10) : okA nX shX (b + 3) 8 (nI j) := ⟨(shPr h).1, by rw [(shPr h).2]; exact vin_nI hj (by decide)⟩
theorem tirA_bz (s : Nat → Int32) (k : Int32) : ∀ g, bz (tirA s g k) := by
  intro g
  induction g with
  | zero => exact Or.inl rfl
  | succ g ih =>
    have q : ∀ x : Int32, bz (if x = 3 then (1 : Int32) else 0) := fun x => by
      by_cases c : x = 3
      · rw [if_pos c]
        exact Or.inr rfl
      · rw [if_neg c]
        exact Or.inl rfl
    by_cases c : plA s k g
    · simp only [tirA, if_pos c]
      exact q _
    · simp only [tirA, if_neg c]
      exact ih
theorem XL.sd {M : Mm} {b i : Nat} (h : XL M b) (hi : i < 6) : M.2.2 (b + 1) (nI i).toNatClampNeg = some (b + 4 + i) := by
  rw [nI_clamp (by omega)]
  exact h.2.1 i hi
theorem XL.gm {M : Mm} {b g : Nat} (h : XL M b) (hg : g < 8) : M.2.2 (b + 2) (nI g).toNatClampNeg = some (gq M b g) := by
  rw [nI_clamp (by omega)]
  exact (h.2.2.1 g hg).1
theorem XL.go {M : Mm} {b g : Nat} (h : XL M b) (hb : lb b) (hg : g < 8) : ok nX shX (gq M b g) 0 := okGo hb (h.2.2.1 g hg).2.1 (h.2.2.1 g hg).2.2
section LL
variable {M : Mm} {b : Nat} {s : Nat → Int32} {T : Int32 × Int32 × Int32}
theorem X1_hasSide (h : LG M b s T) (hI : Inv s) (k : Int32) : f_X1_hasSide M b k = some (M, if 0 ≤ k ∧ k < nI (nS s) then 1 else 0) := by
  obtain ⟨hb, hX, hL⟩ := h
  unfold f_X1_hasSide
  by_cases c : k < 0
  · rw [if_pos c, if_neg (fun z => absurd c (Int32.not_lt.mpr z.1))]
  · rw [if_neg c, gd_t (okB hb), hL.1.1, hI.1.1]
    by_cases c2 : nI (nS s) ≤ k
    · rw [if_pos c2, if_neg (fun z => absurd z.2 (Int32.not_lt.mpr c2))]
    · rw [if_neg c2, if_pos ⟨Int32.not_lt.mp c, Int32.not_le.mp c2⟩]
theorem X1_hasGame (h : LG M b s T) (hI : Inv s) (k : Int32) : f_X1_hasGame M b k = some (M, if 0 ≤ k ∧ k < nI (nG s) then 1 else 0) := by
  obtain ⟨hb, hX, hL⟩ := h
  unfold f_X1_hasGame
  by_cases c : k < 0
  · rw [if_pos c, if_neg (fun z => absurd c (Int32.not_lt.mpr z.1))]
  · rw [if_neg c, gd_t (okB hb), hL.1.2.1, hI.2.1.1]
    by_cases c2 : nI (nG s) ≤ k
    · rw [if_pos c2, if_neg (fun z => absurd z.2 (Int32.not_lt.mpr c2))]
    · rw [if_neg c2, if_pos ⟨Int32.not_lt.mp c, Int32.not_le.mp c2⟩]
theorem X1_allPlayed (h : LG M b s T) (hI : Inv s) : f_X1_allPlayed M b = some (M, if nP s < nG s then 0 else 1) := by
  obtain ⟨hb, hX, hL⟩ := h
  have h8 := hI.2.1.2
  have hp := hI.2.2.1
  unfold f_X1_allPlayed
  rw [gd_t (okB hb), hL.1.2.2.1, hL.1.2.1, hp.1, hI.2.1.1]
  by_cases c : nP s < nG s
  · rw [if_pos (nI_lt c (by omega)), if_pos c]
  · rw [if_neg (nI_nlt (by omega) (by omega)), if_neg c]
theorem X1_isBarred (h : LG M b s T) (hI : Inv s) {i : Nat} (hi : i < nS s) : f_X1_isBarred M b (nI i) = some (M, if barA s (nP s) (nI i) then 1 else 0) := by
  obtain ⟨hb, hX, hL⟩ := h
  have h6 := hI.1.2
  have h8 := hI.np8
  have hst := stkA_le s (nI i) (nP s)
  unfold f_X1_isBarred
  rw [gd_t (okB hb), hX.1.1, Option.bind_some, gd_t (okSr hb (by omega)), hX.sd (by omega), Option.bind_some, gd_t (okSo hb (by omega)), (hL.2.1 i hi).2.2.2.2.1, hL.1.2.2.2.1, hI.2.2.2.1.1]
  have hlw := hI.2.2.2.1.2
  by_cases c : barA s (nP s) (nI i)
  · rw [if_neg (nI_nlt c (by omega)), if_pos c]
  · rw [if_pos (nI_lt (by omega) (by omega)), if_neg c]
theorem X0_isOf {q : Nat} (hq : ok nX shX q 0) (k : Int32) : f_X0_isOf M q k = some (M, if M.1 q 0 = k ∨ M.1 q 1 = k then 1 else 0) := by
  unfold f_X0_isOf
  rw [gd_t hq]
  by_cases c1 : k = M.1 q 0
  · rw [if_pos c1, if_pos (Or.inl c1.symm)]
    rfl
  · rw [if_neg c1]
    by_cases c2 : k = M.1 q 1
    · rw [if_pos c2, if_pos (Or.inr c2.symm)]
      rfl
    · rw [if_neg c2, if_neg (fun z => z.elim (fun z => c1 z.symm) (fun z => c2 z.symm))]
theorem X1_nw_loop (h : LG M b s T) (hI : Inv s) (k : Int32) : ∀ (d g n : Nat), g + d = nG s → d < n → f_X1_nextWorthOf_b7 n M b k (nI g) = some (M, nwA s k d g) := by
  obtain ⟨hb, hX, hL⟩ := h
  have h8 := hI.2.1.2
  intro d
  induction d with
  | zero =>
    intro g n h1 h2
    obtain ⟨n, rfl⟩ : ∃ z, n = z + 1 := ⟨n - 1, by omega⟩
    simp only [f_X1_nextWorthOf_b7]
    rw [gd_t (okB hb), hL.1.2.1, hI.2.1.1, if_pos (nI_le (by omega) (by omega))]
    rfl
  | succ d ih =>
    intro g n h1 h2
    obtain ⟨n, rfl⟩ : ∃ z, n = z + 1 := ⟨n - 1, by omega⟩
    obtain ⟨w0, w1, w2⟩ := hL.2.2.1 g (by omega)
    simp only [f_X1_nextWorthOf_b7]
    rw [gd_t (okB hb), hL.1.2.1, hI.2.1.1, if_neg (nI_ge (by omega) (by omega)), hX.1.2.1, Option.bind_some, gd_t (okGr hb (by omega)), hX.gm (by omega), Option.bind_some, gd_t (hX.go hb (by omega)), X0_isOf (hX.go hb (by omega)), Option.bind_some, w0, w1]
    dsimp only
    by_cases c : plA s k g
    · rw [if_pos c, if_neg (by decide), hX.1.2.1, Option.bind_some, gd_t (okGr hb (by omega)), hX.gm (by omega), Option.bind_some, gd_t (hX.go hb (by omega)), w2]
      simp only [nwA, if_pos c]
    · rw [if_neg c, if_pos rfl, nI_1, ih (g + 1) n (by omega) (by omega)]
      simp only [nwA, if_neg c]
theorem X1_nextWorthOf (h : LG M b s T) (hI : Inv s) (hg : nP s < nG s) (k : Int32) : f_X1_nextWorthOf M b k = some (M, nwA s k (nG s - (nP s + 1)) (nP s + 1)) := by
  have h8 := hI.2.1.2
  unfold f_X1_nextWorthOf
  rw [gd_t (okB h.1), h.2.2.1.2.2.1, hI.2.2.1.1, nI_1]
  exact X1_nw_loop h hI k _ _ 1000 (by omega) (by omega)
end LL

section MM
variable {X Y : Mm}
theorem B_game (h : Rel X Y) (a1 a2 a3 : Int32) : Both (f_X6_game X 0 a1 a2 a3) (f_X7_game Y 0 a1 a2 a3) := by
  have hI := h.inv
  have m0 := h.m0
  have x0 := h.xq.1.1
  have hL := h.2.2.2.1
  have h6 := hI.1.2
  have h8 := hI.2.1.2
  unfold f_X6_game f_X7_game f_X6_game_b38 f_X7_game_b31
  simp only [gd_t gX0, gd_t gM0, x0, Option.bind_some, gd_t gX1, X1_hasSide h.lg1 hI, X7_isSide h.rm hI, iteB, X7_in, rgB, X6_finding h.xq 0 (by decide) 0 rfl, X7_finding h.rm 0 (by decide) 0 rfl]
  by_cases c1 : 0 ≤ a1 ∧ a1 < nI (nS (Y.1 1))
  · simp only [if_pos c1]
    by_cases c2 : 0 ≤ a2 ∧ a2 < nI (nS (Y.1 1))
    · simp only [if_pos c2]
      by_cases c3 : a1 = a2
      · simp only [if_pos c3]
        exact Both.fin h 0 _
      · simp only [if_neg c3]
        by_cases c4 : 1 ≤ a3 ∧ a3 ≤ 9
        · simp only [if_pos c4, m0, Option.bind_some, gd_t gA1, cl1]
          rw [hL.1.2.1, hI.2.1.1]
          by_cases c5 : nG (Y.1 1) < 8
          · have c6 : ¬ nI (nG (Y.1 1)) = (8 : Int32) := fun z => by
              have := (nI_eq (a := nG (Y.1 1)) (b := 8) (by omega) (by decide)).mp z
              omega
            obtain ⟨i, hi, e1⟩ := nI_at c1.1 (by omega) c1.2
            obtain ⟨j, hj, e2⟩ := nI_at c2.1 (by omega) c2.2
            obtain ⟨w, hw, e3⟩ := nI_at' (Int32.le_trans (by decide) c4.1) (show (9 : Nat) < 2 ^ 31 by decide) c4.2
            have hw1 : 1 ≤ w := (nI_leI (a := 1) (by decide) (by omega)).mp (by rw [← e3]; exact c4.1)
            obtain ⟨X', f1, f2, f3⟩ := X1_addGame h.lg1 hI c5 a1 a2 a3
            rw [if_pos (show nI (nG (Y.1 1)) < (8 : Int32) from nI_lt c5 (by decide)), if_neg c6, f1, X7_addGame h.rm hI.2.1.1 c5]
            simp only [Option.bind_some]
            rw [show (sA Y 1 (adG (Y.1 1) a1 a2 a3)).2.2 0 0 = some 1 from m0]
            simp only [Option.bind_some, gd_t gA1, sA_at]
            refine ⟨_, _, _, rfl, by rw [adG_1 hI.2.1.1, nI_pred], h.lg f3 f2 (hI.addG c5 e1 e2 hi hj (fun z => c3 (by rw [e1, e2, z])) ⟨w, hw1, hw, e3⟩)⟩
          · have c6 : nG (Y.1 1) = 8 := by omega
            rw [c6, if_neg (show ¬ nI 8 < (8 : Int32) by decide), if_pos (show nI 8 = (8 : Int32) by decide)]
            simp only [X6_finding h.xq 1 (by decide) 1 rfl, X7_finding h.rm 1 (by decide) 1 rfl, Option.bind_some]
            exact Both.fin h 1 _
        · simp only [if_neg c4]
          exact Both.fin h 0 _
    · simp only [if_neg c2]
      exact Both.fin h 0 _
  · simp only [if_neg c1]
    exact Both.fin h 0 _
theorem nI_2 (w : Nat) (hw : w < 2 ^ 31) : nI w ≤ (2 : Int32) ↔ w ≤ 2 := nI_leI (b := 2) hw (by decide)
theorem B_gameOf (h : Rel X Y) (a1 a2 : Int32) : Both (f_X6_gameOf X 0 a1 a2) (f_X7_gameOf Y 0 a1 a2) := by
  have hI := h.inv
  have m0 := h.m0
  have x0 := h.xq.1.1
  have hL := h.2.2.2.1
  have h8 := hI.2.1.2
  have hpg := hI.2.2.1.2
  unfold f_X6_gameOf f_X7_gameOf f_X6_gameOf_b20 f_X7_gameOf_b17
  simp only [gd_t gX0, gd_t gM0, x0, Option.bind_some, gd_t gX1, X1_hasGame h.lg1 hI, X7_isGame h.rm hI, iteB, X7_in, rgB, X6_finding h.xq 0 (by decide) 0 rfl, X7_finding h.rm 0 (by decide) 0 rfl]
  by_cases c1 : 0 ≤ a1 ∧ a1 < nI (nG (Y.1 1))
  · simp only [if_pos c1]
    by_cases c2 : 0 ≤ a2 ∧ a2 ≤ 4
    · simp only [if_pos c2]
      obtain ⟨g, hg, rfl⟩ := nI_at c1.1 (by omega) c1.2
      obtain ⟨w, hw, rfl⟩ := nI_at' c2.1 (show (4 : Nat) < 2 ^ 31 by decide) c2.2
      have key : (w ≤ 2 ∨ g < nP (Y.1 1)) → f_X6_gameOf_b48 X 0 (nI g) (nI w) = some (X, gO (Y.1 1) g w) := by
        intro hc
        obtain ⟨w0, w1, w2⟩ := hL.2.2.1 g hg
        unfold f_X6_gameOf_b48
        simp only [gd_t gX0, x0, Option.bind_some, gd_t gX1, h.l1, gd_t (gGr (show g < 8 by omega)), h.gm (show g < 8 by omega), gd_t (h.go (show g < 8 by omega))]
        match w, hw, hc with
        | 0, _, _ => rw [w0]; rfl
        | 1, _, _ => rw [w1]; rfl
        | 2, _, _ => rw [w2]; rfl
        | 3, _, hc =>
          obtain ⟨w3, w4, -⟩ := hL.2.2.2.1 g (by omega)
          rw [w3]; rfl
        | 4, _, hc =>
          obtain ⟨w3, w4, -⟩ := hL.2.2.2.1 g (by omega)
          rw [w4]; rfl
        | w + 5, hw, _ => exact absurd hw (by omega)
      have key2 : f_X7_gameOf_b46 Y 0 (nI g) (nI w) = some (Y, gO (Y.1 1) g w) := by
        unfold f_X7_gameOf_b46
        rw [gd_t gM0, X7_of h.rm (nI g) (nI w) g w rfl rfl (by omega) (by omega)]
        rfl
      by_cases c3 : w ≤ 2
      · rw [if_pos ((nI_2 w (by omega)).mpr c3), if_pos ((nI_2 w (by omega)).mpr c3), key (Or.inl c3), key2]
        exact Both.no h _
      · rw [if_neg (fun z => c3 ((nI_2 w (by omega)).mp z)), if_neg (fun z => c3 ((nI_2 w (by omega)).mp z))]
        simp only [m0, Option.bind_some, gd_t gA2, cl2]
        rw [hL.1.2.2.1, hI.2.2.1.1]
        by_cases c4 : g < nP (Y.1 1)
        · rw [if_pos (nI_lt c4 (by omega)), if_pos (nI_lt c4 (by omega)), key (Or.inr c4), key2]
          exact Both.no h _
        · rw [if_neg (nI_nlt (by omega) (by omega)), if_neg (nI_nlt (by omega) (by omega)), X6_finding h.xq 3 (by decide) 3 rfl, X7_finding h.rm 3 (by decide) 3 rfl]
          exact Both.fin h 3 _
    · simp only [if_neg c2]
      exact Both.fin h 0 _
  · simp only [if_neg c1]
    exact Both.fin h 0 _
theorem gPr {j : Nat} (hj : j < 10) : okA nX shX 4 8 (nI j) := okPr (b := 1) (Or.inl rfl) hj
theorem B_hold (h : Rel X Y) (a1 a2 : Int32) : Both (f_X6_hold X 0 a1 a2) (f_X7_hold Y 0 a1 a2) := by
  have hI := h.inv
  have m0 := h.m0
  have x0 := h.xq.1.1
  have h6 := hI.1.2
  unfold f_X6_hold f_X7_hold f_X6_hold_b23 f_X7_hold_b23
  rw [X6_isSpot, X7_in]
  simp only [gd_t gX0, gd_t gM0, x0, Option.bind_some, gd_t gX1, X1_hasSide h.lg1 hI, X7_isSide h.rm hI, iteB, X6_finding h.xq 0 (by decide) 0 rfl, X7_finding h.rm 0 (by decide) 0 rfl]
  by_cases c1 : 0 ≤ a1 ∧ a1 ≤ 9
  · simp only [if_pos c1]
    obtain ⟨j, hj, rfl⟩ := nI_at' c1.1 (show (9 : Nat) < 2 ^ 31 by decide) c1.2
    have key : (a2 = -1 ∨ ∃ i, i < nS (Y.1 1) ∧ a2 = nI i) → Both (f_X6_hold_b29 X 0 (nI j) a2) (f_X7_hold_b29 Y 0 (nI j) a2) := by
      intro hv
      unfold f_X6_hold_b29 f_X7_hold_b29
      have e : (79 : Int32) + nI j = nI (79 + j) := nI_add 79 j
      simp only [gd_t gX0, x0, Option.bind_some, gd_t gX1, h.l2, gd_t (gPr (show j < 10 by omega)), lt, gd_t gM0, m0, e, gd_t (gA (show 79 + j < 89 by omega))]
      rw [nI_clamp (by omega), nI_clamp (by omega)]
      obtain ⟨e1, e2⟩ := LG_spot h.lg1 hI (show j < 10 by omega) a2
      refine ⟨_, _, _, rfl, by rw [sI_sA], h.lg e2 e1 (hI.spot (by omega) hv)⟩
    by_cases c2 : a2 = -1
    · simp only [if_pos c2]
      exact key (Or.inl c2)
    · simp only [if_neg c2]
      by_cases c3 : 0 ≤ a2 ∧ a2 < nI (nS (Y.1 1))
      · simp only [if_pos c3]
        exact key (Or.inr (nI_at c3.1 (by omega) c3.2))
      · simp only [if_neg c3]
        exact Both.fin h 0 _
  · simp only [if_neg c1]
    exact Both.fin h 0 _
theorem undA {Z : Mm} (a0 a1 : Int32) : f_X6_isUnder Z a0 a1 = some (Z, if a0 = a1 ∨ a1 = 0 ∨ (a1 = 2 ∧ (a0 = 3 ∨ a0 = 4)) ∨ (a1 = 1 ∧ a0 = 5) then 1 else 0) := by
  unfold f_X6_isUnder f_X6_isUnder_b36 f_X6_isUnder_b26 f_X6_isUnder_b36
  by_cases c1 : a0 = a1
  · rw [if_pos c1, if_pos (Or.inl c1)]
  rw [if_neg c1]
  by_cases c2 : a1 = 0
  · rw [if_pos c2, if_pos (Or.inr (Or.inl c2))]
  rw [if_neg c2]
  by_cases c3 : a1 = 2
  · rw [if_pos c3]
    have d1 : ¬ a1 = 1 := by rw [c3]; decide
    by_cases c4 : a0 = 3
    · rw [if_pos c4, if_pos (Or.inr (Or.inr (Or.inl ⟨c3, Or.inl c4⟩)))]
    rw [if_neg c4]
    by_cases c5 : a0 = 4
    · rw [if_pos c5, if_pos (Or.inr (Or.inr (Or.inl ⟨c3, Or.inr c5⟩)))]
    rw [if_neg c5, if_neg d1, if_neg (fun z => z.elim c1 (fun z => z.elim c2 (fun z => z.elim (fun z => z.2.elim c4 c5) (fun z => d1 z.1))))]
  rw [if_neg c3]
  by_cases c4 : a1 = 1
  · rw [if_pos c4]
    by_cases c5 : a0 = 5
    · rw [if_pos c5, if_pos (Or.inr (Or.inr (Or.inr ⟨c4, c5⟩)))]
    · rw [if_neg c5, if_neg (fun z => z.elim c1 (fun z => z.elim c2 (fun z => z.elim (fun z => c3 z.1) (fun z => c5 z.2))))]
  · rw [if_neg c4, if_neg (fun z => z.elim c1 (fun z => z.elim c2 (fun z => z.elim (fun z => c3 z.1) (fun z => c4 z.1))))]
theorem undB {Z : Mm} (a0 a1 : Int32) : f_X7_isUnder Z a0 a1 = some (Z, if a0 = a1 ∨ a1 = 0 ∨ (a1 = 2 ∧ (a0 = 3 ∨ a0 = 4)) ∨ (a1 = 1 ∧ a0 = 5) then 1 else 0) := by
  rw [← undA]
  unfold f_X6_isUnder f_X6_isUnder_b36 f_X6_isUnder_b26 f_X6_isUnder_b36 f_X7_isUnder f_X7_isUnder_b34 f_X7_isUnder_b24 f_X7_isUnder_b34
  by_cases c1 : a0 = a1
  · rw [if_pos c1, if_pos c1]
    by_cases c2 : a1 = 0
    · rw [if_pos c2]
    · rw [if_neg c2]
  · rw [if_neg c1, if_neg c1]
theorem B_as (h : Rel X Y) (a1 a2 : Int32) : Both (f_X6_as X 0 a1 a2) (f_X7_as Y 0 a1 a2) := by
  have hI := h.inv
  have m0 := h.m0
  have x0 := h.xq.1.1
  have hL := h.2.2.2.1
  have h6 := hI.1.2
  unfold f_X6_as f_X7_as f_X6_as_b14 f_X7_as_b20
  rw [X6_isSpot, X7_in]
  simp only [Option.bind_some, iteB, X6_isKind, X7_in, gd_t gX0, gd_t gM0, X6_finding h.xq 0 (by decide) 0 rfl, X7_finding h.rm 0 (by decide) 0 rfl]
  by_cases c1 : 0 ≤ a1 ∧ a1 ≤ 9
  · simp only [if_pos c1]
    obtain ⟨j, hj, rfl⟩ := nI_at' c1.1 (show (9 : Nat) < 2 ^ 31 by decide) c1.2
    by_cases c2 : 0 ≤ a2 ∧ a2 ≤ 6
    · have e : (79 : Int32) + nI j = nI (79 + j) := nI_add 79 j
      have e2 : X.1 4 (nI j).toNatClampNeg = Y.1 1 (79 + j) := by
        rw [nI_clamp (by omega)]
        exact hL.2.2.2.2.1 j (by omega)
      simp only [if_pos c2, x0, Option.bind_some, gd_t gX1, h.l2, gd_t (gPr (show j < 10 by omega)), X1_hasSide h.lg1 hI, iteB, lt, m0, e, gd_t (gA (show 79 + j < 89 by omega)), e2]
      rw [show (nI (79 + j)).toNatClampNeg = 79 + j from nI_clamp (by omega)]
      rcases hI.2.2.2.2.2.2.2 j (by omega) with z | ⟨i, hi, z⟩
      · rw [z, if_neg (show ¬ ((0 : Int32) ≤ -1 ∧ (-1 : Int32) < nI (nS (Y.1 1))) from fun q => absurd q.1 (by decide)), if_pos rfl, X6_finding h.xq 5 (by decide) 5 rfl, X7_finding h.rm 5 (by decide) 5 rfl]
        exact Both.fin h 5 _
      · rw [z, if_pos ⟨nI_pos' (by omega), nI_lt hi (by omega)⟩, if_neg (neZ (by omega)), X7_its h.rm (nI i) 0 i 0 rfl rfl (by omega) (by decide)]
        have v0 : X.1 (5 + i) 0 = sO (Y.1 1) i 0 := (hL.2.1 i hi).1
        simp only [x0, Option.bind_some, gd_t gX1, h.l0, gd_t (gSr (show i < 6 by omega)), h.sd (show i < 6 by omega), gd_t (gSo (show i < 6 by omega)), undA, undB, iteB, v0, X6_finding h.xq 2 (by decide) 2 rfl, X7_finding h.rm 2 (by decide) 2 rfl]
        split
        · exact Both.no h _
        · exact Both.fin h 2 _
    · simp only [if_neg c2]
      exact Both.fin h 0 _
  · simp only [if_neg c1]
    exact Both.fin h 0 _
theorem X7_spots_loop (h : RM Y) : ∀ (d j n : Nat), j + d = 10 → d < n → f_X7_count_b88 n Y 0 (spC (Y.1 1) j) (nI j) = some (Y, spC (Y.1 1) 10) := by
  have m0 : Y.2.2 0 0 = some 1 := h.at 0 rfl
  intro d
  induction d with
  | zero =>
    intro j n h1 h2
    obtain ⟨n, rfl⟩ : ∃ z, n = z + 1 := ⟨n - 1, by omega⟩
    obtain rfl : j = 10 := by omega
    simp only [f_X7_count_b88]
    rw [if_pos (by decide)]
  | succ d ih =>
    intro j n h1 h2
    obtain ⟨n, rfl⟩ : ∃ z, n = z + 1 := ⟨n - 1, by omega⟩
    have e : (79 : Int32) + nI j = nI (79 + j) := nI_add 79 j
    have hr := ih (j + 1) n (by omega) (by omega)
    simp only [f_X7_count_b88]
    rw [if_neg (show ¬ (10 : Int32) ≤ nI j from nI_ge (a := j) (b := 10) (by omega) (by decide)), gd_t gM0, m0, Option.bind_some, e, gd_t (gA (by omega)), nI_clamp (by omega)]
    unfold f_X7_count_b113
    rw [nI_1, ← hr]
    by_cases c : Y.1 1 (79 + j) = -1
    · rw [if_pos c]
      simp only [spC, if_pos c]
      rw [Int32.add_zero]
    · rw [if_neg c]
      simp only [spC, if_neg c]
theorem B_count (h : Rel X Y) (a : Int32) : Both (f_X6_count X 0 a) (f_X7_count Y 0 a) := by
  have hI := h.inv
  have m0 := h.m0
  have x0 := h.xq.1.1
  have x5 := h.xq.1.2.2.2.2.1
  have hL := h.2.2.2.1
  obtain ⟨n, hn, t1, t2, -⟩ := h.2.2.2.2.2.2.2.2.1
  unfold f_X6_count f_X7_count
  simp only [gd_t gX0, gd_t gM0, x0, x5, m0, Option.bind_some, gd_t gX1, gd_t gX61, gd_t gA0, gd_t gA1, gd_t gA2, gd_t gA3, gd_t gA4, cl0, cl1, cl2, cl3, cl4, hL.1.1, hL.1.2.1, hL.1.2.2.1, hL.1.2.2.2.1, hL.1.2.2.2.2.1, t1, t2, X1_spotsInUse h.lg1, X6_finding h.xq 0 (by decide) 0 rfl, X7_finding h.rm 0 (by decide) 0 rfl]
  rw [show f_X7_count_b88 1000 Y 0 0 0 = some (Y, spC (Y.1 1) 10) from X7_spots_loop h.rm 10 0 1000 (by omega) (by omega)]
  repeat' split
  all_goals first | exact Both.no h _ | exact Both.fin h 0 _
def fdS (f : Nat → Int32) : Nat → Int32
  | 0 => 0
  | k + 1 => fdS f k + f k
theorem X6_status_loop (hq : XQ X) : ∀ (d j n : Nat), j + d = 7 → d < n → f_X6_status_b32 n X 0 (fdS (X.1 64) j) (nI j) = some (X, fdS (X.1 64) 7) := by
  intro d
  induction d with
  | zero =>
    intro j n h1 h2
    obtain ⟨n, rfl⟩ : ∃ z, n = z + 1 := ⟨n - 1, by omega⟩
    obtain rfl : j = 7 := by omega
    simp only [f_X6_status_b32]
    rw [if_pos (by decide)]
  | succ d ih =>
    intro j n h1 h2
    obtain ⟨n, rfl⟩ : ∃ z, n = z + 1 := ⟨n - 1, by omega⟩
    simp only [f_X6_status_b32]
    rw [if_neg (show ¬ (7 : Int32) ≤ nI j from nI_ge (a := j) (b := 7) (by omega) (by decide)), gd_t gX0, hq.1.2.2.2.2.2.2, Option.bind_some, gd_t (show okA nX shX 64 8 (nI j) from ⟨by decide, vin_nI (show j < 7 by omega) (by decide)⟩), nI_clamp (by omega), nI_1]
    exact ih (j + 1) n (by omega) (by omega)
theorem X7_statusA (h : RM Y) : ∀ (d j n : Nat), j + d = 7 → d < n → f_X7_status_b20 n Y 0 (-1) (fdS (Y.1 4) j) (nI j) = some (Y, fdS (Y.1 4) 7) := by
  have m4 : Y.2.2 0 4 = some 4 := h.at 4 rfl
  intro d
  induction d with
  | zero =>
    intro j n h1 h2
    obtain ⟨n, rfl⟩ : ∃ z, n = z + 1 := ⟨n - 1, by omega⟩
    obtain rfl : j = 7 := by omega
    simp only [f_X7_status_b20]
    rw [if_pos (by decide)]
  | succ d ih =>
    intro j n h1 h2
    obtain ⟨n, rfl⟩ : ∃ z, n = z + 1 := ⟨n - 1, by omega⟩
    simp only [f_X7_status_b20]
    rw [if_neg (show ¬ (7 : Int32) ≤ nI j from nI_ge (a := j) (b := 7) (by omega) (by decide)), if_pos trivial]
    unfold f_X7_status_b37 f_X7_status_b47
    rw [gd_t gM0, m4, Option.bind_some, gd_t (show okA nM shM 4 8 (nI j) from ⟨by decide, vin_nI (show j < 7 by omega) (by decide)⟩), nI_clamp (by omega), nI_1]
    exact ih (j + 1) n (by omega) (by omega)
theorem X7_statusB (h : RM Y) (w : Nat) (hw : w < 7) : ∀ (d j n : Nat), j + d = 7 → d < n → f_X7_status_b20 n Y 0 (nI w) (if w < j then Y.1 4 w else 0) (nI j) = some (Y, Y.1 4 w) := by
  have m4 : Y.2.2 0 4 = some 4 := h.at 4 rfl
  intro d
  induction d with
  | zero =>
    intro j n h1 h2
    obtain ⟨n, rfl⟩ : ∃ z, n = z + 1 := ⟨n - 1, by omega⟩
    obtain rfl : j = 7 := by omega
    simp only [f_X7_status_b20]
    rw [if_pos (by decide), if_pos hw]
  | succ d ih =>
    intro j n h1 h2
    obtain ⟨n, rfl⟩ : ∃ z, n = z + 1 := ⟨n - 1, by omega⟩
    have hr := ih (j + 1) n (by omega) (by omega)
    simp only [f_X7_status_b20]
    rw [if_neg (show ¬ (7 : Int32) ≤ nI j from nI_ge (a := j) (b := 7) (by omega) (by decide)), if_neg (neZ (by omega))]
    by_cases c : w = j
    · subst c
      rw [if_pos rfl]
      unfold f_X7_status_b37 f_X7_status_b47
      rw [gd_t gM0, m4, Option.bind_some, gd_t (show okA nM shM 4 8 (nI w) from ⟨by decide, vin_nI (show w < 7 by omega) (by decide)⟩), nI_clamp (by omega), nI_1, ← hr, if_neg (Nat.lt_irrefl w), if_pos (by omega), Int32.zero_add]
    · rw [if_neg (fun z => c ((nI_eq (by omega) (by omega)).mp z))]
      unfold f_X7_status_b47
      rw [nI_1, ← hr, Int32.add_zero]
      by_cases c2 : w < j
      · rw [if_pos c2, if_pos (by omega)]
      · rw [if_neg c2, if_neg (by omega)]
theorem fdS_cong {f g : Nat → Int32} : ∀ n, (∀ k, k < n → f k = g k) → fdS f n = fdS g n := by
  intro n
  induction n with
  | zero => intro _; rfl
  | succ n ih =>
    intro hh
    simp only [fdS]
    rw [ih (fun k hk => hh k (by omega)), hh n (by omega)]
theorem B_status (h : Rel X Y) (a : Int32) : Both (f_X6_status X 0 a) (f_X7_status Y 0 a) := by
  have hF := h.2.2.2.2.2.2.2.1
  have x7 := h.xq.1.2.2.2.2.2.2
  unfold f_X6_status f_X7_status f_X6_status_b11
  rw [X7_in]
  simp only [Option.bind_some, iteB, gd_t gX0, gd_t gM0, X6_finding h.xq 0 (by decide) 0 rfl, X7_finding h.rm 0 (by decide) 0 rfl]
  by_cases c0 : a < -1
  · rw [if_pos c0, if_neg (fun z => absurd c0 (Int32.not_lt.mpr z.1))]
    exact Both.fin h 0 _
  rw [if_neg c0]
  by_cases c1 : a < 0
  · have e : a = -1 := by
      have h1 := Int32.le_iff_toInt_le.mp (Int32.not_lt.mp c0)
      have h2 := Int32.lt_iff_toInt_lt.mp c1
      apply Int32.toInt_inj.mp
      have e1 : (-1 : Int32).toInt = -1 := by decide
      have e2 : (0 : Int32).toInt = 0 := by decide
      omega
    subst e
    rw [if_pos (by decide), if_pos (by decide), if_pos (by decide), show f_X6_status_b32 1000 X 0 0 0 = _ from X6_status_loop h.xq 7 0 1000 (by omega) (by omega), show f_X7_status_b20 1000 Y 0 (-1) 0 0 = _ from X7_statusA h.rm 7 0 1000 (by omega) (by omega), fdS_cong (f := X.1 64) (g := Y.1 4) 7 (fun k hk => hF k hk)]
    exact Both.no h _
  · obtain ⟨j, hj, rfl⟩ := nI_of c1
    by_cases c2 : j < 7
    · rw [if_pos (show nI j < (7 : Int32) from nI_lt (b := 7) c2 (by decide)), if_neg c1, if_pos ⟨Int32.not_lt.mp c0, show nI j ≤ (6 : Int32) from nI_le (b := 6) (by omega) (by decide)⟩, x7, Option.bind_some, gd_t (show okA nX shX 64 8 (nI j) from ⟨by decide, vin_nI (show j < 7 by omega) (by decide)⟩), nI_clamp (by omega), show f_X7_status_b20 1000 Y 0 (nI j) 0 0 = _ from X7_statusB h.rm j c2 7 0 1000 (by omega) (by omega), hF j c2]
      exact Both.no h _
    · rw [if_neg (show ¬ nI j < (7 : Int32) from nI_nlt (b := 7) (by omega) hj), if_neg (fun z => absurd ((nI_leI (b := 6) hj (by decide)).mp z.2) (by omega))]
      exact Both.fin h 0 _
end MM

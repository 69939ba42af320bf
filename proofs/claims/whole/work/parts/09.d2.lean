theorem gA {k : Nat} (hk : k < 89) : okA nM shM 1 8 (nI k) := okS rfl hk
theorem gA0 : okA nM shM 1 8 (0 : Int32) := by decide
theorem gA1 : okA nM shM 1 8 (1 : Int32) := by decide
theorem gA2 : okA nM shM 1 8 (2 : Int32) := by decide
theorem gA3 : okA nM shM 1 8 (3 : Int32) := by decide
theorem gA4 : okA nM shM 1 8 (4 : Int32) := by decide
theorem neZ {i : Nat} (hi : i < 100) : ¬ nI i = (-1 : Int32) := fun z => by
  have := nI_pos (n := i) (by omega)
  rw [z] at this
  exact this (by decide)
section MM
variable {X Y : Mm}
theorem Rel.m0 (h : Rel X Y) : Y.2.2 0 0 = some 1 := h.rm.at 0 rfl
theorem B_law (h : Rel X Y) (v : Int32) : Both (f_X6_law X 0 v) (f_X7_law Y 0 v) := by
  have hI := h.inv
  have m0 := h.m0
  have x0 := h.xq.1.1
  have hL := h.2.2.2.1
  unfold f_X6_law f_X7_law f_X6_law_b10
  rw [rgB, X7_in]
  simp only [Option.bind_some, iteB]
  by_cases c : 1 ≤ v ∧ v ≤ 3
  · simp only [if_pos c, gd_t gX0, x0, Option.bind_some, gd_t gX1, lt, gd_t gM0, m0, gd_t gA3, cl3]
    have hv : 0 ≤ v := Int32.le_trans (by decide) c.1
    obtain ⟨l, hl, rfl⟩ := nI_at' hv (show (3 : Nat) < 2 ^ 31 by decide) c.2
    have hl1 : 1 ≤ l := (nI_leI (a := 1) (by decide) (by omega)).mp c.1
    obtain ⟨e1, e2⟩ := LG_own h.lg1 hI 3 (Or.inl rfl) (nI l)
    refine ⟨_, _, _, rfl, ?_, h.lg e2 e1 (hI.law hl1 hl)⟩
    rw [hL.1.2.2.2.1, sI_sA]
  · simp only [if_neg c, gd_t gX0, gd_t gM0, X6_finding h.xq 0 (by decide) 0 rfl, X7_finding h.rm 0 (by decide) 0 rfl, Option.bind_some]
    exact Both.fin h 0 _
theorem B_seed (h : Rel X Y) (v : Int32) : Both (f_X6_seed X 0 v) (f_X7_seed Y 0 v) := by
  have hI := h.inv
  have m0 := h.m0
  have x0 := h.xq.1.1
  have hL := h.2.2.2.1
  unfold f_X6_seed f_X7_seed
  simp only [gd_t gX0, x0, Option.bind_some, gd_t gX1, lt, gd_t gM0, m0, gd_t gA4, cl4]
  obtain ⟨e1, e2⟩ := LG_own h.lg1 hI 4 (Or.inr rfl) v
  refine ⟨_, _, _, rfl, ?_, h.lg e2 e1 (hI.z v)⟩
  rw [hL.1.2.2.2.2.1, sI_sA]
theorem B_side (h : Rel X Y) (a1 a2 : Int32) : Both (f_X6_side X 0 a1 a2) (f_X7_side Y 0 a1 a2) := by
  have hI := h.inv
  have m0 := h.m0
  have x0 := h.xq.1.1
  have hL := h.2.2.2.1
  have h6 := hI.1.2
  unfold f_X6_side f_X7_side f_X6_side_b14 f_X7_side_b20
  rw [X6_isKind, X7_in]
  simp only [Option.bind_some, iteB, X6_isStrength, X7_in]
  by_cases c1 : 0 ≤ a1 ∧ a1 ≤ 6
  · simp only [if_pos c1]
    by_cases c2 : 1 ≤ a2 ∧ a2 ≤ 9
    · simp only [if_pos c2, gd_t gX0, x0, Option.bind_some, gd_t gX1, gd_t gM0, m0, gd_t gA0, cl0]
      rw [hL.1.1, hI.1.1]
      by_cases c3 : nS (Y.1 1) < 6
      · have c4 : ¬ nI (nS (Y.1 1)) = (6 : Int32) := fun z => by
          have := (nI_eq (a := nS (Y.1 1)) (b := 6) (by omega) (by decide)).mp z
          omega
        obtain ⟨i, hi, e1⟩ := nI_at' c1.1 (show (6 : Nat) < 2 ^ 31 by decide) c1.2
        obtain ⟨j, hj, e2⟩ := nI_at' (Int32.le_trans (by decide) c2.1) (show (9 : Nat) < 2 ^ 31 by decide) c2.2
        have hj1 : 1 ≤ j := (nI_leI (a := 1) (by decide) (by omega)).mp (by rw [← e2]; exact c2.1)
        obtain ⟨X', f1, f2, f3⟩ := X1_addSide h.lg1 hI c3 a1 a2 0
        rw [if_pos (show nI (nS (Y.1 1)) < (6 : Int32) from nI_lt c3 (by decide)), if_neg c4, f1, X7_addSide h.rm hI.1.1 c3]
        simp only [Option.bind_some]
        rw [show (sA Y 1 (adS (Y.1 1) a1 a2 0)).2.2 0 0 = some 1 from m0]
        simp only [Option.bind_some, gd_t gA0, sA_at]
        have e0 : adS (Y.1 1) a1 a2 0 0 = nI (nS (Y.1 1) + 1) := by
          unfold adS
          rw [pk_us]
          conv => lhs; rw [hI.1.1]
          rw [nI_1]
        refine ⟨_, _, _, rfl, by rw [e0, nI_pred], h.lg f3 f2 (hI.addS c3 ⟨i, hi, e1⟩ ⟨j, hj1, hj, e2⟩ ⟨0, by decide, rfl⟩)⟩
      · have c4 : nS (Y.1 1) = 6 := by omega
        rw [c4, if_neg (show ¬ nI 6 < (6 : Int32) by decide), if_pos (show nI 6 = (6 : Int32) by decide)]
        simp only [X6_finding h.xq 1 (by decide) 1 rfl, X7_finding h.rm 1 (by decide) 1 rfl, Option.bind_some]
        exact Both.fin h 1 _
    · simp only [if_neg c2, gd_t gX0, gd_t gM0, X6_finding h.xq 0 (by decide) 0 rfl, X7_finding h.rm 0 (by decide) 0 rfl, Option.bind_some]
      exact Both.fin h 0 _
  · simp only [if_neg c1, gd_t gX0, gd_t gM0, X6_finding h.xq 0 (by decide) 0 rfl, X7_finding h.rm 0 (by decide) 0 rfl, Option.bind_some]
    exact Both.fin h 0 _
theorem gSr {i : Nat} (hi : i < 6) : okA nX shX 2 10 (nI i) := okSr (b := 1) (Or.inl rfl) hi
theorem gSo {i : Nat} (hi : i < 6) : ok nX shX (5 + i) 3 := okSo (b := 1) (Or.inl rfl) hi
theorem gGr {i : Nat} (hi : i < 8) : okA nX shX 3 11 (nI i) := okGr (b := 1) (Or.inl rfl) hi
theorem Rel.l0 (h : Rel X Y) : X.2.2 1 0 = some 2 := h.1.2.1.1.1
theorem Rel.l1 (h : Rel X Y) : X.2.2 1 1 = some 3 := h.1.2.1.1.2.1
theorem Rel.l2 (h : Rel X Y) : X.2.2 1 2 = some 4 := h.1.2.1.1.2.2
theorem Rel.sd (h : Rel X Y) {i : Nat} (hi : i < 6) : X.2.2 2 (nI i).toNatClampNeg = some (5 + i) := h.1.2.1.sd hi
theorem Rel.gm (h : Rel X Y) {g : Nat} (hg : g < 8) : X.2.2 3 (nI g).toNatClampNeg = some (gq X 1 g) := h.1.2.1.gm hg
theorem Rel.go (h : Rel X Y) {g : Nat} (hg : g < 8) : ok nX shX (gq X 1 g) 0 := h.1.2.1.go (Or.inl rfl) hg
theorem X7_games0_loop (h : RM Y) (hI : Inv (Y.1 1)) {k : Int32} : ∀ (d g n : Nat), g + d = nP (Y.1 1) → d < n → f_X7_games_b5 n Y 0 k 0 (plC (Y.1 1) k g) (nI g) = some (Y, plC (Y.1 1) k (nP (Y.1 1))) := by
  have h8 := hI.np8
  have hpg := hI.2.2.1.2
  have m0 : Y.2.2 0 0 = some 1 := h.at 0 rfl
  intro d
  induction d with
  | zero =>
    intro g n h1 h2
    obtain ⟨n, rfl⟩ : ∃ z, n = z + 1 := ⟨n - 1, by omega⟩
    simp only [f_X7_games_b5]
    rw [gd_t gM0, m0, Option.bind_some, gd_t gA2, cl2, hI.2.2.1.1, if_pos (nI_le (by omega) (by omega)), show g = nP (Y.1 1) by omega]
  | succ d ih =>
    intro g n h1 h2
    obtain ⟨n, rfl⟩ : ∃ z, n = z + 1 := ⟨n - 1, by omega⟩
    simp only [f_X7_games_b5]
    rw [gd_t gM0, m0, Option.bind_some, gd_t gA2, cl2, hI.2.2.1.1, if_neg (nI_ge (by omega) (by omega)), X7_plays h g rfl (by omega), Option.bind_some]
    dsimp only
    have hr := ih (g + 1) n (by omega) (by omega)
    by_cases c : plA (Y.1 1) k g
    · rw [if_pos c, if_neg (by decide), if_pos trivial]
      unfold f_X7_games_b42 f_X7_games_b47
      rw [nI_1, ← hr]
      simp only [plC, if_pos c]
    · rw [if_neg c, if_pos rfl]
      unfold f_X7_games_b46 f_X7_games_b47
      rw [nI_1, ← hr]
      simp only [plC, if_neg c]
      rw [Int32.add_zero]
theorem X7_games1_loop (h : RM Y) (hI : Inv (Y.1 1)) {k : Int32} : ∀ (d g n : Nat), g + d = nP (Y.1 1) → d < n → f_X7_games_b5 n Y 0 k 1 (gvC (Y.1 1) k g) (nI g) = some (Y, gvC (Y.1 1) k (nP (Y.1 1))) := by
  have h8 := hI.np8
  have hpg := hI.2.2.1.2
  have m0 : Y.2.2 0 0 = some 1 := h.at 0 rfl
  intro d
  induction d with
  | zero =>
    intro g n h1 h2
    obtain ⟨n, rfl⟩ : ∃ z, n = z + 1 := ⟨n - 1, by omega⟩
    simp only [f_X7_games_b5]
    rw [gd_t gM0, m0, Option.bind_some, gd_t gA2, cl2, hI.2.2.1.1, if_pos (nI_le (by omega) (by omega)), show g = nP (Y.1 1) by omega]
  | succ d ih =>
    intro g n h1 h2
    obtain ⟨n, rfl⟩ : ∃ z, n = z + 1 := ⟨n - 1, by omega⟩
    simp only [f_X7_games_b5]
    rw [gd_t gM0, m0, Option.bind_some, gd_t gA2, cl2, hI.2.2.1.1, if_neg (nI_ge (by omega) (by omega)), X7_plays h g rfl (by omega), Option.bind_some]
    dsimp only
    have hr := ih (g + 1) n (by omega) (by omega)
    by_cases c : plA (Y.1 1) k g
    · rw [if_pos c, if_neg (by decide), if_neg (by decide), X7_of h (nI g) 4 g 4 rfl rfl (by omega) (by decide), Option.bind_some]
      dsimp only
      by_cases c2 : gO (Y.1 1) g 4 = k
      · rw [if_pos c2]
        unfold f_X7_games_b42 f_X7_games_b47
        rw [nI_1, ← hr]
        simp only [gvC, if_pos c2]
      · rw [if_neg c2]
        unfold f_X7_games_b46 f_X7_games_b47
        rw [nI_1, ← hr]
        simp only [gvC, if_neg c2]
        rw [Int32.add_zero]
    · have hgv : ¬ gO (Y.1 1) g 4 = k := fun z => by
        rcases (hI.2.2.2.2.2.1 g (by omega)).2 with e | e
        · exact c (Or.inl (e.symm.trans z))
        · exact c (Or.inr (e.symm.trans z))
      rw [if_neg c, if_pos rfl]
      unfold f_X7_games_b46 f_X7_games_b47
      rw [nI_1, ← hr]
      simp only [gvC, if_neg hgv]
      rw [Int32.add_zero]
theorem X7_games0 (h : RM Y) (hI : Inv (Y.1 1)) (k : Int32) : f_X7_games Y 0 k 0 = some (Y, plC (Y.1 1) k (nP (Y.1 1))) := by
  have h8 := hI.np8
  exact X7_games0_loop h hI (nP (Y.1 1)) 0 1000 (by omega) (by omega)
theorem X7_games1 (h : RM Y) (hI : Inv (Y.1 1)) (k : Int32) : f_X7_games Y 0 k 1 = some (Y, gvC (Y.1 1) k (nP (Y.1 1))) := by
  have h8 := hI.np8
  exact X7_games1_loop h hI (nP (Y.1 1)) 0 1000 (by omega) (by omega)
theorem B_sideOf (h : Rel X Y) (a1 a2 : Int32) : Both (f_X6_sideOf X 0 a1 a2) (f_X7_sideOf Y 0 a1 a2) := by
  have hI := h.inv
  have m0 := h.m0
  have x0 := h.xq.1.1
  have hL := h.2.2.2.1
  have h6 := hI.1.2
  unfold f_X6_sideOf f_X7_sideOf f_X7_sideOf_b18 f_X7_sideOf_b107
  simp only [gd_t gX0, gd_t gM0, x0, Option.bind_some, gd_t gX1, X1_hasSide h.lg1 hI, X7_isSide h.rm hI, iteB, X7_in]
  by_cases c1 : 0 ≤ a1 ∧ a1 < nI (nS (Y.1 1))
  · obtain ⟨i, hi, rfl⟩ := nI_at c1.1 (by omega) c1.2
    obtain ⟨v0, v1, v2, v3, v4, v5⟩ := hL.2.1 i hi
    have v0 : X.1 (5 + i) 0 = sO (Y.1 1) i 0 := v0
    have v1 : X.1 (5 + i) 1 = sO (Y.1 1) i 1 := v1
    have v2 : X.1 (5 + i) 2 = sO (Y.1 1) i 2 := v2
    have v3 : X.1 (5 + i) 3 = ptsA (Y.1 1) (nP (Y.1 1)) (nI i) := v3
    have v5 : X.1 (5 + i) 5 = tirA (Y.1 1) (nP (Y.1 1)) (nI i) := v5
    simp only [if_pos c1, x0, Option.bind_some, gd_t gX1, h.l0, gd_t (gSr (show i < 6 by omega)), h.sd (show i < 6 by omega), gd_t (gSo (show i < 6 by omega)), X1_isBarred h.lg1 hI hi, X1_gamesPlayedBy h.lg1 hI, X1_gamesGivenTo h.lg1 hI, X7_pts h.rm hI, X7_bar h.rm hI, X7_tir h.rm hI, iteB, v0, v1, v2, v3, v5]
    by_cases c2 : 0 ≤ a2 ∧ a2 ≤ 7
    · simp only [if_pos c2]
      obtain ⟨w, hw, rfl⟩ := nI_at' c2.1 (show (7 : Nat) < 2 ^ 31 by decide) c2.2
      match w, hw with
      | 0, _ =>
        rw [X7_its h.rm (nI i) (nI 0) i 0 rfl rfl (by omega) (by decide)]
        exact Both.no h _
      | 1, _ =>
        rw [X7_its h.rm (nI i) (nI 1) i 1 rfl rfl (by omega) (by decide)]
        exact Both.no h _
      | 2, _ =>
        rw [X7_its h.rm (nI i) (nI 2) i 2 rfl rfl (by omega) (by decide)]
        exact Both.no h _
      | 3, _ => exact Both.no h _
      | 4, _ =>
        by_cases c : barA (Y.1 1) (nP (Y.1 1)) (nI i)
        · simp only [if_pos c]
          exact Both.no h _
        · simp only [if_neg c]
          exact Both.no h _
      | 5, _ =>
        by_cases c : tirA (Y.1 1) (nP (Y.1 1)) (nI i) = 0
        · simp only [if_pos c]
          exact Both.no h _
        · simp only [if_neg c]
          exact Both.no h _
      | 6, _ =>
        have e := X7_games0 h.rm hI (nI i)
        rw [show (nI 6 : Int32) = 6 from rfl]
        rw [if_neg (by decide), if_neg (by decide), if_neg (by decide), if_neg (by decide), if_neg (by decide), if_neg (by decide), if_pos rfl, if_neg (by decide), if_neg (by decide), if_neg (by decide), if_pos rfl, if_neg (by decide), e]
        exact Both.no h _
      | 7, _ =>
        have e := X7_games1 h.rm hI (nI i)
        rw [show (nI 7 : Int32) = 7 from rfl]
        rw [if_neg (by decide), if_neg (by decide), if_neg (by decide), if_neg (by decide), if_neg (by decide), if_neg (by decide), if_neg (by decide), if_pos rfl, if_neg (by decide), if_neg (by decide), if_neg (by decide), if_neg (by decide), if_pos rfl, if_pos rfl, e]
        exact Both.no h _
      | w + 8, hw => exact absurd hw (by omega)
    · simp only [if_neg c2]
      have n : ∀ k, k ≤ 7 → ¬ a2 = nI k := fun k hk z => c2 ⟨by rw [z]; exact nI_pos' (by omega), by rw [z]; exact nI_le (b := 7) hk (by decide)⟩
      rw [if_neg (show ¬ a2 = (0 : Int32) from n 0 (by decide)), if_neg (show ¬ a2 = (1 : Int32) from n 1 (by decide)), if_neg (show ¬ a2 = (2 : Int32) from n 2 (by decide)), if_neg (show ¬ a2 = (3 : Int32) from n 3 (by decide)), if_neg (show ¬ a2 = (4 : Int32) from n 4 (by decide)), if_neg (show ¬ a2 = (5 : Int32) from n 5 (by decide)), if_neg (show ¬ a2 = (6 : Int32) from n 6 (by decide)), if_neg (show ¬ a2 = (7 : Int32) from n 7 (by decide)), X6_finding h.xq 0 (by decide) 0 rfl, X7_finding h.rm 0 (by decide) 0 rfl]
      exact Both.fin h 0 _
  · simp only [if_neg c1, X6_finding h.xq 0 (by decide) 0 rfl, X7_finding h.rm 0 (by decide) 0 rfl, Option.bind_some]
    exact Both.fin h 0 _
end MM

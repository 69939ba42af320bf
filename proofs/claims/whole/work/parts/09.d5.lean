section MM
variable {X Y : Mm}
theorem B_anew (h : Rel X Y) : Both (f_X6_anew X 0) (f_X7_anew Y 0) := by
  have hI := h.inv
  have m0 := h.m0
  have x0 := h.xq.1.1
  obtain ⟨X', e1, e2, e3⟩ := X1_forgetGames h.lg1 hI
  unfold f_X6_anew f_X7_anew
  simp only [gd_t gX0, x0, Option.bind_some, gd_t gX1, e1, lt, gd_t gM0, m0, gd_t gA2, cl2]
  refine ⟨_, _, _, rfl, ?_, h.lg e3 e2 hI.anew⟩
  rw [hI.2.2.1.1, sI_sA]
theorem B_leads (h : Rel X Y) : Both (f_X6_leads X 0) (f_X7_leads Y 0) := by
  have hI := h.inv
  have m0 := h.m0
  have x0 := h.xq.1.1
  have hL := h.2.2.2.1
  have h6 := hI.1.2
  unfold f_X6_leads f_X7_leads
  simp only [gd_t gX0, x0, Option.bind_some, gd_t gX1, gd_t gM0, m0, gd_t gA0, cl0, hL.1.1, X1_leader h.lg1 hI]
  by_cases c : 0 < nS (Y.1 1)
  · have c2 : ¬ Y.1 1 0 = 0 := by
      rw [hI.1.1]
      exact nI_ne0 c (by omega)
    rw [if_neg c2, if_neg c2, X7_leader h.rm hI c, if_pos c]
    exact Both.no h _
  · have c2 : Y.1 1 0 = 0 := by
      rw [hI.1.1, show nS (Y.1 1) = 0 by omega]
      rfl
    rw [if_pos c2, if_pos c2, X6_finding h.xq 3 (by decide) 3 rfl, X7_finding h.rm 3 (by decide) 3 rfl]
    exact Both.fin h 3 _
def plcA (s : Nat → Int32) (g i : Nat) : Nat → Int32
  | 0 => 1
  | n + 1 => if ptsA s g (nI n) ≤ ptsA s g (nI i) then plcA s g i n else plcA s g i n + 1
theorem X6_place_loop (h : Rel X Y) {i : Nat} (hi : i < nS (Y.1 1)) : ∀ (d j n : Nat), j + d = nS (Y.1 1) → d < n → f_X6_place_b21 n X 0 (nI i) (plcA (Y.1 1) (nP (Y.1 1)) i j) (nI j) = some (X, plcA (Y.1 1) (nP (Y.1 1)) i (nS (Y.1 1))) := by
  have hI := h.inv
  have x0 := h.xq.1.1
  have hL := h.2.2.2.1
  have h6 := hI.1.2
  have vi : X.1 (5 + i) 3 = ptsA (Y.1 1) (nP (Y.1 1)) (nI i) := (hL.2.1 i hi).2.2.2.1
  intro d
  induction d with
  | zero =>
    intro j n h1 h2
    obtain ⟨n, rfl⟩ : ∃ z, n = z + 1 := ⟨n - 1, by omega⟩
    simp only [f_X6_place_b21]
    rw [gd_t gX0, x0, Option.bind_some, gd_t gX1, hL.1.1, hI.1.1, if_pos (nI_le (by omega) (by omega)), show j = nS (Y.1 1) by omega]
  | succ d ih =>
    intro j n h1 h2
    obtain ⟨n, rfl⟩ : ∃ z, n = z + 1 := ⟨n - 1, by omega⟩
    have vj : X.1 (5 + j) 3 = ptsA (Y.1 1) (nP (Y.1 1)) (nI j) := (hL.2.1 j (by omega)).2.2.2.1
    have hr := ih (j + 1) n (by omega) (by omega)
    simp only [f_X6_place_b21]
    rw [gd_t gX0, x0, Option.bind_some, gd_t gX1, hL.1.1, hI.1.1, if_neg (nI_ge (by omega) (by omega))]
    simp only [Option.bind_some, gd_t gX1, h.l0, gd_t (gSr (show i < 6 by omega)), h.sd (show i < 6 by omega), gd_t (gSo (show i < 6 by omega)), gd_t (gSr (show j < 6 by omega)), h.sd (show j < 6 by omega), gd_t (gSo (show j < 6 by omega)), vi, vj]
    unfold f_X6_place_b62
    rw [nI_1, ← hr]
    by_cases c : ptsA (Y.1 1) (nP (Y.1 1)) (nI j) ≤ ptsA (Y.1 1) (nP (Y.1 1)) (nI i)
    · simp only [plcA, if_pos c]
    · simp only [plcA, if_neg c]
theorem X7_place_loop (h : RM Y) (hI : Inv (Y.1 1)) {i : Nat} (hi : i < nS (Y.1 1)) : ∀ (d j n : Nat), j + d = nS (Y.1 1) → d < n → f_X7_place_b18 n Y 0 (nI i) (plcA (Y.1 1) (nP (Y.1 1)) i j) (nI j) = some (Y, plcA (Y.1 1) (nP (Y.1 1)) i (nS (Y.1 1))) := by
  have m0 : Y.2.2 0 0 = some 1 := h.at 0 rfl
  have h6 := hI.1.2
  intro d
  induction d with
  | zero =>
    intro j n h1 h2
    obtain ⟨n, rfl⟩ : ∃ z, n = z + 1 := ⟨n - 1, by omega⟩
    simp only [f_X7_place_b18]
    rw [gd_t gM0, m0, Option.bind_some, gd_t gA0, cl0, hI.1.1, if_pos (nI_le (by omega) (by omega)), show j = nS (Y.1 1) by omega]
  | succ d ih =>
    intro j n h1 h2
    obtain ⟨n, rfl⟩ : ∃ z, n = z + 1 := ⟨n - 1, by omega⟩
    have hr := ih (j + 1) n (by omega) (by omega)
    simp only [f_X7_place_b18]
    rw [gd_t gM0, m0, Option.bind_some, gd_t gA0, cl0, hI.1.1, if_neg (nI_ge (by omega) (by omega)), X7_pts h hI, Option.bind_some]
    dsimp only
    rw [X7_pts h hI, Option.bind_some]
    dsimp only
    unfold f_X7_place_b47
    rw [nI_1, ← hr]
    by_cases c : ptsA (Y.1 1) (nP (Y.1 1)) (nI j) ≤ ptsA (Y.1 1) (nP (Y.1 1)) (nI i)
    · simp only [plcA, if_pos c]
      rw [Int32.add_zero]
    · simp only [plcA, if_neg c]
theorem B_place (h : Rel X Y) (a : Int32) : Both (f_X6_place X 0 a) (f_X7_place Y 0 a) := by
  have hI := h.inv
  have x0 := h.xq.1.1
  have h6 := hI.1.2
  unfold f_X6_place f_X7_place
  simp only [gd_t gX0, x0, Option.bind_some, gd_t gX1, gd_t gM0, X1_hasSide h.lg1 hI, X7_isSide h.rm hI, iteB, X6_finding h.xq 0 (by decide) 0 rfl, X7_finding h.rm 0 (by decide) 0 rfl]
  by_cases c1 : 0 ≤ a ∧ a < nI (nS (Y.1 1))
  · obtain ⟨i, hi, rfl⟩ := nI_at c1.1 (by omega) c1.2
    simp only [if_pos c1]
    rw [show f_X6_place_b21 1000 X 0 (nI i) 1 0 = _ from X6_place_loop h hi (nS (Y.1 1)) 0 1000 (by omega) (by omega), show f_X7_place_b18 1000 Y 0 (nI i) 1 0 = _ from X7_place_loop h.rm hI hi (nS (Y.1 1)) 0 1000 (by omega) (by omega)]
    exact Both.no h _
  · simp only [if_neg c1]
    exact Both.fin h 0 _
theorem Rel.told1 (h : Rel X Y) : (told Y).1 = -1 := h.2.2.2.2.2.2.2.2.2.2
theorem B_next (h : Rel X Y) (a : Int32) : Both (f_X6_next X 0 a) (f_X7_next Y 0 a) := by
  have hI := h.inv
  have m0 := h.m0
  have x0 := h.xq.1.1
  have hL := h.2.2.2.1
  have h6 := hI.1.2
  have h8 := hI.2.1.2
  have hp := hI.2.2.1.1
  unfold f_X6_next f_X7_next f_X6_next_b9
  simp only [rgB, X7_in, iteB, gd_t gX0, gd_t gM0, x0, Option.bind_some, gd_t gX1, X1_allPlayed h.lg1 hI, X7_isOver h.rm hI, iteN, X6_finding h.xq 0 (by decide) 0 rfl, X7_finding h.rm 0 (by decide) 0 rfl, X6_finding h.xq 3 (by decide) 3 rfl, X7_finding h.rm 3 (by decide) 3 rfl]
  by_cases c1 : 0 ≤ a ∧ a ≤ 4
  · simp only [if_pos c1]
    by_cases c2 : nP (Y.1 1) < nG (Y.1 1)
    · obtain ⟨q0, q1, q2, q3, -, -⟩ := hI.2.2.2.2.1 _ c2
      obtain ⟨w0, w1, w2⟩ := hL.2.2.1 _ c2
      have g8 : nP (Y.1 1) < 8 := by omega
      simp only [if_pos c2, x0, m0, Option.bind_some, gd_t gX1, gd_t gA2, cl2, h.l1, hL.1.2.2.1, hp, gd_t (gGr g8), h.gm g8, gd_t (h.go g8), w0, w1]
      rw [q0, X1_effortOf h.lg1 hI q2 c2 (Or.inl rfl)]
      simp only [Option.bind_some, x0, gd_t gX1, w1]
      rw [q1, X1_effortOf h.lg1 hI q3 c2 (Or.inr rfl)]
      simp only [Option.bind_some, x0, gd_t gX1, w0, w1, q0, q1]
      rw [X7_of h.rm (nI _) 0 (nP (Y.1 1)) 0 rfl rfl g8 (by decide)]
      simp only [Option.bind_some]
      rw [q0, X7_effort h.rm hI q2 c2]
      simp only [Option.bind_some]
      rw [X7_of h.rm (nI _) 1 (nP (Y.1 1)) 1 rfl rfl g8 (by decide)]
      simp only [Option.bind_some]
      rw [q1, X7_effort h.rm hI q3 c2]
      simp only [Option.bind_some]
      rw [X7_of h.rm (nI _) 0 (nP (Y.1 1)) 0 rfl rfl g8 (by decide), X7_of h.rm (nI _) 1 (nP (Y.1 1)) 1 rfl rfl g8 (by decide)]
      simp only [Option.bind_some, q0, q1]
      rw [effA_T (T := told Y) (T' := T0) h.told1 rfl (show nP (Y.1 1) < 100 by omega), effA_T (T := told Y) (T' := T0) h.told1 rfl (show nP (Y.1 1) < 100 by omega)]
      rw [X1_chanceOfFirst h.lg1 hI c2, X7_chance h.rm hI c2, X1_forceOf h.lg1 hI q2, X1_forceOf h.lg1 hI q3]
      simp only [Option.bind_some]
      rw [X7_force h.rm hI q2, X7_force h.rm hI q3]
      simp only [Option.bind_some]
      repeat' split
      all_goals exact Both.no h _
    · simp only [if_neg c2]
      exact Both.fin h 3 _
  · simp only [if_neg c1]
    exact Both.fin h 0 _
theorem B_win (h : Rel X Y) (a : Int32) : Both (f_X6_win X 0 a) (f_X7_win Y 0 a) := by
  have hI := h.inv
  have m0 := h.m0
  have x0 := h.xq.1.1
  have hL := h.2.2.2.1
  have h6 := hI.1.2
  have h8 := hI.2.1.2
  have hp := hI.2.2.1.1
  unfold f_X6_win f_X7_win f_X7_win_b35
  simp only [iteB, gd_t gX0, gd_t gM0, x0, Option.bind_some, gd_t gX1, X1_allPlayed h.lg1 hI, X7_isOver h.rm hI, iteN, X7_isSide h.rm hI, X6_finding h.xq 0 (by decide) 0 rfl, X7_finding h.rm 0 (by decide) 0 rfl, X6_finding h.xq 3 (by decide) 3 rfl, X7_finding h.rm 3 (by decide) 3 rfl]
  by_cases c2 : nP (Y.1 1) < nG (Y.1 1)
  · obtain ⟨q0, q1, q2, q3, -, -⟩ := hI.2.2.2.2.1 _ c2
    obtain ⟨w0, w1, w2⟩ := hL.2.2.1 _ c2
    have g8 : nP (Y.1 1) < 8 := by omega
    simp only [if_pos c2, x0, m0, Option.bind_some, gd_t gX1, gd_t gA2, cl2, h.l1, hL.1.2.2.1, hp, gd_t (gGr g8), h.gm g8, gd_t (h.go g8), X0_isOf (h.go g8), w0, w1, iteB, X6_finding h.xq 0 (by decide) 0 rfl]
    rw [X7_plays h.rm (nP (Y.1 1)) rfl g8]
    simp only [Option.bind_some, iteB, gd_t gM0, X7_finding h.rm 0 (by decide) 0 rfl]
    by_cases c3 : plA (Y.1 1) a (nP (Y.1 1))
    · have ha : ∃ i, (fI (Y.1 1) (nP (Y.1 1)) = i ∨ oI (Y.1 1) (nP (Y.1 1)) = i) ∧ i < nS (Y.1 1) ∧ a = nI i := by
        rcases c3 with z | z
        · exact ⟨_, Or.inl rfl, q2, z.symm.trans q0⟩
        · exact ⟨_, Or.inr rfl, q3, z.symm.trans q1⟩
      obtain ⟨i, him, hi, rfl⟩ := ha
      have hw : nI i = gO (Y.1 1) (nP (Y.1 1)) 0 ∨ nI i = gO (Y.1 1) (nP (Y.1 1)) 1 := by
        rw [q0, q1]
        rcases him with z | z <;> rw [z] <;> simp
      obtain ⟨X', e1, e2, e3⟩ := X1_playWonBy h.lg1 hI c2 him
      rw [if_pos c3, if_pos ⟨nI_pos' (by omega), nI_lt hi (by omega)⟩, if_pos c3, e1, X7_winsNow h.rm hI c2]
      simp only [Option.bind_some]
      rw [show ∀ f, (sA Y 1 f).2.2 0 0 = some 1 from fun _ => m0, Option.bind_some, gd_t gA2, sA_at, winA_2, hp, nI_1, nI_pred, X7_of (h.rm.sA) (nI _) 4 (nP (Y.1 1)) 4 rfl rfl g8 (by decide), Option.bind_some, sA_at, winA_g4]
      unfold wonA at e2
      rw [effA_T (T := T0) (T' := told Y) rfl h.told1 (show nP (Y.1 1) < 100 by omega), effA_T (T := T0) (T' := told Y) rfl h.told1 (show nP (Y.1 1) < 100 by omega)] at e2
      exact ⟨_, _, _, rfl, rfl, h.lg e3 e2 (hI.win c2 hw)⟩
    · rw [if_neg c3, if_neg c3]
      split <;> exact Both.fin h 0 _
  · simp only [if_neg c2]
    exact Both.fin h 3 _
theorem X7_drawsNext (h : RM Y) (hI : Inv (Y.1 1)) (c2 : nP (Y.1 1) < nG (Y.1 1)) : f_X7_drawsNext Y 0 = some (sA Y 1 (drwA (Y.1 1) (told Y)), ()) := by
  have m0 : Y.2.2 0 0 = some 1 := h.at 0 rfl
  have h6 := hI.1.2
  have h8 := hI.2.1.2
  have hp := hI.2.2.1.1
  obtain ⟨q0, q1, q2, q3, -, -⟩ := hI.2.2.2.2.1 _ c2
  have g8 : nP (Y.1 1) < 8 := by omega
  have hI' := hI.z (zA (Y.1 1))
  have nP' : nP (upd (Y.1 1) 4 (zA (Y.1 1))) = nP (Y.1 1) := nP_upd (by decide)
  have nG' : nG (upd (Y.1 1) 4 (zA (Y.1 1))) = nG (Y.1 1) := nG_upd (by decide)
  have hch := X7_chance (M := sA Y 1 (upd (Y.1 1) 4 (zA (Y.1 1)))) h.sA (by rw [sA_at]; exact hI') (by rw [sA_at, nP', nG']; exact c2)
  have hwi := X7_wins (M := sA Y 1 (upd (Y.1 1) 4 (zA (Y.1 1)))) h.sA (by rw [sA_at]; exact hI') (by rw [sA_at, nP', nG']; exact c2)
  simp only [sA_at, nP', sA_sA] at hch hwi
  unfold f_X7_drawsNext
  rw [gd_t gM0, m0, Option.bind_some, gd_t gA2, cl2, hp, X7_of h (nI _) 0 (nP (Y.1 1)) 0 rfl rfl g8 (by decide), Option.bind_some]
  dsimp only
  rw [q0, X7_effort h hI q2 c2, Option.bind_some]
  dsimp only
  rw [X7_of h (nI _) 1 (nP (Y.1 1)) 1 rfl rfl g8 (by decide), Option.bind_some]
  dsimp only
  rw [q1, X7_effort h hI q3 c2, Option.bind_some]
  dsimp only
  rw [X7_draw h, Option.bind_some]
  dsimp only
  rw [hch, Option.bind_some]
  dsimp only
  unfold drwA dwA f_X7_drawsNext_b64
  split
  · rw [X7_of h.sA (nI _) 1 (nP (Y.1 1)) 1 rfl rfl g8 (by decide), Option.bind_some, sA_at, gO_upd (by omega)]
    dsimp only
    rw [gd_t gM0, hwi, Option.bind_some]
  · rw [X7_of h.sA (nI _) 0 (nP (Y.1 1)) 0 rfl rfl g8 (by decide), Option.bind_some, sA_at, gO_upd (by omega)]
    dsimp only
    rw [gd_t gM0, hwi, Option.bind_some]
theorem drwA_T {s : Nat → Int32} {T T' : Int32 × Int32 × Int32} (h : T.1 = -1) (h' : T'.1 = -1) (hg : nP s < 100) : drwA s T = drwA s T' := by
  unfold drwA dwA
  rw [effA_T h h' hg, effA_T h h' hg]
theorem drwA_inv {s : Nat → Int32} (hI : Inv s) (hg : nP s < nG s) (T : Int32 × Int32 × Int32) : Inv (drwA s T) := by
  have nP' : nP (upd s 4 (zA s)) = nP s := nP_upd (by decide)
  refine (hI.z (zA s)).win (by rw [nP', nG_upd (by decide)]; exact hg) ?_
  rw [nP', gO_upd (by omega), gO_upd (by omega)]
  unfold dwA
  split
  · exact Or.inr rfl
  · exact Or.inl rfl
theorem drwA_giv {s : Nat → Int32} (T : Int32 × Int32 × Int32) : gO (drwA s T) (nP s) 4 = givA (upd s 4 (zA s)) (nP s) (dwA s T) := by
  have q := winA_g4 (s := upd s 4 (zA s)) (w := dwA s T) (e1 := effA s T (nP s) (fI s (nP s))) (e2 := effA s T (nP s) (oI s (nP s)))
  rw [nP_upd (by decide)] at q
  exact q
theorem drwA_2 {s : Nat → Int32} (T : Int32 × Int32 × Int32) : drwA s T 2 = s 2 + 1 := by
  unfold drwA
  rw [winA_2, pk_un (by decide)]
theorem B_play (h : Rel X Y) : Both (f_X6_play X 0) (f_X7_play Y 0) := by
  have hI := h.inv
  have m0 := h.m0
  have x0 := h.xq.1.1
  have h8 := hI.2.1.2
  have hp := hI.2.2.1.1
  unfold f_X6_play f_X7_play
  simp only [gd_t gX0, gd_t gM0, x0, Option.bind_some, gd_t gX1, X1_allPlayed h.lg1 hI, X7_isOver h.rm hI, iteN, X6_finding h.xq 3 (by decide) 3 rfl, X7_finding h.rm 3 (by decide) 3 rfl]
  by_cases c2 : nP (Y.1 1) < nG (Y.1 1)
  · have g8 : nP (Y.1 1) < 8 := by omega
    obtain ⟨X', e1, e2, e3⟩ := X1_playDrawn h.lg1 hI c2
    have eT := drwA_T (s := Y.1 1) (T := T0) (T' := told Y) rfl h.told1 (by omega)
    rw [eT] at e2
    rw [if_pos c2, if_pos c2, e1, X7_drawsNext h.rm hI c2]
    simp only [Option.bind_some]
    rw [show ∀ f, (sA Y 1 f).2.2 0 0 = some 1 from fun _ => m0, Option.bind_some, gd_t gA2, cl2, sA_at, drwA_2, hp, nI_1, nI_pred, X7_of (h.rm.sA) (nI _) 4 (nP (Y.1 1)) 4 rfl rfl g8 (by decide), Option.bind_some, sA_at, ← eT, drwA_giv]
    rw [← eT] at e2
    exact ⟨_, _, _, rfl, rfl, h.lg e3 e2 (drwA_inv hI c2 _)⟩
  · simp only [if_neg c2]
    exact Both.fin h 3 _
end MM

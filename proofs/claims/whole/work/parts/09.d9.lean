section MM
variable {X Y : Mm}
theorem X7_lacks {i : Nat} (hi : i < 4) (hM : RM Y) : f_X7_lacks Y 0 (nI i) = some (Y, if Y.1 14 i = 0 then 5 else -1) := by
  unfold f_X7_lacks
  rw [X7_isSheet, Option.bind_some]
  dsimp only
  rw [if_pos (show (0 : Int32) ≤ nI i ∧ nI i ≤ 3 from ⟨nI_pos' (by omega), nI_le (b := 3) (by omega) (by decide)⟩), if_neg (by decide), gd_t gM0, hM.at 26 rfl, Option.bind_some, gd_t (gB4 hi), nI_clamp (by omega)]
  split <;> rfl
theorem X7_lacksN {a : Int32} (c : ¬ (0 ≤ a ∧ a ≤ 3)) : f_X7_lacks Y 0 a = some (Y, 0) := by
  unfold f_X7_lacks
  rw [X7_isSheet, Option.bind_some]
  dsimp only
  rw [if_neg c, if_pos rfl]
/-- a game is won in both -/
theorem won_step {s : Nat → Int32} {b : Nat} (hL : LG X b s T0) (hI : Inv s) (hM : RM Y) (hs : Y.1 1 = s) (hT : (told Y).1 = -1) (hg : nP s < nG s) {a : Int32} (ha : plA s a (nP s)) : ∃ X', f_X1_playWonBy X b a = some (X', givA s (nP s) a) ∧ f_X7_winsNow Y 0 a = some (sA Y 1 (wonA s T0 a), ()) ∧ LG X' b (wonA s T0 a) T0 ∧ FR b X X' ∧ Inv (wonA s T0 a) := by
  subst hs
  have h6 := hI.1.2
  have h8 := hI.2.1.2
  obtain ⟨q0, q1, q2, q3, -, -⟩ := hI.2.2.2.2.1 _ hg
  have hx : ∃ i, (fI (Y.1 1) (nP (Y.1 1)) = i ∨ oI (Y.1 1) (nP (Y.1 1)) = i) ∧ i < nS (Y.1 1) ∧ a = nI i := by
    rcases ha with z | z
    · exact ⟨_, Or.inl rfl, q2, z.symm.trans q0⟩
    · exact ⟨_, Or.inr rfl, q3, z.symm.trans q1⟩
  obtain ⟨i, him, hi, rfl⟩ := hx
  have hw : nI i = gO (Y.1 1) (nP (Y.1 1)) 0 ∨ nI i = gO (Y.1 1) (nP (Y.1 1)) 1 := by
    rw [q0, q1]
    rcases him with z | z <;> rw [z] <;> simp
  obtain ⟨X', e1, e2, e3⟩ := X1_playWonBy hL hI hg him
  refine ⟨X', e1, ?_, e2, e3, hI.win hg hw⟩
  rw [X7_winsNow hM hI hg]
  unfold wonA
  rw [effA_T (T := T0) (T' := told Y) rfl hT (show nP (Y.1 1) < 100 by omega), effA_T (T := T0) (T' := told Y) rfl hT (show nP (Y.1 1) < 100 by omega)]
theorem load_loop {i z : Nat} (hi : i < 4) (hz : z ≤ 40) : ∀ (d j n : Nat) (X Y : Mm), j + d = z → d < n → Rel X Y → X.1 (65 + 2 * i) 2 = nI z → Y.1 15 i = nI z → (∀ k, k < 40 → X.1 (66 + 2 * i) k = Y.1 16 (40 * i + k)) → Both (f_X6_load_b35 n X 0 (65 + 2 * i) (nI j)) (f_X7_load_b18 n Y 0 (nI i) (nI j)) := by
  intro d
  induction d with
  | zero =>
    intro j n X Y h1 h2 h hz1 hz2 hn
    obtain ⟨n, rfl⟩ : ∃ z, n = z + 1 := ⟨n - 1, by omega⟩
    simp only [f_X6_load_b35, f_X7_load_b18]
    rw [gd_t (gS2 hi), hz1, if_pos (nI_le (by omega) (by omega)), gd_t gM0, h.rm.at 27 rfl, Option.bind_some, gd_t (gB5 hi), nI_clamp (by omega), hz2, if_pos (nI_le (by omega) (by omega))]
    exact Both.no h _
  | succ d ih =>
    intro j n X Y h1 h2 h hz1 hz2 hn
    obtain ⟨n, rfl⟩ : ∃ z, n = z + 1 := ⟨n - 1, by omega⟩
    have hI := h.inv
    have m0 := h.m0
    have x0 := h.xq.1.1
    have h8 := hI.2.1.2
    have ei : (nI i).toNatClampNeg = i := nI_clamp (by omega)
    have ej : (nI j).toNatClampNeg = j := nI_clamp (by omega)
    have eij : (nI (40 * i + j)).toNatClampNeg = 40 * i + j := nI_clamp (by omega)
    simp only [f_X6_load_b35, f_X7_load_b18]
    simp only [gd_t (gS2 hi), hz1, if_neg (nI_ge (show j < z by omega) (show z < 2 ^ 31 by omega)), gd_t gM0, h.rm.at 27 (q := 15) rfl, Option.bind_some, gd_t (gB5 hi), ei, ej, hz2, gd_t gX0, x0, h.xq.2.2.2.2 i hi, gd_t (gSn hi (show j < 40 by omega)), gd_t gX1, hn j (show j < 40 by omega), X1_canBeWonBy h.lg1 hI, X7_isOver h.rm hI, iteB, iteN]
    by_cases c : nP (Y.1 1) < nG (Y.1 1)
    · have g8 : nP (Y.1 1) < 8 := by omega
      simp only [if_pos c, h.rm.at 28 (q := 16) rfl, Option.bind_some, ix40, gd_t (gB6 (show 40 * i + j < 160 by omega)), m0, gd_t gA2, cl2, hI.2.2.1.1, eij]
      rw [X7_plays h.rm (nP (Y.1 1)) rfl g8]
      simp only [Option.bind_some, iteB]
      by_cases c2 : plA (Y.1 1) (Y.1 16 (40 * i + j)) (nP (Y.1 1))
      · obtain ⟨X', e1, e2, e3, e4, e5⟩ := won_step h.lg1 hI h.rm rfl h.told1 c c2
        simp only [if_pos (And.intro c c2), if_pos c2, x0, h.rm.at 28 (q := 16) rfl, h.xq.2.2.2.2 i hi, gd_t (gSn hi (show j < 40 by omega)), gd_t (gB6 (show 40 * i + j < 160 by omega)), Option.bind_some, gd_t gX1, hn j (show j < 40 by omega), e1, e2, nI_1, eij]
        refine ih (j + 1) n X' _ (by omega) (by omega) (h.lg e4 e3 e5) ?_ ?_ (fun k hk => ?_)
        · rw [e4.2 _ (by omega)]
          exact hz1
        · rw [sA_ne (by decide)]
          exact hz2
        · rw [e4.2 _ (by omega), sA_ne (by decide)]
          exact hn k hk
      · simp only [if_neg (fun q : nP (Y.1 1) < nG (Y.1 1) ∧ plA (Y.1 1) (Y.1 16 (40 * i + j)) (nP (Y.1 1)) => c2 q.2), if_neg c2]
        exact Both.no h _
    · simp only [if_neg (fun q : nP (Y.1 1) < nG (Y.1 1) ∧ plA (Y.1 1) (Y.1 16 (40 * i + j)) (nP (Y.1 1)) => c q.1), if_neg c]
      exact Both.no h _
theorem B_load (h : Rel X Y) (a : Int32) : Both (f_X6_load X 0 a) (f_X7_load Y 0 a) := by
  have x6 := h.xq.1.2.2.2.2.2.1
  have hS := h.2.2.2.2.2.2.2.2.2.1
  unfold f_X6_load f_X7_load
  rw [X6_isSheet]
  simp only [Option.bind_some, iteB, gd_t gX0, gd_t gM0, X6_finding h.xq 0 (by decide) 0 rfl]
  by_cases c1 : 0 ≤ a ∧ a ≤ 3
  · simp only [if_pos c1]
    obtain ⟨i, hi, rfl⟩ := nI_at' c1.1 (show (3 : Nat) < 2 ^ 31 by decide) c1.2
    have hi4 : i < 4 := by omega
    obtain ⟨b, z, s1, s2, s3, s4, s5, s6, s7⟩ := hS i hi4
    have ei : (nI i).toNatClampNeg = i := nI_clamp (by omega)
    simp only [x6, Option.bind_some, gd_t (gSh hi4), ei, h.xq.2.2.2.1 i hi4, gd_t (gS2 hi4), X2_isMissing hi4, iteB, s3, X7_lacks hi4 h.rm, s4]
    by_cases c2 : nI b = 0
    · simp only [if_pos c2]
      rw [if_neg (by decide), X6_finding h.xq 5 (by decide) 5 rfl, X7_finding h.rm 5 (by decide) 5 rfl]
      exact Both.fin h 5 _
    · simp only [if_neg c2]
      rw [if_pos (by decide)]
      exact load_loop hi4 s2 z 0 1000 X Y (by omega) (by omega) h s5 s6 s7
  · simp only [if_neg c1, X7_lacksN c1, Option.bind_some]
    rw [if_neg (by decide), X7_finding h.rm 0 (by decide) 0 rfl]
    exact Both.fin h 0 _
/-- the trial league of the class holds the row of the reference -/
def TR (X Y : Mm) (s : Nat → Int32) : Prop := XF X ∧ LG X 38 s T0 ∧ Inv s ∧ RM Y ∧ Y.1 1 = s ∧ (told Y).1 = -1
theorem TR.step {s : Nat → Int32} (h : TR X Y s) {X' : Mm} {s' : Nat → Int32} (hF : FR 38 X X') (hL : LG X' 38 s' T0) (hI : Inv s') : TR X' (sA Y 1 s') s' :=
  ⟨h.1.at (by rw [hF.1]), hL, hI, h.2.2.2.1.sA, sA_at, h.2.2.2.2.2⟩
theorem remA (j : Nat) (hj : j < 2 ^ 30) : nI j - nI j / 2 * 2 = nI (j % 2) := pk_rem (d := 2) (by omega) (by decide) (by decide)
theorem judge_loop {i z : Nat} (hi : i < 4) (hz : z ≤ 40) : ∀ (d j n n' : Nat) (X Y : Mm) (s : Nat → Int32), j % 2 = 0 → z ≤ j + d → d < n → 2 * d + 2 < n' → j < 100 → TR X Y s → X.1 (65 + 2 * i) 2 = nI z → Y.1 15 i = nI z → (∀ k, k < 40 → X.1 (66 + 2 * i) k = Y.1 16 (40 * i + k)) →
    ∃ X' s' r, f_X6_judge_b46 n X 0 (65 + 2 * i) (nI j) = some (X', r) ∧ FR 38 X X' ∧ GB X' 38 ∧ f_X7_judge_b32 n' Y 0 (nI i) (nI j) 1 = some (sA Y 1 (cpA (Y.1 3) s'), r) := by
  have carryB : ∀ (Y : Mm) (s : Nat → Int32) (q : Int32) (x : Int32), RM Y → Y.1 1 = s → x = 0 → f_X7_judge_b150 Y 0 q x = some (sA Y 1 (cpA (Y.1 3) s), 1 + q) := by
    intro Y s q x hM hs hx
    unfold f_X7_judge_b150 f_X7_judge_b176
    rw [gd_t gM0, hM.at 2 rfl, Option.bind_some, hM.at 0 rfl, Option.bind_some, X7_carry (by decide) (by decide) (by decide), Option.bind_some, if_pos hx, hs]
  have carryC : ∀ (Y : Mm) (s : Nat → Int32) (q : Nat), RM Y → Y.1 1 = s → q < 2 ^ 30 → f_X7_judge_b150 Y 0 (nI q) 1 = some (sA Y 1 (cpA (Y.1 3) s), if q % 2 = 0 then 0 else 1 + nI q) := by
    intro Y s q hM hs hq
    unfold f_X7_judge_b150 f_X7_judge_b176
    rw [gd_t gM0, hM.at 2 rfl, Option.bind_some, hM.at 0 rfl, Option.bind_some, X7_carry (by decide) (by decide) (by decide), Option.bind_some, if_neg (by decide), hs, remA q hq]
    rcases Nat.mod_two_eq_zero_or_one q with e | e
    · rw [e, if_pos (show nI 0 = (0 : Int32) from rfl), if_pos rfl]
    · rw [e, if_neg (by decide), if_neg (by decide)]
  intro d
  induction d with
  | zero =>
    intro j n n' X Y s hev h1 h2 h3 hj100 h hz1 hz2 hn
    obtain ⟨n, rfl⟩ : ∃ z, n = z + 1 := ⟨n - 1, by omega⟩
    obtain ⟨n', rfl⟩ : ∃ z, n' = z + 1 := ⟨n' - 1, by omega⟩
    obtain ⟨t1, t2, t3, t4, t5, t6⟩ := h
    refine ⟨X, s, 0, ?_, fr_rf, t2.2.2.2.2.2.2.2, ?_⟩
    · simp only [f_X6_judge_b46]
      rw [gd_t (gS2 hi), hz1, if_pos (nI_le (by omega) (by omega))]
    · simp only [f_X7_judge_b32]
      rw [gd_t gM0, t4.at 27 rfl, Option.bind_some, gd_t (gB5 hi), nI_clamp (by omega), hz2, if_pos (nI_le (by omega) (by omega)), carryC Y s j t4 t5 (by omega), if_pos hev]
  | succ d ih =>
    intro j n n' X Y s hev h1 h2 h3 hj100 h hz1 hz2 hn
    by_cases hjz : z ≤ j
    · obtain ⟨n, rfl⟩ : ∃ z, n = z + 1 := ⟨n - 1, by omega⟩
      obtain ⟨n', rfl⟩ : ∃ z, n' = z + 1 := ⟨n' - 1, by omega⟩
      obtain ⟨t1, t2, t3, t4, t5, t6⟩ := h
      refine ⟨X, s, 0, ?_, fr_rf, t2.2.2.2.2.2.2.2, ?_⟩
      · simp only [f_X6_judge_b46]
        rw [gd_t (gS2 hi), hz1, if_pos (nI_le (by omega) (by omega))]
      · simp only [f_X7_judge_b32]
        rw [gd_t gM0, t4.at 27 rfl, Option.bind_some, gd_t (gB5 hi), nI_clamp (by omega), hz2, if_pos (nI_le (by omega) (by omega)), carryC Y s j t4 t5 (by omega), if_pos hev]
    obtain ⟨n, rfl⟩ : ∃ z, n = z + 1 := ⟨n - 1, by omega⟩
    obtain ⟨n', rfl⟩ : ∃ z, n' = z + 1 + 1 := ⟨n' - 2, by omega⟩
    obtain ⟨t1, t2, t3, t4, t5, t6⟩ := id h
    have m0 : Y.2.2 0 0 = some 1 := t4.at 0 rfl
    have m27 : Y.2.2 0 27 = some 15 := t4.at 27 rfl
    have m28 : Y.2.2 0 28 = some 16 := t4.at 28 rfl
    have x4 := t1.1.1.2.2.2.1
    have h8 := t3.2.1.2
    have ei : (nI i).toNatClampNeg = i := nI_clamp (by omega)
    have ej : (nI j).toNatClampNeg = j := nI_clamp (by omega)
    have ej1 : (nI (j + 1)).toNatClampNeg = j + 1 := nI_clamp (by omega)
    have eij : (nI (40 * i + j)).toNatClampNeg = 40 * i + j := nI_clamp (by omega)
    have eij1 : (nI (40 * i + (j + 1))).toNatClampNeg = 40 * i + (j + 1) := nI_clamp (by omega)
    have hsp : nP (Y.1 1) = nP s := by rw [t5]
    have hI1 : Inv (Y.1 1) := by rw [t5]; exact t3
    have hov := X7_isOver t4 hI1
    rw [t5] at hov
    have hp2 : Y.1 1 2 = nI (nP s) := by rw [t5]; exact t3.2.2.1.1
    have r0 : nI j - nI j / 2 * 2 = 0 := by
      rw [remA j (by omega), hev]
      rfl
    have r1 : ¬ nI (j + 1) - nI (j + 1) / 2 * 2 = 0 := by
      rw [remA (j + 1) (by omega), show (j + 1) % 2 = 1 by omega]
      decide
    -- the second turn of the reference's loop
    have bad : ∀ (Y : Mm) (s : Nat → Int32) (q : Nat), q ≤ j + 1 → RM Y → Y.1 1 = s → f_X7_judge_b32 (n' + 1) Y 0 (nI i) (nI q) 0 = some (sA Y 1 (cpA (Y.1 3) s), 1 + nI q) := by
      intro Y s q hq hM hs
      simp only [f_X7_judge_b32]
      rw [gd_t gM0, hM.at 27 rfl, Option.bind_some, gd_t (gB5 hi)]
      split
      · exact carryB Y s _ _ hM hs rfl
      · rw [if_pos trivial]
        exact carryB Y s _ _ hM hs rfl
    have hXl : f_X6_judge_b46 (n + 1) X 0 (65 + 2 * i) (nI j) = (if nP s < nG s ∧ plA s (Y.1 16 (40 * i + j)) (nP s) then Option.bind (f_X1_playWonBy X 38 (Y.1 16 (40 * i + j))) (fun r13 => if r13.1.1 (65 + 2 * i) 2 ≤ nI (j + 1) then f_X6_judge_b112 r13.1 (nI j) else (Option.bind (r13.1.2.2 (65 + 2 * i) 0) (fun q16 => gd (okA nX shX q16 8 (nI (j + 1))) (if r13.1.1 q16 (nI (j + 1)).toNatClampNeg = r13.2 then (f_X6_judge_b46 n r13.1 0 (65 + 2 * i) (nI j + (2 : Int32))) else f_X6_judge_b112 r13.1 (nI j))))) else some (X, 1 + nI j)) := by
      simp only [f_X6_judge_b46]
      simp only [gd_t (gS2 hi), hz1, if_neg (nI_ge (show j < z by omega) (show z < 2 ^ 31 by omega)), gd_t gX0, x4, Option.bind_some, t1.1.2.2.2.2 i hi, gd_t (gSn hi (show j < 40 by omega)), gd_t gX38, ej, hn j (show j < 40 by omega), X1_canBeWonBy t2 t3, iteB, nI_1]
    have hYl : f_X7_judge_b32 (n' + 1 + 1) Y 0 (nI i) (nI j) 1 = (if nP s < nG s then Option.bind (f_X7_plays Y 0 (Y.1 16 (40 * i + j)) (nI (nP s))) (fun r28 => if r28.2 = 0 then f_X7_judge_b92 (f_X7_judge_b32 (n' + 1)) r28.1 0 (nI i) (nI j) (Y.1 16 (40 * i + j)) else f_X7_judge_b93 (f_X7_judge_b32 (n' + 1)) r28.1 0 (nI i) (nI j) (Y.1 16 (40 * i + j)) 1) else f_X7_judge_b92 (f_X7_judge_b32 (n' + 1)) Y 0 (nI i) (nI j) (Y.1 16 (40 * i + j))) := by
      rw [f_X7_judge_b32.eq_def]
      simp only [gd_t gM0, m27, m28, m0, Option.bind_some, gd_t (gB5 hi), ei, hz2, if_neg (nI_ge (show j < z by omega) (show z < 2 ^ 31 by omega)), if_neg (show ¬ (1 : Int32) = 0 by decide), ix40, gd_t (gB6 (show 40 * i + j < 160 by omega)), eij, lt, if_pos r0, hov, iteN, gd_t gA2, cl2, hp2]
    have bad0 : f_X7_judge_b92 (f_X7_judge_b32 (n' + 1)) Y 0 (nI i) (nI j) (Y.1 16 (40 * i + j)) = some (sA Y 1 (cpA (Y.1 3) s), 1 + nI j) := by
      unfold f_X7_judge_b92 f_X7_judge_b93 f_X7_judge_b134 f_X7_judge_b145
      rw [if_pos rfl, if_pos rfl, Int32.add_zero]
      exact bad Y s j (by omega) t4 t5
    rw [hXl, hYl]
    by_cases c : nP s < nG s
    · have g8 : nP s < 8 := by omega
      rw [if_pos c, X7_plays t4 (nP s) rfl g8, Option.bind_some]
      simp only [iteB]
      rw [t5]
      by_cases c2 : plA s (Y.1 16 (40 * i + j)) (nP s)
      · obtain ⟨X', e1, e2, e3, e4, e5⟩ := won_step t2 t3 t4 t5 t6 c c2
        have hz1' : X'.1 (65 + 2 * i) 2 = nI z := by rw [e4.2 _ (by omega)]; exact hz1
        have xs0 : X'.2.2 (65 + 2 * i) 0 = some (66 + 2 * i) := by rw [e4.1]; exact t1.1.2.2.2.2 i hi
        have hn' : ∀ k, k < 40 → X'.1 (66 + 2 * i) k = (sA Y 1 (wonA s T0 (Y.1 16 (40 * i + j)))).1 16 (40 * i + k) := fun k hk => by
          rw [e4.2 _ (by omega), sA_ne (by decide)]
          exact hn k hk
        have t' := h.step e4 e3 e5
        have hgiv : gO (wonA s T0 (Y.1 16 (40 * i + j))) (nP s) 4 = givA s (nP s) (Y.1 16 (40 * i + j)) := winA_g4
        have hw2 : wonA s T0 (Y.1 16 (40 * i + j)) 2 = nI (nP s + 1) := by
          unfold wonA
          rw [winA_2, t3.2.2.1.1, nI_1]
          rw [nI_clampS (s := s) (k := 2) t3.2.2.1.1 (by omega)] at *
        rw [if_pos ⟨c, c2⟩, if_pos c2, e1, Option.bind_some]
        unfold f_X7_judge_b93
        rw [if_neg (show ¬ (1 : Int32) = 0 by decide), gd_t gM0, e2, Option.bind_some]
        unfold f_X7_judge_b134 f_X7_judge_b145
        rw [if_neg (show ¬ (1 : Int32) = 0 by decide), nI_1]
        dsimp only
        rw [hz1']
        have back : ∀ w, sA (sA Y 1 w) 1 (cpA ((sA Y 1 w).1 3) w) = sA Y 1 (cpA (Y.1 3) w) := fun w => by rw [sA_sA, sA_ne (by decide)]
        by_cases c3 : z ≤ j + 1
        · rw [if_pos (nI_le c3 (by omega))]
          refine ⟨X', wonA s T0 (Y.1 16 (40 * i + j)), _, rfl, e4, e3.2.2.2.2.2.2.2, ?_⟩
          rw [f_X7_judge_b32.eq_def]
          simp only [gd_t gM0, t'.2.2.2.1.at 27 (q := 15) rfl, Option.bind_some, gd_t (gB5 hi), ei]
          rw [sA_ne (by decide), hz2, if_pos (nI_le c3 (by omega)), carryC _ _ (j + 1) t'.2.2.2.1 sA_at (by omega), if_neg (by omega), back]
          congr 2
          rw [← nI_1, Int32.add_assoc]
        · rw [if_neg (nI_ge (show j + 1 < z by omega) (by omega)), xs0, Option.bind_some, gd_t (gSn hi (by omega)), ej1, hn' (j + 1) (by omega)]
          have hYm : f_X7_judge_b32 (n' + 1) (sA Y 1 (wonA s T0 (Y.1 16 (40 * i + j)))) 0 (nI i) (nI (j + 1)) 1 = (if (sA Y 1 (wonA s T0 (Y.1 16 (40 * i + j)))).1 16 (40 * i + (j + 1)) = givA s (nP s) (Y.1 16 (40 * i + j)) then f_X7_judge_b32 n' (sA Y 1 (wonA s T0 (Y.1 16 (40 * i + j)))) 0 (nI i) (nI (j + 2)) 1 else f_X7_judge_b32 n' (sA Y 1 (wonA s T0 (Y.1 16 (40 * i + j)))) 0 (nI i) (nI (j + 1)) 0) := by
            rw [f_X7_judge_b32.eq_def]
            simp only [gd_t gM0, t'.2.2.2.1.at 27 (q := 15) rfl, t'.2.2.2.1.at 28 (q := 16) rfl, t'.2.2.2.1.at 0 (q := 1) rfl, Option.bind_some, gd_t (gB5 hi), ei, if_neg (show ¬ (1 : Int32) = 0 by decide), ix40, gd_t (gB6 (show 40 * i + (j + 1) < 160 by omega)), eij1, lt, if_neg r1, gd_t gA2, cl2]
            rw [sA_ne (show 15 ≠ 1 by decide), hz2, if_neg (nI_ge (show j + 1 < z by omega) (by omega)), sA_at, hw2, nI_pred, X7_of t'.2.2.2.1 (nI _) 4 (nP s) 4 rfl rfl g8 (by decide), sA_at, hgiv]
            simp only [Option.bind_some]
            unfold f_X7_judge_b132 f_X7_judge_b134 f_X7_judge_b145
            split
            · rw [if_neg (by decide), nI_1]
            · rw [if_pos rfl, Int32.add_zero]
          rw [hYm]
          by_cases c4 : (sA Y 1 (wonA s T0 (Y.1 16 (40 * i + j)))).1 16 (40 * i + (j + 1)) = givA s (nP s) (Y.1 16 (40 * i + j))
          · rw [if_pos c4, if_pos c4]
            obtain ⟨X2, s2, r, g1, g2, g3, g4⟩ := ih (j + 2) n n' X' (sA Y 1 (wonA s T0 (Y.1 16 (40 * i + j)))) _ (by omega) (by omega) (by omega) (by omega) (by omega) t' hz1' (by rw [sA_ne (by decide)]; exact hz2) hn'
            refine ⟨X2, s2, r, ?_, fr_tr e4 g2, g3, ?_⟩
            · rw [show nI j + (2 : Int32) = nI (j + 2) from nI_add j 2]
              exact g1
            · rw [g4, sA_sA, sA_ne (by decide)]
          · rw [if_neg c4, if_neg c4]
            refine ⟨X', wonA s T0 (Y.1 16 (40 * i + j)), _, rfl, e4, e3.2.2.2.2.2.2.2, ?_⟩
            obtain ⟨n', rfl⟩ : ∃ z, n' = z + 1 := ⟨n' - 1, by omega⟩
            simp only [f_X7_judge_b32]
            rw [gd_t gM0, t'.2.2.2.1.at 27 rfl, Option.bind_some, gd_t (gB5 hi), if_pos trivial, ite_self, carryB _ _ _ _ t'.2.2.2.1 sA_at rfl, back]
            congr 2
            rw [← nI_1, Int32.add_assoc]
      · rw [if_neg (fun q => c2 q.2), if_neg c2, bad0]
        exact ⟨X, s, _, rfl, fr_rf, t2.2.2.2.2.2.2.2, rfl⟩
    · rw [if_neg (fun q => c q.1), if_neg c, bad0]
      exact ⟨X, s, _, rfl, fr_rf, t2.2.2.2.2.2.2.2, rfl⟩
theorem FR.out {b : Nat} {M M' : Mm} (h : FR b M M') : M'.2.2 = M.2.2 := by rw [h.1]
/-- the trial league becomes the league -/
theorem become38 (h : Rel X Y) : ∃ X', f_X1_become X 38 1 = some (X', ()) ∧ LG X' 38 (Y.1 1) T0 ∧ FR 38 X X' :=
  X1_become (a := 38) h.lg1 h.inv (Or.inr (Or.inr rfl)) (by decide) h.1.2.2.2 h.2.2.2.2.2.1
theorem B_judge (h : Rel X Y) (a : Int32) : Both (f_X6_judge X 0 a) (f_X7_judge Y 0 a) := by
  have hI := h.inv
  have m0 := h.m0
  have x0 := h.xq.1.1
  have x4 := h.xq.1.2.2.2.1
  have x6 := h.xq.1.2.2.2.2.2.1
  have hS := h.2.2.2.2.2.2.2.2.2.1
  unfold f_X6_judge f_X7_judge
  rw [X6_isSheet]
  simp only [Option.bind_some, iteB, gd_t gX0, gd_t gM0, X6_finding h.xq 0 (by decide) 0 rfl]
  by_cases c1 : 0 ≤ a ∧ a ≤ 3
  · simp only [if_pos c1]
    obtain ⟨i, hi, rfl⟩ := nI_at' c1.1 (show (3 : Nat) < 2 ^ 31 by decide) c1.2
    have hi4 : i < 4 := by omega
    obtain ⟨b, z, s1, s2, s3, s4, s5, s6, s7⟩ := hS i hi4
    have ei : (nI i).toNatClampNeg = i := nI_clamp (by omega)
    simp only [x6, Option.bind_some, gd_t (gSh hi4), ei, h.xq.2.2.2.1 i hi4, gd_t (gS2 hi4), X2_isMissing hi4, iteB, s3, X7_lacks hi4 h.rm, s4]
    by_cases c2 : nI b = 0
    · simp only [if_pos c2]
      rw [if_neg (by decide), X6_finding h.xq 5 (by decide) 5 rfl, X7_finding h.rm 5 (by decide) 5 rfl]
      exact Both.fin h 5 _
    · simp only [if_neg c2]
      obtain ⟨X1, e1, e2, e3⟩ := become38 h
      rw [if_pos (show (-1 : Int32) < 0 by decide), x4, x0, m0, h.rm.at 2 rfl]
      simp only [Option.bind_some, gd_t gX38, e1]
      rw [X7_carry (by decide) (by decide) (by decide), Option.bind_some]
      dsimp only
      have tr : TR X1 (sA Y 3 (cpA (Y.1 1) (Y.1 3))) (Y.1 1) := ⟨h.1.at e3.out, e2, hI, h.rm, sA_ne (by decide), h.told1⟩
      obtain ⟨X', s', r, f1, f2, f3, f4⟩ := judge_loop hi4 s2 z 0 1000 1000 X1 (sA Y 3 (cpA (Y.1 1) (Y.1 3))) (Y.1 1) (by decide) (by omega) (by omega) (by omega) (by decide) tr (by rw [e3.2 _ (by omega)]; exact s5) (by rw [sA_ne (by decide)]; exact s6) (fun k hk => by rw [e3.2 _ (by omega), sA_ne (by decide)]; exact s7 k hk)
      rw [show f_X6_judge_b46 1000 X1 0 (65 + 2 * i) 0 = _ from f1, show f_X7_judge_b32 1000 (sA Y 3 (cpA (Y.1 1) (Y.1 3))) 0 (nI i) 0 1 = _ from f4]
      have hF := fr_tr e3 f2
      have sm : Sim (Y.1 1) (cpA ((sA Y 3 (cpA (Y.1 1) (Y.1 3))).1 3) s') := Sim.of89 (fun k hk => by rw [cpA_in hk, sA_at, cpA_in hk])
      refine ⟨_, _, _, rfl, rfl, h.aside hF.out (fun o ho => hF.2 o (by omega)) f3 rfl ?_ ?_ (fun o ho => by rw [sA_ne (by omega), sA_ne (by omega)]) (by rw [sA_ne (by decide), sA_ne (by decide)]) (by rw [sA_ne (by decide), sA_ne (by decide)]) (by rw [sA_ne (by decide), sA_ne (by decide)]; exact h.told1)⟩
      · rw [sA_at]
        exact sm.inv hI
      · rw [sA_at]
        exact h.2.2.2.1.sim hI sm
  · simp only [if_neg c1, X7_lacksN c1, Option.bind_some]
    rw [if_neg (by decide), X7_finding h.rm 0 (by decide) 0 rfl]
    exact Both.fin h 0 _
end MM

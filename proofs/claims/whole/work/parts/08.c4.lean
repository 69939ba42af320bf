theorem okS' {k : Nat} (hk : k < 89) : okA nM shM 1 8 (nI k) := okS rfl hk
/-- a new side, a new game: the row -/
def adS (s : Nat → Int32) (k st te : Int32) : Nat → Int32 := upd (upd (upd (upd s (5 + 3 * nS s + 0) k) (5 + 3 * nS s + 1) st) (5 + 3 * nS s + 2) te) 0 (s 0 + 1)
def adG (s : Nat → Int32) (a c w : Int32) : Nat → Int32 := upd (upd (upd (upd (upd (upd (upd (upd s (23 + 7 * nG s + 0) a) (23 + 7 * nG s + 1) c) (23 + 7 * nG s + 2) w) (23 + 7 * nG s + 3) 0) (23 + 7 * nG s + 4) 0) (23 + 7 * nG s + 5) 0) (23 + 7 * nG s + 6) 0) 1 (s 1 + 1)
theorem X7_addSide {M : Mm} (hM : RM M) (h0 : M.1 1 0 = nI (nS (M.1 1))) (h6 : nS (M.1 1) < 6) (k st te : Int32) : f_X7_addSide M 0 k st te = some (sA M 1 (adS (M.1 1) k st te), ()) := by
  have hp' : M.1 1 (0 : Int32).toNatClampNeg = nI (nS (M.1 1)) := by rw [cl0]; exact h0
  generalize hn : nS (M.1 1) = n at *
  have e0 : (5 : Int32) + ((3 : Int32) * nI n) = nI (5 + 3 * n) := by
    rw [show (5 : Int32) = nI 5 from rfl, show (3 : Int32) = nI 3 from rfl, pk_mul, nI_add]
  have i0 : nI (5 + 3 * n) + (0 : Int32) = nI (5 + 3 * n + 0) := ix_add rfl 0 rfl
  have i1 : nI (5 + 3 * n) + (1 : Int32) = nI (5 + 3 * n + 1) := ix_add rfl 1 rfl
  have i2 : nI (5 + 3 * n) + (2 : Int32) = nI (5 + 3 * n + 2) := ix_add rfl 2 rfl
  unfold f_X7_addSide
  rw [gd_t (by decide), hM.at 0 rfl, Option.bind_some, gd_t (by decide), hp', e0]
  simp only [lt]
  rw [Option.bind_some, i0, i1, i2, gd_t (okS' (by omega)), nI_clamp (by omega), sI_sA, hM.sA.at 0 rfl, Option.bind_some, gd_t (okS' (by omega)), nI_clamp (by omega), sI_sA2, hM.sA.at 0 rfl, Option.bind_some, gd_t (okS' (by omega)), nI_clamp (by omega), sI_sA2, hM.sA.at 0 rfl, Option.bind_some, gd_t (by decide), gd_t (by decide), cl0, sI_sA2, sA_at]
  unfold adS
  rw [hn]
  have q2 : upd (upd (upd (M.1 1) (5 + 3 * n + 0) k) (5 + 3 * n + 1) st) (5 + 3 * n + 2) te 0 = M.1 1 0 := by
    rw [pk_un (by omega), pk_un (by omega), pk_un (by omega)]
  rw [q2]
theorem X7_addGame {M : Mm} (hM : RM M) (h1 : M.1 1 1 = nI (nG (M.1 1))) (h8 : nG (M.1 1) < 8) (a c w : Int32) : f_X7_addGame M 0 a c w = some (sA M 1 (adG (M.1 1) a c w), ()) := by
  have hp' : M.1 1 (1 : Int32).toNatClampNeg = nI (nG (M.1 1)) := by rw [cl1]; exact h1
  generalize hn : nG (M.1 1) = n at *
  have e0 : (23 : Int32) + ((7 : Int32) * nI n) = nI (23 + 7 * n) := by
    rw [show (23 : Int32) = nI 23 from rfl, show (7 : Int32) = nI 7 from rfl, pk_mul, nI_add]
  have i0 : nI (23 + 7 * n) + (0 : Int32) = nI (23 + 7 * n + 0) := ix_add rfl 0 rfl
  have i1 : nI (23 + 7 * n) + (1 : Int32) = nI (23 + 7 * n + 1) := ix_add rfl 1 rfl
  have i2 : nI (23 + 7 * n) + (2 : Int32) = nI (23 + 7 * n + 2) := ix_add rfl 2 rfl
  have i3 : nI (23 + 7 * n) + (3 : Int32) = nI (23 + 7 * n + 3) := ix_add rfl 3 rfl
  have i4 : nI (23 + 7 * n) + (4 : Int32) = nI (23 + 7 * n + 4) := ix_add rfl 4 rfl
  have i5 : nI (23 + 7 * n) + (5 : Int32) = nI (23 + 7 * n + 5) := ix_add rfl 5 rfl
  have i6 : nI (23 + 7 * n + 5) + (1 : Int32) = nI (23 + 7 * n + 6) := ix_add rfl 1 rfl
  unfold f_X7_addGame
  rw [gd_t (by decide), hM.at 0 rfl, Option.bind_some, gd_t (by decide), hp', e0]
  simp only [lt]
  rw [Option.bind_some, i0, i1, i2, i3, i4, i5, i6, gd_t (okS' (by omega)), nI_clamp (by omega), sI_sA, hM.sA.at 0 rfl, Option.bind_some, gd_t (okS' (by omega)), nI_clamp (by omega), sI_sA2, hM.sA.at 0 rfl, Option.bind_some, gd_t (okS' (by omega)), nI_clamp (by omega), sI_sA2, hM.sA.at 0 rfl, Option.bind_some, gd_t (okS' (by omega)), nI_clamp (by omega), sI_sA2, hM.sA.at 0 rfl, Option.bind_some, gd_t (okS' (by omega)), nI_clamp (by omega), sI_sA2, hM.sA.at 0 rfl, Option.bind_some, gd_t (okS' (by omega)), nI_clamp (by omega), sI_sA2, hM.sA.at 0 rfl, Option.bind_some, gd_t (okS' (by omega)), nI_clamp (by omega), sI_sA2, hM.sA.at 0 rfl, Option.bind_some, gd_t (by decide), gd_t (by decide), cl1, sI_sA2, sA_at]
  unfold adG
  rw [hn]
  have q2 : upd (upd (upd (upd (upd (upd (upd (M.1 1) (23 + 7 * n + 0) a) (23 + 7 * n + 1) c) (23 + 7 * n + 2) w) (23 + 7 * n + 3) 0) (23 + 7 * n + 4) 0) (23 + 7 * n + 5) 0) (23 + 7 * n + 6) 0 1 = M.1 1 1 := by
    rw [pk_un (by omega), pk_un (by omega), pk_un (by omega), pk_un (by omega), pk_un (by omega), pk_un (by omega), pk_un (by omega)]
  rw [q2]
theorem X7_draw {M : Mm} (hM : RM M) : f_X7_draw M 0 = some (sA M 1 (upd (M.1 1) 4 (zA (M.1 1))), drA (M.1 1)) := by
  unfold f_X7_draw
  rw [gd_t (by decide), hM.at 0 rfl, Option.bind_some, Option.bind_some, gd_t (by decide), gd_t (by decide)]
  simp only [lt]
  rw [sI_sA, hM.sA.at 0 rfl, Option.bind_some, gd_t (by decide), sA_at, cl4, pk_us]
  rfl
/-- no side of a number that plays has neither points nor a streak -/
theorem none_new {s : Nat → Int32} {k : Int32} : ∀ g, (∀ h, h < g → ¬ plA s k h ∧ ¬ gO s h 4 = k) → ptsA s g k = 0 ∧ stkA s g k = 0 ∧ tirA s g k = 0 := by
  intro g
  induction g with
  | zero => intro _; exact ⟨rfl, rfl, rfl⟩
  | succ g ih =>
    intro hh
    obtain ⟨a1, a2, a3⟩ := ih (fun h hl => hh h (by omega))
    obtain ⟨c1, c2⟩ := hh g (by omega)
    refine ⟨?_, ?_, ?_⟩
    · simp only [ptsA, if_neg c2, a1]
      rfl
    · simp only [stkA, if_neg c1, a2]
    · simp only [tirA, if_neg c1, a3]
theorem Inv.newS {s : Nat → Int32} (hI : Inv s) {i : Nat} (hi : nS s ≤ i) (h31 : i < 2 ^ 31) : ptsA s (nP s) (nI i) = 0 ∧ stkA s (nP s) (nI i) = 0 ∧ tirA s (nP s) (nI i) = 0 := by
  have h6 := hI.1.2
  have hpg := hI.2.2.1.2
  refine none_new (nP s) (fun h hl => ?_)
  obtain ⟨q0, q1, q2, q3, -, -⟩ := hI.2.2.2.2.1 h (by omega)
  have d0 : ¬ gO s h 0 = nI i := fun z => by rw [q0] at z; exact absurd ((nI_eq (by omega) h31).mp z) (by omega)
  have d1 : ¬ gO s h 1 = nI i := fun z => by rw [q1] at z; exact absurd ((nI_eq (by omega) h31).mp z) (by omega)
  refine ⟨fun z => z.elim d0 d1, fun z => ?_⟩
  rcases (hI.2.2.2.2.2.1 h hl).2 with e | e
  · exact d0 (e.symm.trans z)
  · exact d1 (e.symm.trans z)
section AS
variable {s : Nat → Int32} {k st te : Int32}
theorem adS_ne {x : Nat} (h0 : x ≠ 0) (h : x < 5 + 3 * nS s ∨ 5 + 3 * nS s + 2 < x) : adS s k st te x = s x := by
  unfold adS
  rw [pk_un h0, pk_un (by omega), pk_un (by omega), pk_un (by omega)]
theorem adS_nS (h0 : s 0 = nI (nS s)) (h6 : nS s < 6) : nS (adS s k st te) = nS s + 1 := by
  show (adS s k st te 0).toNatClampNeg = nS s + 1
  unfold adS
  rw [pk_us, h0, nI_1, nI_clamp (by omega)]
theorem adS_sO {i j : Nat} (hi : i ≠ nS s) (hj : j < 3) (hi6 : i < 6) : sO (adS s k st te) i j = sO s i j := by
  unfold sO
  exact adS_ne (by omega) (by omega)
theorem adS_new : sO (adS s k st te) (nS s) 0 = k ∧ sO (adS s k st te) (nS s) 1 = st ∧ sO (adS s k st te) (nS s) 2 = te := by
  unfold sO adS
  refine ⟨?_, ?_, ?_⟩
  · rw [pk_un (by omega), pk_un (by omega), pk_un (by omega), pk_us]
  · rw [pk_un (by omega), pk_un (by omega), pk_us]
  · rw [pk_un (by omega), pk_us]
theorem adS_gO {g j : Nat} (h6 : nS s < 6) : gO (adS s k st te) g j = gO s g j := adS_ne (by omega) (by omega)
theorem Inv.addS (hI : Inv s) (h6 : nS s < 6) (hk : ∃ n, n ≤ 6 ∧ k = nI n) (hst : ∃ n, 1 ≤ n ∧ n ≤ 9 ∧ st = nI n) (hte : ∃ n, n ≤ 9 ∧ te = nI n) : Inv (adS s k st te) := by
  have eG : nG (adS s k st te) = nG s := by unfold nG; rw [adS_ne (by decide) (by omega)]
  have eP : nP (adS s k st te) = nP s := by unfold nP; rw [adS_ne (by decide) (by omega)]
  have eL : lW (adS s k st te) = lW s := by unfold lW; rw [adS_ne (by decide) (by omega)]
  have eF : ∀ g, fI (adS s k st te) g = fI s g := fun g => by unfold fI; rw [adS_gO h6]
  have eO : ∀ g, oI (adS s k st te) g = oI s g := fun g => by unfold oI; rw [adS_gO h6]
  have e0 : adS s k st te 0 = nI (nS s + 1) := by
    unfold adS
    rw [pk_us, hI.1.1, nI_1]
    rw [nI_clampS (s := s) (k := 0) hI.1.1 (by omega)] at *
  unfold Inv
  simp only [adS_nS hI.1.1 h6, eG, eP, eL, eF, eO, adS_gO h6, e0]
  refine ⟨⟨trivial, h6⟩, ⟨?_, hI.2.1.2⟩, ⟨?_, hI.2.2.1.2⟩, ⟨?_, hI.2.2.2.1.2⟩, ?_, hI.2.2.2.2.2.1, ?_, ?_⟩
  · rw [adS_ne (by decide) (by omega)]; exact hI.2.1.1
  · rw [adS_ne (by decide) (by omega)]; exact hI.2.2.1.1
  · rw [adS_ne (by decide) (by omega)]; exact hI.2.2.2.1.1
  · intro g hg
    obtain ⟨a, b, c, d, e, f⟩ := hI.2.2.2.2.1 g hg
    exact ⟨a, b, by omega, by omega, e, f⟩
  · intro i hi
    by_cases c : i = nS s
    · subst c
      obtain ⟨a1, a2, a3⟩ := adS_new (s := s) (k := k) (st := st) (te := te)
      rw [a1, a2, a3]
      obtain ⟨n1, x1, y1⟩ := hk
      obtain ⟨n2, x2, x3, y2⟩ := hst
      obtain ⟨n3, x4, y3⟩ := hte
      exact ⟨n1, n2, n3, x1, x2, x3, x4, y1, y2, y3⟩
    · rw [adS_sO c (by decide) (by omega), adS_sO c (by decide) (by omega), adS_sO c (by decide) (by omega)]
      exact hI.2.2.2.2.2.2.1 i (by omega)
  · intro j hj
    rw [adS_ne (by omega) (by omega)]
    rcases hI.2.2.2.2.2.2.2 j hj with z | ⟨i, z1, z2⟩
    · exact Or.inl z
    · exact Or.inr ⟨i, by omega, z2⟩
end AS

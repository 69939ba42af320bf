section MM
variable {X Y : Mm}
theorem B_kindFor (h : Rel X Y) (a : Int32) : Both (f_X6_kindFor X 0 a) (f_X7_kindFor Y 0 a) := by
  have hI := h.inv
  have h6 := hI.1.2
  have x0 := h.xq.1.1
  unfold f_X6_kindFor f_X7_kindFor
  simp only [gd_t gX0, gd_t gM0, x0, Option.bind_some, gd_t gX1, X1_hasSide h.lg1 hI, X7_isSide h.rm hI, iteB, X6_finding h.xq 0 (by decide) 0 rfl, X7_finding h.rm 0 (by decide) 0 rfl]
  by_cases c1 : 0 ≤ a ∧ a < nI (nS (Y.1 1))
  · obtain ⟨i, hi, rfl⟩ := nI_at c1.1 (by omega) c1.2
    simp only [if_pos c1]
    obtain ⟨X', Y', r, e1, e2, e3⟩ := laid_both h (i := i) (p := 5 + 3 * i + 0) (lo := 0) (hi := 6) (wh := 0) hi (by omega) (by omega) (by decide) (by decide) (fun v _ h2 s hs his => hs.sd his (Or.inl ⟨rfl, h2⟩)) (fun v _ _ X s' hF hL hs' his => by
      have h6' := hs'.1.2
      obtain ⟨q1, q2⟩ := LG_sd hL hs' his (k := 0) (by decide) (nI v)
      refine ⟨_, ?_, q2, q1⟩
      unfold f_X6_suppose
      rw [if_pos rfl, gd_t gX0, hF.1.1.2.2.2.1, Option.bind_some, gd_t gX38, show X.2.2 38 0 = some 39 from hL.2.1.1.1, Option.bind_some, gd_t (show okA nX shX 39 10 (nI i) from okSr (b := 38) hL.1 (by omega)), show X.2.2 39 (nI i).toNatClampNeg = some (42 + i) from hL.2.1.sd (by omega), Option.bind_some, gd_t (show ok nX shX (42 + i) 3 from okSo (b := 38) hL.1 (by omega))]
      rfl)
    rw [show (((5 : Int32) + ((3 : Int32) * nI i)) + (0 : Int32)) = nI (5 + 3 * i + 0) from ix3 i 0, show f_X6_greatestMean X 0 (nI i) 0 0 6 = _ from e1, show f_X7_bestLaid Y 0 (nI (5 + 3 * i + 0)) 0 6 (nI i) = _ from e2]
    exact ⟨_, _, _, rfl, rfl, e3⟩
  · simp only [if_neg c1]
    exact Both.fin h 0 _
theorem B_tellsFor (h : Rel X Y) (a : Int32) : Both (f_X6_tellsFor X 0 a) (f_X7_tellsFor Y 0 a) := by
  have hI := h.inv
  have h6 := hI.1.2
  have x0 := h.xq.1.1
  unfold f_X6_tellsFor f_X7_tellsFor
  simp only [gd_t gX0, gd_t gM0, x0, Option.bind_some, gd_t gX1, X1_hasSide h.lg1 hI, X7_isSide h.rm hI, iteB, X6_finding h.xq 0 (by decide) 0 rfl, X7_finding h.rm 0 (by decide) 0 rfl]
  by_cases c1 : 0 ≤ a ∧ a < nI (nS (Y.1 1))
  · obtain ⟨i, hi, rfl⟩ := nI_at c1.1 (by omega) c1.2
    simp only [if_pos c1]
    obtain ⟨X', Y', r, e1, e2, e3⟩ := laid_both h (i := i) (p := 5 + 3 * i + 2) (lo := 0) (hi := 9) (wh := 1) hi (by omega) (by omega) (by decide) (by decide) (fun v _ h2 s hs his => hs.sd his (Or.inr (Or.inr ⟨rfl, h2⟩))) (fun v _ _ X s' hF hL hs' his => by
      have h6' := hs'.1.2
      obtain ⟨q1, q2⟩ := LG_sd hL hs' his (k := 2) (by decide) (nI v)
      refine ⟨_, ?_, q2, q1⟩
      unfold f_X6_suppose
      rw [if_neg (by decide), if_pos rfl, gd_t gX0, hF.1.1.2.2.2.1, Option.bind_some, gd_t gX38, show X.2.2 38 0 = some 39 from hL.2.1.1.1, Option.bind_some, gd_t (show okA nX shX 39 10 (nI i) from okSr (b := 38) hL.1 (by omega)), show X.2.2 39 (nI i).toNatClampNeg = some (42 + i) from hL.2.1.sd (by omega), Option.bind_some, gd_t (show ok nX shX (42 + i) 3 from okSo (b := 38) hL.1 (by omega))]
      rfl)
    rw [show (((5 : Int32) + ((3 : Int32) * nI i)) + (2 : Int32)) = nI (5 + 3 * i + 2) from ix3 i 2, show f_X6_greatestMean X 0 (nI i) 1 0 9 = _ from e1, show f_X7_bestLaid Y 0 (nI (5 + 3 * i + 2)) 0 9 (nI i) = _ from e2]
    exact ⟨_, _, _, rfl, rfl, e3⟩
  · simp only [if_neg c1]
    exact Both.fin h 0 _
theorem B_lawFor (h : Rel X Y) (a : Int32) : Both (f_X6_lawFor X 0 a) (f_X7_lawFor Y 0 a) := by
  have hI := h.inv
  have h6 := hI.1.2
  have x0 := h.xq.1.1
  unfold f_X6_lawFor f_X7_lawFor
  simp only [gd_t gX0, gd_t gM0, x0, Option.bind_some, gd_t gX1, X1_hasSide h.lg1 hI, X7_isSide h.rm hI, iteB, X6_finding h.xq 0 (by decide) 0 rfl, X7_finding h.rm 0 (by decide) 0 rfl]
  by_cases c1 : 0 ≤ a ∧ a < nI (nS (Y.1 1))
  · obtain ⟨i, hi, rfl⟩ := nI_at c1.1 (by omega) c1.2
    simp only [if_pos c1]
    obtain ⟨X', Y', r, e1, e2, e3⟩ := laid_both h (i := i) (p := 3) (lo := 1) (hi := 3) (wh := 2) hi (by decide) (by decide) (by decide) (by decide) (fun v h1 h2 s hs his => hs.law h1 h2) (fun v _ _ X s' hF hL hs' his => by
      obtain ⟨q1, q2⟩ := LG_own hL hs' 3 (Or.inl rfl) (nI v)
      refine ⟨_, ?_, q2, q1⟩
      unfold f_X6_suppose
      rw [if_neg (by decide), if_neg (by decide), if_pos rfl, gd_t gX0, hF.1.1.2.2.2.1, Option.bind_some, gd_t gX38]
      rfl)
    rw [show f_X6_greatestMean X 0 (nI i) 2 1 3 = _ from e1, show f_X7_bestLaid Y 0 3 1 3 (nI i) = _ from e2]
    exact ⟨_, _, _, rfl, rfl, e3⟩
  · simp only [if_neg c1]
    exact Both.fin h 0 _
theorem LG_force {s : Rw} {T : Trp} (h : LG X 38 s T) (hI : Inv s) (a v : Int32) : ∃ X', f_X1_force X 38 a v = some (X', ()) ∧ FR 38 X X' ∧ LG X' 38 s (nI (nP s), a, v) := by
  obtain ⟨hb, hX, hL⟩ := id h
  have h8 := hI.2.1.2
  have hF : FR 38 X (sI (sI (sI X 38 8 (X.1 38 5)) 38 9 a) 38 10 v) := fr_sI (fr_sI (fr_sI fr_rf (by omega) (by omega)) (by omega) (by omega)) (by omega) (by omega)
  have o : ∀ q, q ≠ 38 → (sI (sI (sI X 38 8 (X.1 38 5)) 38 9 a) 38 10 v).1 q = X.1 q := fun q hq => by rw [sI_obj hq, sI_obj hq, sI_obj hq]
  refine ⟨_, ?_, hF, hb, hX, ?_⟩
  · unfold f_X1_force
    rw [gd_t gX38]
    rfl
  · have gqo : ∀ g, g < 8 → (sI (sI (sI X 38 8 (X.1 38 5)) 38 9 a) 38 10 v).1 (gq X 38 g) = X.1 (gq X 38 g) := fun g hg => by
      obtain ⟨-, t1, t2⟩ := hX.2.2.1 g hg
      exact o _ (by omega)
    refine LD.modify hL rfl (fun _ => rfl) (fun _ _ _ _ => rfl) ?_ ?_ ?_ (fun g hg k _ => by rw [gqo g (by have := hI.2.2.1.2; omega)]) (fun j hj => ?_) (GBof hL (fun _ => rfl) gqo)
    · obtain ⟨a3, a4, a5, a6, a7, a8, a9, a10⟩ := hL.1
      rw [rdK (by decide), rdK (by decide), rdK (by decide), rdK (by decide), rdK (by decide), rdK (by decide), rdK (by decide), rdK (by decide), rdK (by decide), rdK (by decide), rdK (by decide), rdK (by decide), rdK (by decide), rdK (by decide), rdK (by decide), rdK (by decide), rdK (by decide), rdE, rdK (by decide), rdE, rdE]
      exact ⟨a3, a4, a5, a6, a7, a5.trans hI.2.2.1.1, rfl, rfl⟩
    · intro i hi
      rw [o _ (by omega)]
      exact hL.2.1 i hi
    · intro g hg
      rw [gqo g (by omega)]
      exact hL.2.2.1 g hg
    · rw [o _ (by omega)]
      exact hL.2.2.2.2.1 j hj
theorem best_loop {s : Rw} {i : Nat} {m : Nat → Nat} (hI : Inv s) (hi6 : i < nS s) (hm : ∀ v, m v < 2 ^ 40)
    (hR : ∀ v, v ≤ 3 → EA (nI (nP s), nI i, nI v) (fP i) (nG s - nP s) s = m v) : ∀ (d v n : Nat) (Y : Mm) (o : Option Nat), v + d = 4 → d < n → (∀ b, o = some b → b < 100) → RM Y → Y.1 0 5 = nI (nP s) → Y.1 0 6 = nI i → Sim s (Y.1 1) →
    ∃ Y', f_X7_best_b69 n Y 0 (nI i) (gY m o).1 (gY m o).2 (nI v) = some (Y', (gY m (fol m o v d)).1) ∧ Y'.2.2 = Y.2.2 ∧ (∀ o, o ≠ 0 → o ≠ 1 → o ≠ 10 → Y'.1 o = Y.1 o) ∧ (∀ f, f ≠ 23 → f ≠ 7 → f ≠ 5 → Y'.1 0 f = Y.1 0 f) ∧ Y'.1 0 5 = -1 ∧ Sim s (Y'.1 1) := by
  intro d
  induction d with
  | zero =>
    intro v n Y o h1 h2 ho hM h5 h6 hS
    obtain ⟨n, rfl⟩ : ∃ z, n = z + 1 := ⟨n - 1, by omega⟩
    refine ⟨sI Y 0 5 (-1), ?_, rfl, fun q h1 _ _ => sI_obj h1, fun f _ _ h3 => rdK h3, rdE, by rw [sI_obj (by decide)]; exact hS⟩
    simp only [f_X7_best_b69]
    rw [if_pos (show (3 : Int32) < nI v from nI_lt (a := 3) (by omega) (by omega)), gd_t gM0]
    rfl
  | succ d ih =>
    intro v n Y o h1 h2 ho hM h5 h6 hS
    obtain ⟨n, rfl⟩ : ∃ z, n = z + 1 := ⟨n - 1, by omega⟩
    have hd : nP s + (nG s - nP s) = nG s := by have := hI.2.2.1.2; omega
    have t : told (sI Y 0 7 (nI v)) = (nI (nP s), nI i, nI v) := by
      unfold told
      rw [rdE, rdK (by decide), rdK (by decide), h5, h6]
    obtain ⟨Y2, b1, b2, b3, b4⟩ := meanOf_go (Y := sI Y 0 7 (nI v)) (s := Y.1 1) (hS.inv hI) hM (sI_obj (by decide)) (by rw [t]; exact Or.inr ⟨v, by omega, rfl⟩) (i := i) (by rw [hS.eS]; exact hi6)
    rw [t, hS.eG, hS.eP, EA_sim (fP_ro i) _ _ _ hI hS hd, hR v (by omega)] at b1
    have hM2 : RM Y2 := by unfold RM; rw [b2.1]; exact hM
    obtain ⟨Y', c1, c2, c3, c4, c5, c6⟩ := ih (v + 1) n Y2 (stp m o v) (by omega) (by omega) (stp_lt ho (by omega)) hM2 ((b3 5 (by decide)).trans ((rdK (by decide)).trans h5)) ((b3 6 (by decide)).trans ((rdK (by decide)).trans h6)) (hS.tr b4)
    refine ⟨Y', ?_, c2.trans b2.1, fun q h1 h2 h3 => by rw [c3 q h1 h2 h3, b2.2.1 q h1 h2 h3, sI_obj h1], fun f h1 h2 h3 => by rw [c4 f h1 h2 h3, b3 f h1, rdK h2], c5, c6⟩
    simp only [f_X7_best_b69]
    rw [if_neg (show ¬ (3 : Int32) < nI v from fun z => by have := (nI_ltI (a := 3) (b := v) (by decide) (by omega)).mp z; omega), gd_t gM0]
    simp only [lt]
    rw [b1, Option.bind_some]
    dsimp only
    unfold f_X7_best_b99 f_X7_best_b105
    have hst := gY_step (v := v) hm o ho
    rw [nI_1]
    simp only [fol]
    rw [← c1, ← hst]
    by_cases c : (gY m o).1 < 0
    · rw [if_pos c, if_pos c]
    · rw [if_neg c, if_neg c]
      by_cases c' : lg_cmp (lN (m v)) (gY m o).2 ≤ 0
      · rw [if_pos c', if_pos c']
      · rw [if_neg c', if_neg c']
theorem best_go (h : Rel X Y) {i : Nat} (hi : i < nS (Y.1 1)) (c2 : nP (Y.1 1) < nG (Y.1 1)) : Both (f_X6_greatestMean X 0 (nI i) 3 0 3) (f_X7_best_b69 1000 (sI (sI Y 0 5 (nI (nP (Y.1 1)))) 0 6 (nI i)) 0 (nI i) (-1) 0 0) := by
  have hI := h.inv
  have hL := h.2.2.2.1
  have h6 := hI.1.2
  obtain ⟨m, hm0, hm⟩ : ∃ m : Nat → Nat, (∀ v, v ≤ 3 → EA (nI (nP (Y.1 1)), nI i, nI v) (fP i) (nG (Y.1 1) - nP (Y.1 1)) (Y.1 1) = m v) ∧ ∀ v, m v < 2 ^ 40 := by
    refine ⟨fun v => if v ≤ 3 then EA (nI (nP (Y.1 1)), nI i, nI v) (fP i) (nG (Y.1 1) - nP (Y.1 1)) (Y.1 1) else 0, fun v hv => (if_pos hv).symm, fun v => ?_⟩
    dsimp only
    split
    · rename_i c
      exact mean_lt hI (Or.inr ⟨v, c, rfl⟩) i
    · decide
  obtain ⟨X', a1, a2, a3, a4⟩ := become_gm h (what := 0) (lo := 0) (hi := 3) (wh := 3) (R := fun _ => Y.1 1) (T := fun v => (nI (nP (Y.1 1)), nI i, nI v)) (m := m) (S := fun r _ => r = Y.1 1) (i := i) (by omega) hm (by decide) (by decide) rfl
    (fun v h1 h2 => ⟨hI, Or.inr ⟨v, h2, rfl⟩, hi, hm0 v h2, rfl⟩)
    (fun v h1 h2 X s' T' hF hL hS => by
      subst hS
      obtain ⟨X1, q1, q2, q3⟩ := LG_force hL hI (nI i) (nI v)
      refine ⟨X1, ?_, q2, q3⟩
      unfold f_X6_suppose
      rw [if_neg (by decide), if_neg (by decide), if_neg (by decide), gd_t gX0, hF.1.1.2.2.2.1, Option.bind_some, gd_t gX38, q1, Option.bind_some])
  obtain ⟨Y', b1, b2, b3, b4, b5, b6⟩ := best_loop (s := Y.1 1) (i := i) (m := m) hI hi hm hm0 4 0 1000 (sI (sI Y 0 5 (nI (nP (Y.1 1)))) 0 6 (nI i)) none (by decide) (by decide) (fun b z => by cases z) h.rm (by rw [rdK (by decide), rdE]) rdE (by rw [sI_obj (by decide), sI_obj (by decide)]; exact Sim.rf)
  have eg : gY m none = (-1, 0) := rfl
  rw [eg, nI_0] at b1
  dsimp only at b1
  rw [nI_0, show (nI 3 : Int32) = 3 from rfl] at a1
  rw [a1, b1]
  refine ⟨X', Y', _, rfl, by rw [gXY m 0 (d := 3 + 1 - 0) (v := 0) (by decide)], ?_⟩
  refine h.aside a2 a3 a4 b2 (b6.inv hI) (hL.sim hI b6) (fun o ho => ?_) ?_ ?_ b5
  · rw [b3 o (by omega) (by omega) (by omega), sI_obj (by omega), sI_obj (by omega)]
  · rw [b4 3 (by decide) (by decide) (by decide), rdK (by decide), rdK (by decide)]
  · rw [b4 9 (by decide) (by decide) (by decide), rdK (by decide), rdK (by decide)]
theorem B_best (h : Rel X Y) (a : Int32) : Both (f_X6_best X 0 a) (f_X7_best Y 0 a) := by
  have hI := h.inv
  have m0 := h.m0
  have x0 := h.xq.1.1
  have hL := h.2.2.2.1
  have h6 := hI.1.2
  have h8 := hI.2.1.2
  have hp := hI.2.2.1.1
  unfold f_X6_best f_X7_best
  rw [gd_t gX0, x0, Option.bind_some, gd_t gX1, X1_hasSide h.lg1 hI, Option.bind_some, gd_t gM0, X7_isSide h.rm hI, Option.bind_some]
  dsimp only
  rw [iteB, iteB]
  by_cases c1 : 0 ≤ a ∧ a < nI (nS (Y.1 1))
  · obtain ⟨i, hi, rfl⟩ := nI_at c1.1 (by omega) c1.2
    rw [if_pos c1, if_pos c1, x0, Option.bind_some, gd_t gX1, X1_allPlayed h.lg1 hI, Option.bind_some, X7_isOver h.rm hI, Option.bind_some]
    dsimp only
    rw [iteN, iteN]
    by_cases c2 : nP (Y.1 1) < nG (Y.1 1)
    · have g8 : nP (Y.1 1) < 8 := by omega
      obtain ⟨w0, w1, w2⟩ := hL.2.2.1 _ c2
      have hp2 : Y.1 1 (2 : Int32).toNatClampNeg = nI (nP (Y.1 1)) := by rw [cl2]; exact hp
      rw [if_pos c2, if_pos c2, x0, Option.bind_some, gd_t gX1, h.l1, Option.bind_some, Option.bind_some, gd_t gX1, hL.1.2.2.1, hp, gd_t (gGr g8), h.gm g8, Option.bind_some, gd_t (h.go g8), X0_isOf (h.go g8), Option.bind_some, w0, w1]
      dsimp only
      rw [iteB, m0, Option.bind_some, gd_t gA2, hp2, X7_plays h.rm (nP (Y.1 1)) rfl g8, Option.bind_some]
      dsimp only
      rw [iteB]
      by_cases c3 : plA (Y.1 1) (nI i) (nP (Y.1 1))
      · rw [if_pos c3, if_pos c3, m0, Option.bind_some, gd_t gA2, hp2]
        rw [lt, lt]
        obtain ⟨X', Y', r, e1, e2, e3⟩ := best_go h hi c2
        rw [e1, e2, if_pos c2]
        exact ⟨_, _, _, rfl, rfl, e3⟩
      · rw [if_neg c3, if_neg c3, X6_finding h.xq 4 (by decide) 4 rfl, X7_finding h.rm 4 (by decide) 4 rfl, if_pos c2]
        exact Both.fin h 4 _
    · rw [if_neg c2, if_neg c2, X6_finding h.xq 3 (by decide) 3 rfl, X7_finding h.rm 3 (by decide) 3 rfl]
      exact Both.fin h 3 _
  · rw [if_neg c1, if_neg c1, X6_finding h.xq 0 (by decide) 0 rfl, X7_finding h.rm 0 (by decide) 0 rfl]
    exact Both.fin h 0 _
end MM

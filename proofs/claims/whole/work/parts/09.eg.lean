/-! ===== order: the whole method ===== -/
section OY
variable {s : Rw} {i n : Nat}
theorem ordC_go {K : Mm → Nat → Int32 → Int32 → Int32 → Int64 → Int32 → Option (Mm × Int32)} (hI : Inv s) (hn : nP s + n = nG s) (h1 : 1 ≤ n) (h4 : n ≤ 4) (hi : i < nS s) {c : Nat} {Z : Mm} (o : Option Nat) (hM : RM Z) (hT : (told Z).1 = -1) (hS : Sim (arrA s (nP s) n (dg n c)) (Z.1 1)) :
    ∃ Y2, ordC K Z (nI i) (nI n) (oY (nP s) n (mO s i n) o).1 (oY (nP s) n (mO s i n) o).2 (nI (numR (nP s) n c n)) = f_X7_order_b230 K Y2 0 (nI i) (nI n) (oY (nP s) n (mO s i n) (stp (mO s i n) o c)).1 (oY (nP s) n (mO s i n) (stp (mO s i n) o c)).2 ∧ Y2.2.2 = Z.2.2 ∧ (∀ q, q ≠ 0 → q ≠ 1 → q ≠ 10 → Y2.1 q = Z.1 q) ∧ (∀ k, k ≠ 23 → Y2.1 0 k = Z.1 0 k) ∧ Sim (arrA s (nP s) n (dg n c)) (Y2.1 1) := by
  have h6 := hI.1.2
  have h8 := hI.2.1.2
  have hd : ∀ k, k < n → dg n c k < n := fun _ _ => dg_lt h1
  have hA := arrA_inv (f := dg n c) hI hn hd
  have hIZ : Inv (Z.1 1) := hS.inv hA
  obtain ⟨Y2, a1, a2⟩ := X7_findWays hIZ hM rfl (Or.inl hT)
  have a3 := a2.to0 hIZ hT
  have hv := a3.2.2.2.2.2.2.2.1 i (by omega)
  have hdd : nP (arrA s (nP s) n (dg n c)) + n = nG (arrA s (nP s) n (dg n c)) := by rw [arrA_nP, arrA_nG]; exact hn
  rw [hS.eG, hS.eP, arrA_nG, arrA_nP, show nG s - nP s = n by omega, EA_sim (fF_ro i) _ _ _ hA hS hdd] at hv
  have hv' : Y2.2.1 8 (nI i).toNatClampNeg = lN (mO s i n c) := by rw [nI_clamp (by omega)]; exact hv
  refine ⟨Y2, ?_, a3.1, a3.2.2.1, a3.2.2.2.1, hS.tr a3.2.1⟩
  have hst := oY_step (P := nP s) (n := n) (c := c) h1 h4 (by omega) (fun v => mO_lt (i := i) hI hn h1 v) o
  have y8 : Y2.2.2 0 18 = some 8 := by rw [a3.1]; exact hM.at 18 rfl
  have h219 : ∀ x7, f_X7_order_b219 K Y2 0 (nI i) (nI n) x7 = f_X7_order_b230 K Y2 0 (nI i) (nI n) x7 (lN (mO s i n c)) := fun x7 => by
    unfold f_X7_order_b219
    rw [gd_t gM0, y8, Option.bind_some, gd_t (gL8 (by omega)), hv']
  unfold ordC
  rw [a1, Option.bind_some]
  dsimp only
  rw [h219, y8, Option.bind_some, gd_t (gL8 (by omega)), hv', ← hst]
  by_cases d : (oY (nP s) n (mO s i n) o).1 < 0
  · rw [if_pos d, if_pos d]
  · rw [if_neg d, if_neg d]
    by_cases d2 : lg_cmp (lN (mO s i n c)) (oY (nP s) n (mO s i n) o).2 ≤ 0
    · rw [if_pos d2, if_pos d2]
    · rw [if_neg d2, if_neg d2]
theorem ord_y (hI : Inv s) (hn : nP s + n = nG s) (h1 : 1 ≤ n) (h4 : n ≤ 4) (hi : i < nS s) : ∀ (l : List Nat) (c m : Nat) (Y : Mm) (o : Option Nat) (f' : Nat → Nat), chB n (c :: l) = true → l.length + 1 < m → RM Y → (told Y).1 = -1 → (∀ q, q < 89 → Y.1 3 q = s q) → RW Y (nP s) n (dg n c) → Sim (arrA s (nP s) n f') (Y.1 1) →
    ∃ Y', f_X7_order_b99 m Y 0 (nI i) (nI n) (oY (nP s) n (mO s i n) o).1 (oY (nP s) n (mO s i n) o).2 1 = some (Y', (oY (nP s) n (mO s i n) ((c :: l).foldl (stp (mO s i n)) o)).1) ∧ Y'.2.2 = Y.2.2 ∧ (∀ q, q ≠ 0 → q ≠ 1 → q ≠ 10 → q ≠ 12 → Y'.1 q = Y.1 q) ∧ (∀ k, k ≠ 23 → Y'.1 0 k = Y.1 0 k) ∧ Sim s (Y'.1 1) := by
  have h6 := hI.1.2
  have h8 := hI.2.1.2
  have hp := hI.2.2.1.1
  intro l
  induction l with
  | nil =>
    intro c m Y o f' hc hm hM hT hu hR hS
    have hm2 : 1 < m := by simpa only [List.length_nil, Nat.zero_add] using hm
    obtain ⟨m, rfl⟩ : ∃ z, m = z + 1 := ⟨m - 1, by omega⟩
    have hd : ∀ k, k < n → dg n c k < n := fun _ _ => dg_lt h1
    have h2 : Y.1 1 2 = nI (nP s) := by rw [hS.1 2 (by decide), arrA_lo 2 (by decide)]; exact hp
    have hSZ : Sim (arrA s (nP s) n (dg n c)) ((sA Y 1 (arrB (Y.1 1) (Y.1 3) (nP s) 0 n (dg n c))).1 1) := by
      rw [sA_at]
      exact arrB_sim hI hn hS hu hd
    obtain ⟨Y2, a1, a2, a3, a4, a5⟩ := ordC_go (K := f_X7_order_b99 m) hI hn h1 h4 hi o (Z := sA Y 1 (arrB (Y.1 1) (Y.1 3) (nP s) 0 n (dg n c))) hM hT hSZ
    have hM2 : RM Y2 := by unfold RM; rw [a2]; exact hM
    have hR2 : RW Y2 (nP s) n (dg n c) := fun k hk => by rw [a3 12 (by decide) (by decide) (by decide), sA_ne (by decide)]; exact hR k hk
    have hnx := X7_nextRow h1 h4 (by omega) hM2 hR2 hd
    have hnone : nxF n (dg n c) = none := by
      simp only [chB] at hc
      exact Option.isNone_iff_eq_none.mp hc
    rw [hnone] at hnx
    have h3 : Y2.1 3 = Y.1 3 := by rw [a3 3 (by decide) (by decide) (by decide), sA_ne (by decide)]
    refine ⟨sA Y2 1 (cpA (Y2.1 3) (Y2.1 1)), ?_, a2, fun q q0 q1 q2 q3 => by rw [sA_ne q1, a3 q q0 q1 q2, sA_ne q1], fun k hk => by rw [sA_ne (by decide), a4 k hk, sA_ne (by decide)], ?_⟩
    · simp only [f_X7_order_b99]
      rw [if_neg (by decide), show f_X7_order_b110 (f_X7_order_b99 m) 1000 Y 0 (nI i) (nI n) (oY (nP s) n (mO s i n) o).1 (oY (nP s) n (mO s i n) o).2 0 0 = _ from row_loop (K := f_X7_order_b99 m) (c := c) h4 (show nP s + n ≤ 8 by omega) (fun k hk => ⟨rfl, hd k hk⟩) n 0 1000 Y (by omega) (by omega) hM h2 hR, a1]
      unfold f_X7_order_b230
      rw [gd_t gM0, hnx, Option.bind_some]
      obtain ⟨m, rfl⟩ : ∃ z, m = z + 1 := ⟨m - 1, by omega⟩
      simp only [f_X7_order_b99]
      rw [if_pos trivial, gd_t gM0, hM2.at 2 rfl, Option.bind_some, hM2.at 0 rfl, Option.bind_some, X7_carry (by decide) (by decide) (by decide), Option.bind_some]
      rfl
    · rw [sA_at]
      refine Sim.of89 (fun k hk => ?_)
      rw [cpA_in hk, h3, hu k hk]
  | cons c' l ih =>
    intro c m Y o f' hc hm hM hT hu hR hS
    obtain ⟨m, rfl⟩ : ∃ z, m = z + 1 := ⟨m - 1, by omega⟩
    have hd : ∀ k, k < n → dg n c k < n := fun _ _ => dg_lt h1
    have h2 : Y.1 1 2 = nI (nP s) := by rw [hS.1 2 (by decide), arrA_lo 2 (by decide)]; exact hp
    have hSZ : Sim (arrA s (nP s) n (dg n c)) ((sA Y 1 (arrB (Y.1 1) (Y.1 3) (nP s) 0 n (dg n c))).1 1) := by
      rw [sA_at]
      exact arrB_sim hI hn hS hu hd
    obtain ⟨Y2, a1, a2, a3, a4, a5⟩ := ordC_go (K := f_X7_order_b99 m) hI hn h1 h4 hi o (Z := sA Y 1 (arrB (Y.1 1) (Y.1 3) (nP s) 0 n (dg n c))) hM hT hSZ
    have hM2 : RM Y2 := by unfold RM; rw [a2]; exact hM
    have hR2 : RW Y2 (nP s) n (dg n c) := fun k hk => by rw [a3 12 (by decide) (by decide) (by decide), sA_ne (by decide)]; exact hR k hk
    have hnx := X7_nextRow h1 h4 (by omega) hM2 hR2 hd
    obtain ⟨g, hg1, hg2, hg3⟩ : ∃ g, nxF n (dg n c) = some g ∧ (∀ k, k < n → g k = dg n c' k) ∧ chB n (c' :: l) = true := by
      simp only [chB, Bool.and_eq_true] at hc
      obtain ⟨hc1, hc2⟩ := hc
      cases e : nxF n (dg n c) with
      | none =>
        rw [e] at hc1
        cases hc1
      | some g =>
        rw [e] at hc1
        refine ⟨g, rfl, fun k hk => ?_, hc2⟩
        have := List.all_eq_true.mp hc1 k (List.mem_range.mpr hk)
        exact beq_iff_eq.mp this
    rw [hg1] at hnx
    obtain ⟨Y3, b1, b2, b3, b4⟩ := hnx
    have h3 : Y3.1 3 = Y.1 3 := by rw [b2.2 3 (by decide), a3 3 (by decide) (by decide) (by decide), sA_ne (by decide)]
    have e0 : ∀ k, k ≠ 23 → Y3.1 0 k = Y.1 0 k := fun k hk => by rw [b2.2 0 (by decide), a4 k hk, sA_ne (by decide)]
    obtain ⟨Y', d1, d2, d3, d4, d5⟩ := ih c' m Y3 (stp (mO s i n) o c) (dg n c) hg3 (by simp only [List.length_cons] at hm; omega) (by unfold RM; rw [b2.1]; exact hM2) ((e0 5 (by decide)).trans hT) (fun q hq => by rw [h3]; exact hu q hq) (fun k hk => by rw [b3 k hk, hg2 k hk]) (by rw [b2.2 1 (by decide)]; exact a5)
    refine ⟨Y', ?_, by rw [d2, b2.1, a2]; rfl, fun q q0 q1 q2 q3 => by rw [d3 q q0 q1 q2 q3, b2.2 q q3, a3 q q0 q1 q2, sA_ne q1], fun k hk => by rw [d4 k hk, e0 k hk], d5⟩
    simp only [f_X7_order_b99]
    rw [if_neg (by decide), show f_X7_order_b110 (f_X7_order_b99 m) 1000 Y 0 (nI i) (nI n) (oY (nP s) n (mO s i n) o).1 (oY (nP s) n (mO s i n) o).2 0 0 = _ from row_loop (K := f_X7_order_b99 m) (c := c) h4 (show nP s + n ≤ 8 by omega) (fun k hk => ⟨rfl, hd k hk⟩) n 0 1000 Y (by omega) (by omega) hM h2 hR, a1]
    unfold f_X7_order_b230
    rw [gd_t gM0, b1, Option.bind_some]
    exact d1
theorem RK.w {Y : Mm} {k : Nat} {v : Int32} : RK Y (sI Y 12 k v) := ⟨rfl, fun _ ho => sI_obj ho⟩
/-- the first row -/
theorem row_first {P : Nat} (h4 : n ≤ 4) (i' : Int32) : ∀ (d k m : Nat) (Y : Mm), k + d = n → d < m → RM Y → Y.1 1 2 = nI P → RW Y P k (fun j => j) → ∃ Y', f_X7_order_b66 m Y 0 i' (nI n) (nI k) = f_X7_order_b99 1000 Y' 0 i' (nI n) (-1) 0 1 ∧ RK Y Y' ∧ RW Y' P n (fun j => j) := by
  intro d
  induction d with
  | zero =>
    intro k m Y h1 h2 hM hP hR
    obtain ⟨m, rfl⟩ : ∃ z, m = z + 1 := ⟨m - 1, by omega⟩
    obtain rfl : k = n := by omega
    refine ⟨Y, ?_, RK.rf, hR⟩
    simp only [f_X7_order_b66]
    rw [if_pos (nI_le (by omega) (by omega))]
  | succ d ih =>
    intro k m Y h1 h2 hM hP hR
    obtain ⟨m, rfl⟩ : ∃ z, m = z + 1 := ⟨m - 1, by omega⟩
    obtain ⟨Y', e1, e2, e3⟩ := ih (k + 1) m (sI Y 12 k (nI (P + k))) (by omega) (by omega) hM (by rw [sI_obj (by decide)]; exact hP) (fun j hj => by
      by_cases c : j = k
      · subst c
        rw [sI_fun, pk_us]
      · rw [rdK c]
        exact hR j (by omega))
    refine ⟨Y', ?_, RK.w.tr e2, e3⟩
    simp only [f_X7_order_b66]
    rw [if_neg (nI_ge (by omega) (by omega)), gd_t gM0, hM.at 24 rfl, Option.bind_some, hM.at 0 rfl, Option.bind_some, gd_t gA2, gd_t (gR (by omega)), lt, cl2, hP, nI_add, nI_clamp (by omega), nI_1]
    exact e1
end OY
theorem pow_loop (i' : Int32) {n : Nat} {X : Mm} (h4 : n ≤ 4) : ∀ (d k m : Nat), k + d = n → d < m → f_X6_bestOrder_b16 m X 0 i' (nI n) (nI (n ^ k)) (nI k) = f_X6_bestOrder_b43 1000 X 0 i' (nI n) (nI (n ^ n)) 0 (-1) 0 := by
  intro d
  induction d with
  | zero =>
    intro k m h1 h2
    obtain ⟨m, rfl⟩ : ∃ z, m = z + 1 := ⟨m - 1, by omega⟩
    obtain rfl : k = n := by omega
    simp only [f_X6_bestOrder_b16]
    rw [if_pos (nI_le (by omega) (by omega))]
  | succ d ih =>
    intro k m h1 h2
    obtain ⟨m, rfl⟩ : ∃ z, m = z + 1 := ⟨m - 1, by omega⟩
    simp only [f_X6_bestOrder_b16]
    rw [if_neg (nI_ge (by omega) (by omega)), pk_mul, nI_1, ← Nat.pow_succ]
    exact ih (k + 1) m (by omega) (by omega)
section MM
variable {X Y : Mm}
theorem order_go (h : Rel X Y) {i n : Nat} (hi : i < nS (Y.1 1)) (hn : nP (Y.1 1) + n = nG (Y.1 1)) (h1 : 1 ≤ n) (h4 : n ≤ 4) : Both (f_X6_bestOrder X 0 (nI i) (nI n)) (Option.bind (f_X7_carry Y 1 3) (fun r => f_X7_order_b66 1000 r.1 0 (nI i) (nI n) 0)) := by
  have hI := h.inv
  have h8 := hI.2.1.2
  have hL := h.2.2.2.1
  obtain ⟨X1, a1, a2, a3⟩ := become38 h
  have hF1 := h.1.at a3.out
  have hL1 : LD X1 1 (Y.1 1) T0 := hL.at hI h.1.2.1 a3.out (fun o _ _ => a3.2 o (by omega))
  have hN : n ^ n ≤ 256 := by
    rcases (show n = 1 ∨ n = 2 ∨ n = 3 ∨ n = 4 by omega) with rfl | rfl | rfl | rfl <;> decide
  obtain ⟨X', b1, b2, b3, b4⟩ := ord_x hI hn h1 h4 hi hN (n ^ n) 0 1000 X1 none (fun j => j) (by omega) (by omega) hF1 hL1 (by rw [arrA_id]; exact a2) (fun _ hk => hk)
  rw [show (List.range' 0 (n ^ n)).filter (vld n) = VC n by unfold VC; rw [List.range_eq_range']] at b1
  obtain ⟨Y2, c1, c2, c3⟩ := row_first (n := n) (P := nP (Y.1 1)) h4 (nI i) n 0 1000 (sA Y 3 (cpA (Y.1 1) (Y.1 3))) (by omega) (by omega) h.rm (by rw [sA_ne (by decide)]; exact hI.2.2.1.1) (fun j hj => absurd hj (by omega))
  have hch := chB_VC n (by omega) h1
  have hhd := VC_head n (by omega) h1
  have hlen : (VC n).length ≤ 256 := by
    unfold VC
    exact Nat.le_trans (List.length_filter_le _ _) (by rw [List.length_range]; exact hN)
  cases hV : VC n with
  | nil =>
    rw [hV] at hhd
    cases hhd
  | cons c l =>
    rw [hV] at hch hhd hlen b1
    have hid : ∀ k, k < n → dg n c k = k := fun k hk => beq_iff_eq.mp (List.all_eq_true.mp hhd k (List.mem_range.mpr hk))
    have t5 : ∀ k, Y2.1 0 k = Y.1 0 k := fun k => by rw [c2.2 0 (by decide), sA_ne (by decide)]
    have e1 : Y2.1 1 = Y.1 1 := by rw [c2.2 1 (by decide), sA_ne (by decide)]
    obtain ⟨Y', d1, d2, d3, d4, d5⟩ := ord_y hI hn h1 h4 hi l c 1000 Y2 none (fun j => j) hch (by simp only [List.length_cons] at hlen; omega) (by unfold RM; rw [c2.1]; exact h.rm) ((t5 5).trans h.told1) (fun q hq => by rw [c2.2 3 (by decide), sA_at, cpA_in hq]) (fun k hk => by rw [c3 k hk, hid k hk]) (by rw [arrA_id, e1]; exact Sim.rf)
    obtain ⟨v, hv⟩ := foldl_some (mO (Y.1 1) i n) (c :: l) none (Or.inr (fun z => by cases z))
    rw [hv] at b1 d1
    refine ⟨X', Y', nI (numF (nP (Y.1 1)) n v n), ?_, ?_, ?_⟩
    · unfold f_X6_bestOrder
      rw [gd_t gX0, h.xq.1.2.2.2.1, Option.bind_some, h.xq.1.1, Option.bind_some, gd_t gX38, a1, Option.bind_some]
      dsimp only
      rw [show f_X6_bestOrder_b16 1000 X1 0 (nI i) (nI n) 1 0 = _ from pow_loop (nI i) h4 n 0 1000 (by omega) (by omega)]
      exact b1
    · rw [X7_carry (by decide) (by decide) (by decide), Option.bind_some]
      rw [show f_X7_order_b66 1000 (sA Y 3 (cpA (Y.1 1) (Y.1 3))) 0 (nI i) (nI n) 0 = _ from c1, num_eq _ _ _ h1 h4]
      exact d1
    · refine h.aside (b2.trans a3.out) (fun q hq => by rw [b3 q hq, a3.2 q (by omega)]) b4 (by rw [d2, c2.1]; rfl) (d5.inv hI) (hL.sim hI d5) (fun o ho => ?_) ?_ ?_ ?_
      · rw [d3 o (by omega) (by omega) (by omega) (by omega), c2.2 o (by omega), sA_ne (by omega)]
      · rw [d4 3 (by decide), t5]
      · rw [d4 9 (by decide), t5]
      · rw [d4 5 (by decide), t5]
        exact h.told1
theorem B_order (h : Rel X Y) (a : Int32) : Both (f_X6_order X 0 a) (f_X7_order Y 0 a) := by
  have hI := h.inv
  have m0 := h.m0
  have x0 := h.xq.1.1
  have hL := h.2.2.2.1
  have h6 := hI.1.2
  have h8 := hI.2.1.2
  have hp := hI.2.2.1
  unfold f_X6_order f_X7_order
  rw [gd_t gX0, x0, Option.bind_some, gd_t gX1, X1_hasSide h.lg1 hI, Option.bind_some, gd_t gM0, X7_isSide h.rm hI, Option.bind_some]
  dsimp only
  rw [iteB, iteB]
  by_cases c1 : 0 ≤ a ∧ a < nI (nS (Y.1 1))
  · obtain ⟨i, hi, rfl⟩ := nI_at c1.1 (by omega) c1.2
    rw [if_pos c1, if_pos c1, x0, Option.bind_some, gd_t gX1, X1_allPlayed h.lg1 hI, Option.bind_some, X7_isOver h.rm hI, Option.bind_some]
    dsimp only
    rw [iteN, iteN]
    by_cases c2 : nP (Y.1 1) < nG (Y.1 1)
    · obtain ⟨n, hn⟩ : ∃ n, nP (Y.1 1) + n = nG (Y.1 1) := ⟨nG (Y.1 1) - nP (Y.1 1), by omega⟩
      have hdf : nI (nG (Y.1 1)) - nI (nP (Y.1 1)) = nI n := by
        rw [← hn, ← nI_add, Int32.add_comm, Int32.add_sub_cancel]
      rw [if_pos c2, if_pos c2, x0, Option.bind_some, gd_t gX1, Option.bind_some, gd_t gX1, hL.1.2.1, hL.1.2.2.1, hI.2.1.1, hp.1, hdf, m0, Option.bind_some, gd_t (show okA nM shM 1 8 (1 : Int32) by decide), Option.bind_some, gd_t gA2, cl1, cl2, hI.2.1.1, hp.1, hdf, lt]
      by_cases c3 : n ≤ 4
      · have c3' : nI n ≤ (4 : Int32) := nI_le (b := 4) c3 (by decide)
        rw [if_pos c3', if_pos c3', Option.bind_some, h.rm.at 2 rfl, Option.bind_some]
        obtain ⟨X', Y', r, e1, e2, e3⟩ := order_go h hi hn (by omega) c3
        rw [e1, e2, if_pos c2]
        exact ⟨_, _, _, rfl, rfl, e3⟩
      · have c3' : ¬ nI n ≤ (4 : Int32) := nI_ge (b := n) (a := 4) (by omega) (by omega)
        rw [if_neg c3', if_neg c3', X6_finding h.xq 6 (by decide) 6 rfl, X7_finding h.rm 6 (by decide) 6 rfl, if_pos c2]
        exact Both.fin h 6 _
    · rw [if_neg c2, if_neg c2, X6_finding h.xq 3 (by decide) 3 rfl, X7_finding h.rm 3 (by decide) 3 rfl]
      exact Both.fin h 3 _
  · rw [if_neg c1, if_neg c1, X6_finding h.xq 0 (by decide) 0 rfl, X7_finding h.rm 0 (by decide) 0 rfl]
    exact Both.fin h 0 _
end MM

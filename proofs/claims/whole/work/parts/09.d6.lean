section MM
variable {X Y : Mm}
theorem B_image (h : Rel X Y) : Both (f_X6_image X 0) (f_X7_image Y 0) := by
  have hI := h.inv
  have m0 := h.m0
  have m1 : Y.2.2 0 1 = some 2 := h.rm.at 1 rfl
  have x0 := h.xq.1.1
  have x1 := h.xq.1.2.1
  obtain ⟨r1, r2, r3, r4, r5, r6, r7, r8, r9, r10, r11⟩ := id h
  obtain ⟨M', e1, e2, e3⟩ := X1_become (a := 19) h.lg1 hI (Or.inr (Or.inl rfl)) (by decide) r1.2.2.1 r5
  unfold f_X6_image f_X7_image
  simp only [gd_t gX0, gd_t gM0, x0, x1, m0, m1, Option.bind_some, gd_t gX19, e1, lt, X7_carry (Y := Y) (a := 1) (b := 2) (by decide) (by decide) (by decide)]
  refine ⟨_, _, _, rfl, rfl, ?_⟩
  have hx : (sI M' 0 2 1).2.2 = X.2.2 := by
    show M'.2.2 = X.2.2
    rw [e3.1]
  have ho : ∀ o, o ≠ 0 → (o < 19 ∨ 37 ≤ o) → (sI M' 0 2 1).1 o = X.1 o := fun o h1 h2 => by rw [sI_obj h1, e3.2 o (by omega)]
  have y : ∀ o, o ≠ 0 → o ≠ 2 → (sI (sA Y 2 (cpA (Y.1 1) (Y.1 2))) 0 3 1).1 o = Y.1 o := fun o h1 h2 => by rw [sI_obj h1, sA_ne h2]
  have y0 : ∀ k, k ≠ 3 → (sI (sA Y 2 (cpA (Y.1 1) (Y.1 2))) 0 3 1).1 0 k = Y.1 0 k := fun k h1 => by rw [rdK h1, sA_ne (by decide)]
  have y2 : (sI (sA Y 2 (cpA (Y.1 1) (Y.1 2))) 0 3 1).1 2 = cpA (Y.1 1) (Y.1 2) := by rw [sI_obj (by decide), sA_at]
  have sm : Sim (Y.1 1) (cpA (Y.1 1) (Y.1 2)) := Sim.of89 (fun k hk => cpA_in hk)
  have l19 : LD (sI M' 0 2 1) 19 (Y.1 1) T0 := e2.2.2.at hI e2.2.1 rfl (fun o h1 _ => sI_obj (by omega))
  refine ⟨r1.at hx, r2, by rw [y 1 (by decide) (by decide)]; exact hI, by rw [y 1 (by decide) (by decide)]; exact r4.at hI r1.2.1 hx (fun o h1 h2 => ho o (by omega) (by omega)), l19.2.2.2.2.2, r6.at r1.2.2.2 hx (fun o h1 h2 => ho o (by omega) (by omega)), ⟨by rw [rdE]; exact Or.inr rfl, by rw [rdE, rdE], fun _ => by rw [y2]; exact ⟨sm.inv hI, l19.sim hI sm⟩⟩, r8.at (ho 64 (by decide) (by decide)) (y 4 (by decide) (by decide)), r9.at (by rw [ho 61 (by decide) (by decide)]) (ho 62 (by decide) (by decide)) (y0 9 (by decide)) (y 5 (by decide) (by decide)), r10.at (fun o h1 h2 => ho o (by omega) (by omega)) (y 14 (by decide) (by decide)) (y 15 (by decide) (by decide)) (y 16 (by decide) (by decide)), by rw [y0 5 (by decide)]; exact r11⟩
theorem B_undo (h : Rel X Y) : Both (f_X6_undo X 0) (f_X7_undo Y 0) := by
  have hI := h.inv
  have m0 := h.m0
  have m1 : Y.2.2 0 1 = some 2 := h.rm.at 1 rfl
  have x0 := h.xq.1.1
  have x1 := h.xq.1.2.1
  obtain ⟨r1, r2, r3, r4, r5, r6, r7, r8, r9, r10, r11⟩ := id h
  unfold f_X6_undo f_X7_undo
  rw [gd_t gX0, gd_t gM0, r7.2.1]
  by_cases c : X.1 0 2 = 0
  · simp only [if_pos c, X6_finding h.xq 3 (by decide) 3 rfl, X7_finding h.rm 3 (by decide) 3 rfl, Option.bind_some]
    exact Both.fin h 3 _
  · have c1 : X.1 0 2 = 1 := r7.1.resolve_left c
    obtain ⟨k1, k2⟩ := r7.2.2 c1
    obtain ⟨M', e1, e2, e3⟩ := X1_become (a := 1) (c := 19) (s := Y.1 2) (T := T0) ⟨Or.inr (Or.inl rfl), r1.2.2.1, k2⟩ k1 (Or.inl rfl) (by decide) r1.2.1 r4.2.2.2.2.2
    have x0' : M'.2.2 0 0 = some 1 := by rw [e3.1]; exact x0
    simp only [if_neg c, x0, x1, m0, m1, Option.bind_some, gd_t gX1, e1, x0', X7_carry (Y := Y) (a := 2) (b := 1) (by decide) (by decide) (by decide)]
    have sm : Sim (Y.1 2) (cpA (Y.1 2) (Y.1 1)) := Sim.of89 (fun k hk => cpA_in hk)
    rw [show ∀ f, (sA Y 1 f).2.2 0 0 = some 1 from fun _ => m0, Option.bind_some, gd_t gA2, sA_at, cl2]
    refine ⟨_, _, _, rfl, ?_, h.lg e3 (e2.sim k1 sm) (sm.inv k1)⟩
    rw [e2.2.2.1.2.2.1, sm.1 2 (by decide)]
theorem B_tear (h : Rel X Y) : Both (f_X6_tear X 0) (f_X7_tear Y 0) := by
  obtain ⟨r1, r2, r3, r4, r5, r6, r7, r8, r9, r10, r11⟩ := id h
  have key : Rel (sI X 0 2 0) (sI Y 0 3 0) := by
    have hx : (sI X 0 2 0).2.2 = X.2.2 := rfl
    have ho : ∀ o, o ≠ 0 → (sI X 0 2 0).1 o = X.1 o := fun o h1 => sI_obj h1
    have y : ∀ o, o ≠ 0 → (sI Y 0 3 0).1 o = Y.1 o := fun o h1 => sI_obj h1
    have y0 : ∀ k, k ≠ 3 → (sI Y 0 3 0).1 0 k = Y.1 0 k := fun k h1 => rdK h1
    refine ⟨r1.at hx, r2, by rw [y 1 (by decide)]; exact r3, by rw [y 1 (by decide)]; exact r4.at r3 r1.2.1 hx (fun o h1 h2 => ho o (by omega)), r5.at r1.2.2.1 hx (fun o h1 h2 => ho o (by omega)), r6.at r1.2.2.2 hx (fun o h1 h2 => ho o (by omega)), ⟨by rw [rdE]; exact Or.inl rfl, by rw [rdE, rdE], fun z => by rw [rdE] at z; exact absurd z (by decide)⟩, r8.at (ho 64 (by decide)) (y 4 (by decide)), r9.at (by rw [ho 61 (by decide)]) (ho 62 (by decide)) (y0 9 (by decide)) (y 5 (by decide)), r10.at (fun o h1 h2 => ho o (by omega)) (y 14 (by decide)) (y 15 (by decide)) (y 16 (by decide)), by rw [y0 5 (by decide)]; exact r11⟩
  unfold f_X6_tear f_X7_tear f_X6_tear_b12 f_X7_tear_b12
  rw [gd_t gX0, gd_t gM0, r7.2.1]
  simp only [gd_t gX0, gd_t gM0, lt]
  split <;> exact ⟨_, _, _, rfl, rfl, key⟩
/-- the tape has changed -/
theorem Rel.tape (h : Rel X Y) {X' Y' : Mm} (hx : X'.2 = X.2) (hy : Y'.2 = Y.2) (ho : ∀ o, o ≠ 61 → o ≠ 62 → X'.1 o = X.1 o) (y : ∀ o, o ≠ 0 → o ≠ 5 → Y'.1 o = Y.1 o) (y0 : ∀ k, k ≠ 9 → Y'.1 0 k = Y.1 0 k) (hT : TP X' Y') : Rel X' Y' := by
  obtain ⟨r1, r2, r3, r4, r5, r6, r7, r8, r9, r10, r11⟩ := h
  have hx : X'.2.2 = X.2.2 := by rw [hx]
  refine ⟨r1.at hx, by unfold RM; rw [hy]; exact r2, by rw [y 1 (by decide) (by decide)]; exact r3, by rw [y 1 (by decide) (by decide)]; exact r4.at r3 r1.2.1 hx (fun o h1 h2 => ho o (by omega) (by omega)), r5.at r1.2.2.1 hx (fun o h1 h2 => ho o (by omega) (by omega)), r6.at r1.2.2.2 hx (fun o h1 h2 => ho o (by omega) (by omega)), r7.at r1.2.2.1 hx (fun o h1 h2 => ho o (by omega) (by omega)) (by rw [ho 0 (by decide) (by decide)]) (y0 3 (by decide)) (y 2 (by decide) (by decide)), r8.at (ho 64 (by decide) (by decide)) (y 4 (by decide) (by decide)), hT, r10.at (fun o h1 h2 => ho o (by omega) (by omega)) (y 14 (by decide) (by decide)) (y 15 (by decide) (by decide)) (y 16 (by decide) (by decide)), by rw [y0 5 (by decide)]; exact r11⟩
theorem B_wipe (h : Rel X Y) : Both (f_X6_wipe X 0) (f_X7_wipe Y 0) := by
  have x5 := h.xq.1.2.2.2.2.1
  obtain ⟨n, hn, t1, t2, t3⟩ := h.2.2.2.2.2.2.2.2.1
  unfold f_X6_wipe f_X7_wipe
  simp only [gd_t gX0, gd_t gM0, x5, Option.bind_some, gd_t gX61, lt, t1, t2]
  exact ⟨_, _, _, rfl, rfl, h.tape rfl rfl (fun o h1 _ => sI_obj h1) (fun o h1 _ => sI_obj h1) (fun k h1 => rdK h1) ⟨0, by decide, by rw [rdE]; rfl, by rw [rdE]; rfl, fun k hk => absurd hk (by omega)⟩⟩
/-- a byte of a number -/
def byA (v : Int32) (j : Nat) : Int32 := ((v.toUInt32 >>> (((8 : Int32) * nI j).toUInt32 &&& Int32.toUInt32 31)).toInt32) &&& (255 : Int32)
theorem shA' : ∀ j, j < 4 → (((((8 : Int32) * nI j)).toUInt32 &&& Int32.toUInt32 31).toBitVec % 32).toNat = 8 * j := by decide +kernel
theorem shB' : ∀ j, j < 4 → ((((8 : Int32) * nI j) &&& 31).toBitVec.smod 32).toNat = 8 * j := by decide +kernel
theorem byA_eq (v : Int32) (j : Nat) (hj : j < 4) : byA v j = nI (v.toBitVec.toNat / 2 ^ (8 * j) % 256) := by
  unfold byA
  rw [pk_and _ 8 (by decide +kernel), pk_ushr v _ (8 * j) (shA' j hj)]
theorem toNat_toInt (x : Int32) : x.toInt = x.toBitVec.toNat ∨ x.toInt = (x.toBitVec.toNat : Int) - 4294967296 := by
  have h : x.toInt = x.toBitVec.toInt := rfl
  rw [h, BitVec.toInt_eq_toNat_cond]
  split
  · exact Or.inl rfl
  · exact Or.inr rfl
theorem shm {N R p : Nat} {I J : Int} (hN : N < 2 ^ 32) (hR : R < 2 ^ 32) (h1 : I = (N : Int) ∨ I = (N : Int) - 4294967296) (h2 : J = (R : Int) ∨ J = (R : Int) - 4294967296) (hs : J = I / (p : Int)) (hp : p = 1 ∨ p = 256 ∨ p = 65536 ∨ p = 16777216) : R % 256 = N / p % 256 := by
  have e : (2 ^ 32 : Nat) = 4294967296 := by decide
  rw [e] at hN hR
  rcases hp with rfl | rfl | rfl | rfl <;> omega
theorem pw4 : ∀ j, j < 4 → (2 ^ (8 * j) = 1 ∨ 2 ^ (8 * j) = 256 ∨ 2 ^ (8 * j) = 65536 ∨ 2 ^ (8 * j) = 16777216) := by decide +kernel
theorem byB_eq (v : Int32) (j : Nat) (hj : j < 4) : (v >>> (((8 : Int32) * nI j) &&& 31) &&& (255 : Int32)) = byA v j := by
  rw [byA_eq v j hj, pk_and _ 8 (by decide +kernel)]
  refine congrArg nI ?_
  have hs := pk_shr v (((8 : Int32) * nI j) &&& 31) (8 * j) (shB' j hj)
  rw [Int.shiftRight_eq_div_pow] at hs
  exact shm v.toBitVec.isLt (v >>> (((8 : Int32) * nI j) &&& 31)).toBitVec.isLt (toNat_toInt v) (toNat_toInt _) hs (pw4 j hj)
def apF (v : Int32) (f : Nat → Int32) (t m : Nat) : Nat → Int32 := fun k => if t ≤ k ∧ k < t + m then byA v (t + m - 1 - k) else f k
theorem apF_step (v : Int32) (f : Nat → Int32) (t m : Nat) : apF v (upd f t (byA v m)) (t + 1) m = apF v f t (m + 1) := by
  funext k
  unfold apF
  by_cases c : k = t
  · subst c
    rw [if_neg (by omega), if_pos (by omega), pk_us, show k + (m + 1) - 1 - k = m by omega]
  · rw [pk_un c]
    by_cases c2 : t + 1 ≤ k ∧ k < t + 1 + m
    · rw [if_pos c2, if_pos (by omega), show t + 1 + m - 1 - k = t + (m + 1) - 1 - k by omega]
    · rw [if_neg c2, if_neg (by omega)]
theorem apF_0 (v : Int32) (f : Nat → Int32) (t : Nat) : apF v f t 0 = f := by
  funext k
  exact if_neg (by omega)
theorem sI_fun {M : Mm} {o k : Nat} {v : Int32} : (sI M o k v).1 o = upd (M.1 o) k v := by rw [sI_sA, sA_at]
theorem X4_append_loop (v : Int32) : ∀ (m n t : Nat) (M : Mm), m ≤ 4 → m < n → t + m ≤ 120 → M.2.2 61 0 = some 62 → M.1 61 1 = nI t →
    ∃ M', f_X4_append_b4 n M 61 v (nI m - 1) = some (M', ()) ∧ M'.2 = M.2 ∧ M'.1 61 1 = nI (t + m) ∧ M'.1 62 = apF v (M.1 62) t m ∧ ∀ o, o ≠ 61 → o ≠ 62 → M'.1 o = M.1 o := by
  intro m
  induction m with
  | zero =>
    intro n t M _ hn h1 h2 h3
    obtain ⟨n, rfl⟩ : ∃ z, n = z + 1 := ⟨n - 1, by omega⟩
    refine ⟨M, ?_, rfl, h3, (apF_0 _ _ _).symm, fun _ _ _ => rfl⟩
    simp only [f_X4_append_b4]
    rw [if_pos (by decide)]
  | succ m ih =>
    intro n t M h4 hn h1 h2 h3
    obtain ⟨n, rfl⟩ : ∃ z, n = z + 1 := ⟨n - 1, by omega⟩
    obtain ⟨M', e1, e2, e3, e4, e5⟩ := ih n (t + 1) (sI (sI M 62 t (byA v m)) 61 1 (nI (t + 1))) (by omega) (by omega) (by omega) h2 rdE
    refine ⟨M', ?_, e2, by rw [e3, show t + 1 + m = t + (m + 1) by omega], ?_, fun o h1 h2 => by rw [e5 o h1 h2, sI_obj h1, sI_obj h2]⟩
    · simp only [f_X4_append_b4]
      rw [nI_pred, if_neg (nI_pos (by omega)), gd_t gX61, h2, Option.bind_some, h3, gd_t (show okA nX shX 62 8 (nI t) from ⟨by decide, vin_nI (show t < 120 by omega) (by decide)⟩), nI_clamp (by omega)]
      simp only [lt]
      rw [rdN (by decide), h3, nI_1, show nI m + (-1 : Int32) = nI m - 1 from (Int32.sub_eq_add_neg _ _).symm]
      exact e1
    · rw [e4, sI_obj (show 62 ≠ 61 by decide), sI_fun, apF_step]
theorem X7_feed_loop (v : Int32) : ∀ (m n t : Nat) (M : Mm), m ≤ 4 → m < n → t + m ≤ 120 → RM M → M.1 0 9 = nI t →
    ∃ M', f_X7_feed_b36 n M 0 v (nI m - 1) = some (M', nI (t + m)) ∧ M'.2 = M.2 ∧ M'.1 0 9 = nI (t + m) ∧ M'.1 5 = apF v (M.1 5) t m ∧ (∀ o, o ≠ 0 → o ≠ 5 → M'.1 o = M.1 o) ∧ ∀ k, k ≠ 9 → M'.1 0 k = M.1 0 k := by
  intro m
  induction m with
  | zero =>
    intro n t M _ hn h1 h2 h3
    obtain ⟨n, rfl⟩ : ∃ z, n = z + 1 := ⟨n - 1, by omega⟩
    refine ⟨M, ?_, rfl, h3, (apF_0 _ _ _).symm, fun _ _ _ => rfl, fun _ _ => rfl⟩
    simp only [f_X7_feed_b36]
    rw [if_pos (by decide), gd_t gM0, h3]
    rfl
  | succ m ih =>
    intro n t M h4 hn h1 h2 h3
    obtain ⟨n, rfl⟩ : ∃ z, n = z + 1 := ⟨n - 1, by omega⟩
    obtain ⟨M', e1, e2, e3, e4, e5, e6⟩ := ih n (t + 1) (sI (sI M 5 t (byA v m)) 0 9 (nI (t + 1))) (by omega) (by omega) (by omega) h2 rdE
    refine ⟨M', ?_, e2, by rw [e3, show t + 1 + m = t + (m + 1) by omega], ?_, fun o h1 h2 => by rw [e5 o h1 h2, sI_obj h1, sI_obj h2], fun k hk => by rw [e6 k hk, rdK hk, sI_obj (by decide)]⟩
    · simp only [f_X7_feed_b36]
      rw [nI_pred, if_neg (nI_pos (by omega)), gd_t gM0, h2.at 8 rfl, Option.bind_some, h3, gd_t (show okA nM shM 5 8 (nI t) from ⟨by decide, vin_nI (show t < 120 by omega) (by decide)⟩), nI_clamp (by omega), byB_eq v m (by omega)]
      simp only [lt]
      rw [rdN (by decide), h3, nI_1, show nI m + (-1 : Int32) = nI m - 1 from (Int32.sub_eq_add_neg _ _).symm, show t + (m + 1) = t + 1 + m by omega]
      exact e1
    · rw [e4, sI_obj (show 5 ≠ 0 by decide), sI_fun, apF_step]
theorem B_feed (h : Rel X Y) (v a : Int32) : Both (f_X6_feed X 0 v a) (f_X7_feed Y 0 v a) := by
  have x5 := h.xq.1.2.2.2.2.1
  obtain ⟨n, hn, t1, t2, t3⟩ := h.2.2.2.2.2.2.2.2.1
  unfold f_X6_feed f_X7_feed f_X6_feed_b10
  rw [rgB, X7_in]
  simp only [Option.bind_some, iteB, gd_t gX0, gd_t gM0, X6_finding h.xq 0 (by decide) 0 rfl, X7_finding h.rm 0 (by decide) 0 rfl]
  by_cases c : 1 ≤ a ∧ a ≤ 4
  · obtain ⟨m, hm, rfl⟩ := nI_at' (Int32.le_trans (by decide) c.1) (show (4 : Nat) < 2 ^ 31 by decide) c.2
    simp only [if_pos c, x5, Option.bind_some, gd_t gX61, t1, t2, nI_add]
    by_cases c2 : n + m ≤ 120
    · have c3 : nI (n + m) ≤ (120 : Int32) := nI_le (b := 120) c2 (by decide)
      obtain ⟨X', e1, e2, e3, e4, e5⟩ := X4_append_loop v m 1000 n X hm (by omega) c2 h.xq.2.2.1 t1
      obtain ⟨Y', f1, f2, f3, f4, f5, f6⟩ := X7_feed_loop v m 1000 n Y hm (by omega) c2 h.rm t2
      have e1' : f_X4_append X 61 v (nI m) = some (X', ()) := e1
      simp only [if_pos c3, e1', f1, Option.bind_some]
      rw [show X'.2.2 0 5 = some 61 by rw [e2]; exact x5, Option.bind_some, gd_t gX61, e3]
      refine ⟨_, _, _, rfl, rfl, h.tape e2 f2 e5 f5 f6 ⟨n + m, c2, e3, f3, fun k hk => ?_⟩⟩
      rw [e4, f4]
      unfold apF
      by_cases c4 : n ≤ k ∧ k < n + m
      · rw [if_pos c4, if_pos c4, byA_eq v _ (by omega)]
        exact ⟨rfl, _, Nat.mod_lt _ (by decide), rfl⟩
      · rw [if_neg c4, if_neg c4]
        exact t3 k (by omega)
    · have c3 : ¬ nI (n + m) ≤ (120 : Int32) := nI_ge (b := n + m) (a := 120) (by omega) (by omega)
      simp only [if_neg c3, X6_finding h.xq 1 (by decide) 1 rfl, X7_finding h.rm 1 (by decide) 1 rfl, Option.bind_some]
      exact Both.fin h 1 _
  · simp only [if_neg c]
    exact Both.fin h 0 _
end MM

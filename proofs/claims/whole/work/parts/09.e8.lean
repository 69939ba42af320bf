/-! ===== in lowest terms ===== -/
theorem gcd_step (a b : Nat) : Nat.gcd a b = Nat.gcd b (a % b) := by rw [Nat.gcd_comm a b, Nat.gcd_rec, Nat.gcd_comm]
theorem half_mod {b r : Nat} (hr : 0 < r) (hb : r < b) : 2 * (b % r) < b := by
  have h1 := Nat.mod_lt b hr
  have h2 := Nat.div_add_mod b r
  have h3 : 1 ≤ b / r := (Nat.le_div_iff_mul_le hr).mpr (by omega)
  have h4 : r * 1 ≤ r * (b / r) := Nat.mul_le_mul_left r h3
  omega
theorem pw2 (k : Nat) : 2 ^ (k + 1) = 2 * 2 ^ k := by rw [Nat.pow_succ, Nat.mul_comm]
theorem low_x {M : Mm} {x0 x2 : Int64} {x4 : Int32} : ∀ (k a b n st : Nat), b < 2 ^ k → a < 2 ^ 62 → b < 2 ^ 62 → st + 2 * k < 100 → 2 * k + 1 < n → f_X6_inLowestTerms_b9 n M x0 x2 x4 (lN a) (lN b) (nI st) = f_X6_inLowestTerms_b44 M x0 x2 x4 (lN (Nat.gcd a b)) := by
  have z : ∀ (a n st : Nat), st < 100 → f_X6_inLowestTerms_b9 (n + 1) M x0 x2 x4 (lN a) (lN 0) (nI st) = f_X6_inLowestTerms_b44 M x0 x2 x4 (lN a) := by
    intro a n st hst
    simp only [f_X6_inLowestTerms_b9]
    rw [if_neg (show ¬ (100 : Int32) ≤ nI st from nI_ge (b := 100) hst (by decide)), if_pos (show lg_cmp (lN 0) 0 = 0 from (lg_cmp_eq _ _).mpr rfl)]
  have one : ∀ (a b n st : Nat), 0 < b → a < 2 ^ 62 → b < 2 ^ 62 → st < 100 → f_X6_inLowestTerms_b9 (n + 1) M x0 x2 x4 (lN a) (lN b) (nI st) = f_X6_inLowestTerms_b9 n M x0 x2 x4 (lN b) (lN (a % b)) (nI (st + 1)) := by
    intro a b n st hb ha hb2 hst
    have hne : ¬ lN b = 0 := fun z => by
      have := (pk_lEQ (a := b) (b := 0) (by omega) (by decide)).mp z
      omega
    simp only [f_X6_inLowestTerms_b9]
    rw [if_neg (show ¬ (100 : Int32) ≤ nI st from nI_ge (b := 100) hst (by decide)), if_neg (fun z => hne ((lg_cmp_eq _ _).mp z)), gd_t hne, pk_lRem (by omega) hb (by omega), nI_1]
  intro k
  induction k with
  | zero =>
    intro a b n st h1 h2 h3 h4 h5
    obtain rfl : b = 0 := by omega
    obtain ⟨n, rfl⟩ : ∃ z, n = z + 1 := ⟨n - 1, by omega⟩
    rw [z a n st (by omega), Nat.gcd_zero_right]
  | succ k ih =>
    intro a b n st h1 h2 h3 h4 h5
    obtain ⟨n, rfl⟩ : ∃ z, n = z + 1 + 1 := ⟨n - 2, by omega⟩
    by_cases c : b = 0
    · subst c
      rw [z a (n + 1) st (by omega), Nat.gcd_zero_right]
    · rw [one a b (n + 1) st (by omega) h2 h3 (by omega)]
      by_cases c2 : a % b = 0
      · rw [c2, z b n (st + 1) (by omega), gcd_step a b, c2, Nat.gcd_zero_right]
      · have hr := Nat.mod_lt a (show 0 < b by omega)
        rw [one b (a % b) n (st + 1) (by omega) h3 (by omega) (by omega), gcd_step a b, gcd_step b (a % b)]
        have hh := half_mod (b := b) (r := a % b) (by omega) hr
        rw [pw2] at h1
        exact ih (a % b) (b % (a % b)) n (st + 1 + 1) (by omega) (by omega) (by omega) (by omega) (by omega)
theorem low_y {M : Mm} {x0 x2 : Int64} {x4 : Int32} : ∀ (k a b n : Nat), b < 2 ^ k → a < 2 ^ 62 → b < 2 ^ 62 → 0 < Nat.gcd a b → 2 * k + 1 < n → f_X7_told_b6 n M x0 x2 x4 (lN a) (lN b) = some (M, (if x4 = 0 then x0 else x2) / lN (Nat.gcd a b)) := by
  have z : ∀ (a n : Nat), 0 < a → a < 2 ^ 62 → f_X7_told_b6 (n + 1) M x0 x2 x4 (lN a) (lN 0) = some (M, (if x4 = 0 then x0 else x2) / lN a) := by
    intro a n ha ha2
    have hne : ¬ lN a = 0 := fun z => by
      have := (pk_lEQ (a := a) (b := 0) (by omega) (by decide)).mp z
      omega
    simp only [f_X7_told_b6]
    rw [if_pos (show lg_cmp (lN 0) 0 = 0 from (lg_cmp_eq _ _).mpr rfl), gd_t hne, gd_t hne]
    split <;> rfl
  have one : ∀ (a b n : Nat), 0 < b → a < 2 ^ 62 → b < 2 ^ 62 → f_X7_told_b6 (n + 1) M x0 x2 x4 (lN a) (lN b) = f_X7_told_b6 n M x0 x2 x4 (lN b) (lN (a % b)) := by
    intro a b n hb ha hb2
    have hne : ¬ lN b = 0 := fun z => by
      have := (pk_lEQ (a := b) (b := 0) (by omega) (by decide)).mp z
      omega
    simp only [f_X7_told_b6]
    rw [if_neg (fun z => hne ((lg_cmp_eq _ _).mp z)), gd_t hne, pk_lRem (by omega) hb (by omega)]
  intro k
  induction k with
  | zero =>
    intro a b n h1 h2 h3 h4 h5
    obtain rfl : b = 0 := by omega
    obtain ⟨n, rfl⟩ : ∃ z, n = z + 1 := ⟨n - 1, by omega⟩
    rw [Nat.gcd_zero_right] at h4 ⊢
    exact z a n h4 h2
  | succ k ih =>
    intro a b n h1 h2 h3 h4 h5
    obtain ⟨n, rfl⟩ : ∃ z, n = z + 1 + 1 := ⟨n - 2, by omega⟩
    by_cases c : b = 0
    · subst c
      rw [Nat.gcd_zero_right] at h4 ⊢
      exact z a (n + 1) h4 h2
    · rw [one a b (n + 1) (by omega) h2 h3]
      by_cases c2 : a % b = 0
      · rw [c2, z b n (by omega) h3, gcd_step a b, c2, Nat.gcd_zero_right]
      · have hr := Nat.mod_lt a (show 0 < b by omega)
        rw [one b (a % b) n (by omega) h3 (by omega)]
        have hg : Nat.gcd a b = Nat.gcd (a % b) (b % (a % b)) := by rw [gcd_step a b, gcd_step b (a % b)]
        rw [hg] at h4 ⊢
        have hh := half_mod (b := b) (r := a % b) (by omega) hr
        rw [pw2] at h1
        exact ih (a % b) (b % (a % b)) n (by omega) (by omega) (by omega) h4 (by omega)
theorem low_both {X Y : Mm} {a b : Nat} (ha : a < 2 ^ 40) (hb : b < 2 ^ 40) (hb0 : 0 < b) (p : Int32) : ∃ v, f_X6_inLowestTerms X (lN a) (lN b) p = some (X, v) ∧ f_X7_told Y (lN a) (lN b) p = some (Y, v) := by
  have hg : 0 < Nat.gcd a b := Nat.gcd_pos_of_pos_right a hb0
  have hgb : Nat.gcd a b ≤ b := Nat.gcd_le_right a hb0
  have hne : ¬ lN (Nat.gcd a b) = 0 := fun z => by
    have := (pk_lEQ (a := Nat.gcd a b) (b := 0) (by omega) (by decide)).mp z
    omega
  refine ⟨(if p = 0 then lN a else lN b) / lN (Nat.gcd a b), ?_, low_y 40 a b 1000 hb (by omega) (by omega) hg (by decide)⟩
  refine (low_x 40 b a 1000 0 ha (by omega) (by omega) (by decide) (by decide)).trans ?_
  rw [Nat.gcd_comm b a]
  unfold f_X6_inLowestTerms_b44 f_X6_inLowestTerms_b63
  rw [if_neg (fun z => hne ((lg_cmp_eq _ _).mp z)), gd_t hne, gd_t hne]
  split <;> rfl
/-! ===== the calls that tell of all ways ===== -/
theorem WY.to0 {s : Rw} {T : Trp} {a : Int32} {Y Y' : Mm} (h : WY s T a Y Y') (hI : Inv s) (hT : T.1 = -1) : WY s T0 a Y Y' := by
  have hd : nP s + (nG s - nP s) = nG s := by have := hI.2.2.1.2; omega
  have e : ∀ φ, EA T φ (nG s - nP s) s = EA T0 φ (nG s - nP s) s := fun φ => EA_T hT rfl _ s hI hd
  have m : ∀ φ, MA T φ (nG s - nP s) s = MA T0 φ (nG s - nP s) s := fun φ => MA_T hT rfl _ s hI hd
  have w : WA T (nG s - nP s) s = WA T0 (nG s - nP s) s := WA_T hT rfl _ s hI hd
  unfold WY at *
  simp only [e, m, w] at h
  exact h
theorem ways_both {X Y : Mm} (h : Rel X Y) {k0 : Nat} (hk0 : k0 < 6) (n0 : Int32) {u : Int32} (hu : u = 0 ∨ u = 1) : ∃ X1 X' Y', f_X1_become X 38 1 = some (X1, ()) ∧ f_X5_over X1 37 (nI k0) n0 u = some (X', ()) ∧ WX (Y.1 1) T0 k0 n0 u X1 X' ∧ X1.2.2 = X.2.2 ∧ X'.2.2 = X.2.2 ∧ f_X7_findWays Y 0 = some (Y', lN (10 ^ (nG (Y.1 1) - nP (Y.1 1)))) ∧ WY (Y.1 1) T0 (Y.1 0 21) Y Y' ∧ Rel X' Y' := by
  have hI := h.inv
  obtain ⟨X1, a1, a2, a3⟩ := become38 h
  obtain ⟨X', b1, b2⟩ := X5_over (h.1.at a3.out) a2 hI (Or.inl rfl) hk0 hu n0
  obtain ⟨Y', c1, c2⟩ := X7_findWays hI h.rm rfl (Or.inl h.told1)
  have c3 := c2.to0 hI h.told1
  refine ⟨X1, X', Y', a1, b1, b2, a3.out, b2.1.trans a3.out, c1, c3, ?_⟩
  refine h.aside (b2.1.trans a3.out) (fun o ho => (b2.2.2.1 o (by omega)).trans (a3.2 o (by omega))) b2.2.1.2.2.2.2.2.2.2 c3.1 (c3.2.1.inv hI) (h.2.2.2.1.sim hI c3.2.1) (fun o ho => c3.2.2.1 o (by omega) (by omega) (by omega)) (c3.2.2.2.1 3 (by decide)) (c3.2.2.2.1 9 (by decide)) ((c3.2.2.2.1 5 (by decide)).trans h.told1)
theorem pw_le {s : Rw} (hI : Inv s) : 0 < 10 ^ (nG s - nP s) ∧ 10 ^ (nG s - nP s) ≤ 100000000 := by
  have h8 := hI.2.1.2
  exact ⟨pw_pos _, Nat.le_trans (Nat.pow_le_pow_right (by decide) (show nG s - nP s ≤ 8 by omega)) (by decide)⟩
theorem EA_lt {s : Rw} {T : Trp} {φ : Rw → Nat} (hI : Inv s) (hT : TOk T) (hφ : ∀ s', Inv s' → φ s' ≤ 72) : EA T φ (nG s - nP s) s < 2 ^ 40 := by
  have hd : nP s + (nG s - nP s) = nG s := by have := hI.2.2.1.2; omega
  have h1 := EA_le hT (N := 72) _ s hI hd (fun s' a _ => hφ s' a)
  have h2 := (pw_le hI).2
  omega
theorem ite_72 {c : Prop} [Decidable c] : (if c then 1 else 0) ≤ 72 := by split <;> omega
theorem ite_72' {c : Prop} [Decidable c] : (if c then 0 else 1) ≤ 72 := by split <;> omega
section MM
variable {X Y : Mm}
theorem X6_isPart (a : Int32) : f_X6_isPart X a = some (X, if 0 ≤ a ∧ a ≤ 1 then 1 else 0) := by
  unfold f_X6_isPart f_X6_isPart_b9
  by_cases c1 : a = 0
  · rw [if_pos c1, if_pos (by rw [c1]; decide)]
  · rw [if_neg c1]
    by_cases c2 : a = 1
    · rw [if_pos c2, if_pos (by rw [c2]; decide)]
    · rw [if_neg c2, if_neg (fun z => by
        obtain ⟨j, hj, rfl⟩ := nI_at' z.1 (show (1 : Nat) < 2 ^ 31 by decide) z.2
        rcases (show j = 0 ∨ j = 1 by omega) with e | e
        · exact c1 (by rw [e]; rfl)
        · exact c2 (by rw [e]; rfl))]
theorem X7_isPart (a : Int32) : f_X7_isPart Y a = some (Y, if 0 ≤ a ∧ a ≤ 1 then 1 else 0) := by
  unfold f_X7_isPart
  rw [X7_in, Option.bind_some, gd_t bzB]
theorem Both.finL (h : Rel X Y) (k : Nat) (r : Int64) : Both (some (fX X k, r)) (some (fY Y k, r)) := ⟨_, _, _, rfl, rfl, h.fin k⟩
theorem Both.noL (h : Rel X Y) (r : Int64) : Both (some (X, r)) (some (Y, r)) := ⟨_, _, _, rfl, rfl, h⟩
theorem likely (h : Rel X Y) : ∃ X1 X' Y', f_X6_goLikelyWays X 0 = some (X', ()) ∧ WX (Y.1 1) T0 0 0 0 X1 X' ∧ X'.2.2 = X.2.2 ∧ f_X7_findWays Y 0 = some (Y', lN (10 ^ (nG (Y.1 1) - nP (Y.1 1)))) ∧ WY (Y.1 1) T0 (Y.1 0 21) Y Y' ∧ Rel X' Y' := by
  obtain ⟨X1, X', Y', a1, a2, a3, a4, a5, a6, a7, a8⟩ := ways_both h (k0 := 0) (by decide) 0 (Or.inl rfl)
  refine ⟨X1, X', Y', ?_, a3, a5, a6, a7, a8⟩
  have x0 := h.xq.1.1
  have x3 := h.xq.1.2.2.1
  have x4 := h.xq.1.2.2.2.1
  unfold f_X6_goLikelyWays
  rw [gd_t gX0, x4, Option.bind_some, x0, Option.bind_some, gd_t gX38, a1, Option.bind_some]
  dsimp only
  rw [a4, x3, Option.bind_some, gd_t gX37, show f_X5_over X1 37 0 0 0 = _ from a2, Option.bind_some]
theorem B_ways (h : Rel X Y) : Both (f_X6_ways X 0) (f_X7_ways Y 0) := by
  obtain ⟨X1, X', Y', a1, a2, a3, a4, a5, a6⟩ := likely h
  have x3 := h.xq.1.2.2.1
  unfold f_X6_ways f_X7_ways
  rw [gd_t gX0, gd_t gM0, a1, a4, Option.bind_some, Option.bind_some]
  dsimp only
  rw [a3, x3, Option.bind_some, gd_t gX37, a2.2.2.2.1, a5.2.2.2.2.1]
  exact Both.no a6 _
theorem B_first (h : Rel X Y) (a p : Int32) : Both (f_X6_first X 0 a p) (f_X7_first Y 0 a p) := by
  have hI := h.inv
  have h6 := hI.1.2
  have x0 := h.xq.1.1
  have x3 := h.xq.1.2.2.1
  unfold f_X6_first f_X7_first f_X6_first_b18 f_X7_first_b15
  simp only [gd_t gX0, gd_t gM0, x0, Option.bind_some, gd_t gX1, X1_hasSide h.lg1 hI, X7_isSide h.rm hI, X6_isPart, X7_isPart, iteB, X6_finding h.xq 0 (by decide) 0 rfl, X7_finding h.rm 0 (by decide) 0 rfl]
  by_cases c1 : 0 ≤ a ∧ a < nI (nS (Y.1 1))
  · simp only [if_pos c1]
    by_cases c2 : 0 ≤ p ∧ p ≤ 1
    · obtain ⟨i, hi, rfl⟩ := nI_at c1.1 (by omega) c1.2
      obtain ⟨X1, X', Y', a1, a2, a3, a4, a5, a6⟩ := likely h
      have ei : (nI i).toNatClampNeg = i := nI_clamp (by omega)
      obtain ⟨v, v1, v2⟩ := low_both (X := X') (Y := Y') (EA_lt (T := T0) (φ := fF i) hI (Or.inl rfl) (fun _ _ => ite_72)) (b := 10 ^ (nG (Y.1 1) - nP (Y.1 1))) (by have := (pw_le hI).2; omega) (pw_le hI).1 p
      have p2 := h.xq.2.1.2.2.1
      have y8 : Y'.2.2 0 18 = some 8 := by rw [a5.1]; exact h.rm.at 18 rfl
      simp only [if_pos c2, a1, a4, Option.bind_some, a3, x3, gd_t gX37, p2, gd_t (hL7 (show i < 6 by omega)), ei, y8, gd_t (gL8 (show i < 6 by omega)), a2.2.2.2.2.2.1 i hi, a2.2.2.2.2.2.2.2.2.1, a5.2.2.2.2.2.2.2.1 i (by omega), v1, v2]
      exact Both.noL a6 _
    · simp only [if_neg c2]
      exact Both.finL h 0 _
  · simp only [if_neg c1]
    exact Both.finL h 0 _
theorem B_mean (h : Rel X Y) (a p : Int32) : Both (f_X6_mean X 0 a p) (f_X7_mean Y 0 a p) := by
  have hI := h.inv
  have h6 := hI.1.2
  have x0 := h.xq.1.1
  have x3 := h.xq.1.2.2.1
  unfold f_X6_mean f_X7_mean f_X6_mean_b18 f_X7_mean_b15
  simp only [gd_t gX0, gd_t gM0, x0, Option.bind_some, gd_t gX1, X1_hasSide h.lg1 hI, X7_isSide h.rm hI, X6_isPart, X7_isPart, iteB, X6_finding h.xq 0 (by decide) 0 rfl, X7_finding h.rm 0 (by decide) 0 rfl]
  by_cases c1 : 0 ≤ a ∧ a < nI (nS (Y.1 1))
  · simp only [if_pos c1]
    by_cases c2 : 0 ≤ p ∧ p ≤ 1
    · obtain ⟨i, hi, rfl⟩ := nI_at c1.1 (by omega) c1.2
      obtain ⟨X1, X', Y', a1, a2, a3, a4, a5, a6⟩ := likely h
      have ei : (nI i).toNatClampNeg = i := nI_clamp (by omega)
      obtain ⟨v, v1, v2⟩ := low_both (X := X') (Y := Y') (EA_lt (T := T0) (φ := fP i) hI (Or.inl rfl) (fun s' hI' => (pN_ok hI' i).2)) (b := 10 ^ (nG (Y.1 1) - nP (Y.1 1))) (by have := (pw_le hI).2; omega) (pw_le hI).1 p
      have p2 := h.xq.2.1.2.1
      have y8 : Y'.2.2 0 19 = some 9 := by rw [a5.1]; exact h.rm.at 19 rfl
      simp only [if_pos c2, a1, a4, Option.bind_some, a3, x3, gd_t gX37, p2, gd_t (hL6 (show i < 6 by omega)), ei, y8, gd_t (gL9 (show i < 6 by omega)), a2.2.2.2.2.1 i hi, a2.2.2.2.2.2.2.2.2.1, a5.2.2.2.2.2.2.2.2.1 i hi, v1, v2]
      exact Both.noL a6 _
    · simp only [if_neg c2]
      exact Both.finL h 0 _
  · simp only [if_neg c1]
    exact Both.finL h 0 _
theorem B_moved (h : Rel X Y) (a p : Int32) : Both (f_X6_moved X 0 a p) (f_X7_moved Y 0 a p) := by
  have hI := h.inv
  have h8 := hI.2.1.2
  have x0 := h.xq.1.1
  have x3 := h.xq.1.2.2.1
  unfold f_X6_moved f_X7_moved f_X6_moved_b18 f_X7_moved_b15
  simp only [gd_t gX0, gd_t gM0, x0, Option.bind_some, gd_t gX1, X1_hasGame h.lg1 hI, X7_isGame h.rm hI, X6_isPart, X7_isPart, iteB, X6_finding h.xq 0 (by decide) 0 rfl, X7_finding h.rm 0 (by decide) 0 rfl]
  by_cases c1 : 0 ≤ a ∧ a < nI (nG (Y.1 1))
  · simp only [if_pos c1]
    by_cases c2 : 0 ≤ p ∧ p ≤ 1
    · obtain ⟨i, hi, rfl⟩ := nI_at c1.1 (by omega) c1.2
      obtain ⟨X1, X', Y', a1, a2, a3, a4, a5, a6⟩ := likely h
      have ei : (nI i).toNatClampNeg = i := nI_clamp (by omega)
      obtain ⟨v, v1, v2⟩ := low_both (X := X') (Y := Y') (EA_lt (T := T0) (φ := fM i) hI (Or.inl rfl) (fun _ _ => ite_72)) (b := 10 ^ (nG (Y.1 1) - nP (Y.1 1))) (by have := (pw_le hI).2; omega) (pw_le hI).1 p
      have p2 := h.xq.2.1.2.2.2.2.1
      have y8 : Y'.2.2 0 17 = some 7 := by rw [a5.1]; exact h.rm.at 17 rfl
      simp only [if_pos c2, a1, a4, Option.bind_some, a3, x3, gd_t gX37, p2, gd_t (hL9 (show i < 8 by omega)), ei, y8, gd_t (gL7 (show i < 8 by omega)), a2.2.2.2.2.2.2.2.1 i hi, a2.2.2.2.2.2.2.2.2.1, a5.2.2.2.2.2.2.1 i hi, v1, v2]
      exact Both.noL a6 _
    · simp only [if_neg c2]
      exact Both.finL h 0 _
  · simp only [if_neg c1]
    exact Both.finL h 0 _
theorem B_most (h : Rel X Y) (a : Int32) : Both (f_X6_most X 0 a) (f_X7_most Y 0 a) := by
  have hI := h.inv
  have h6 := hI.1.2
  have x0 := h.xq.1.1
  have x3 := h.xq.1.2.2.1
  have x4 := h.xq.1.2.2.2.1
  unfold f_X6_most f_X7_most
  simp only [gd_t gX0, gd_t gM0, x0, x4, Option.bind_some, gd_t gX1, gd_t gX38, X1_hasSide h.lg1 hI, X7_isSide h.rm hI, iteB, X6_finding h.xq 0 (by decide) 0 rfl, X7_finding h.rm 0 (by decide) 0 rfl]
  by_cases c1 : 0 ≤ a ∧ a < nI (nS (Y.1 1))
  · obtain ⟨i, hi, rfl⟩ := nI_at c1.1 (by omega) c1.2
    obtain ⟨X1, X', Y', a1, a2, a3, a4, a5, a6, a7, a8⟩ := ways_both h (k0 := i) (by omega) 0 (u := 1) (Or.inr rfl)
    have ei : (nI i).toNatClampNeg = i := nI_clamp (by omega)
    have y8 : Y'.2.2 0 20 = some 10 := by rw [a7.1]; exact h.rm.at 20 rfl
    simp only [if_pos c1, a1, Option.bind_some, a4, x3, gd_t gX37, a2, a5, a6, y8, gd_t (gI10 (show i < 6 by omega)), ei, a3.2.2.2.2.2.2.2.2.2.2.1 hi rfl, a7.2.2.2.2.2.2.2.2.2.2.1 i hi]
    exact Both.no a8 _
  · simp only [if_neg c1]
    exact Both.fin h 0 _
theorem B_least (h : Rel X Y) (a n p : Int32) : Both (f_X6_least X 0 a n p) (f_X7_least Y 0 a n p) := by
  have hI := h.inv
  have h6 := hI.1.2
  have x0 := h.xq.1.1
  have x3 := h.xq.1.2.2.1
  have x4 := h.xq.1.2.2.2.1
  unfold f_X6_least f_X7_least f_X6_least_b28 f_X7_least_b25
  simp only [gd_t gX0, gd_t gM0, x0, x4, Option.bind_some, gd_t gX1, gd_t gX38, X1_hasSide h.lg1 hI, X7_isSide h.rm hI, X6_isPart, X7_isPart, X7_in, rgA, iteB, X6_finding h.xq 0 (by decide) 0 rfl, X7_finding h.rm 0 (by decide) 0 rfl]
  by_cases c1 : 0 ≤ a ∧ a < nI (nS (Y.1 1))
  · simp only [if_pos c1]
    by_cases c3 : 0 ≤ n ∧ n ≤ 99
    · simp only [if_pos c3]
      by_cases c2 : 0 ≤ p ∧ p ≤ 1
      · obtain ⟨i, hi, rfl⟩ := nI_at c1.1 (by omega) c1.2
        have h1 : Rel X (sI Y 0 21 n) := h.aside rfl (fun _ _ => rfl) h.2.2.2.2.2.1 rfl (by rw [sI_obj (by decide)]; exact hI) (by rw [sI_obj (by decide)]; exact h.2.2.2.1) (fun o ho => sI_obj (by omega)) (rdK (by decide)) (rdK (by decide)) (by rw [rdK (by decide)]; exact h.told1)
        obtain ⟨X1, X', Y', a1, a2, a3, a4, a5, a6, a7, a8⟩ := ways_both h1 (k0 := i) (by omega) n (u := 0) (Or.inl rfl)
        rw [sI_obj (show 1 ≠ 0 by decide)] at a3 a6 a7
        rw [rdE] at a7
        have ei : (nI i).toNatClampNeg = i := nI_clamp (by omega)
        have y8 : Y'.2.2 0 22 = some 11 := by rw [a7.1]; exact h.rm.at 22 rfl
        obtain ⟨v, v1, v2⟩ := low_both (X := X') (Y := Y') (EA_lt (T := T0) (φ := fL i n) hI (Or.inl rfl) (fun _ _ => ite_72')) (b := 10 ^ (nG (Y.1 1) - nP (Y.1 1))) (by have := (pw_le hI).2; omega) (pw_le hI).1 p
        simp only [if_pos c2, lt, a1, Option.bind_some, a4, x3, gd_t gX37, a2, a5, a6, y8, gd_t (gL11 (show i < 6 by omega)), ei, a3.2.2.2.2.2.2.2.2.2.1 hi, a3.2.2.2.2.2.2.2.2.1, a7.2.2.2.2.2.2.2.2.2.1 i hi, v1, v2]
        exact Both.noL a8 _
      · simp only [if_neg c2]
        exact Both.finL h 0 _
    · simp only [if_neg c3]
      exact Both.finL h 0 _
  · simp only [if_neg c1]
    exact Both.finL h 0 _
theorem B_gets (h : Rel X Y) (g a p : Int32) : Both (f_X6_gets X 0 g a p) (f_X7_gets Y 0 g a p) := by
  have hI := h.inv
  have h6 := hI.1.2
  have h8 := hI.2.1.2
  have x0 := h.xq.1.1
  have x3 := h.xq.1.2.2.1
  have hd : nP (Y.1 1) + (nG (Y.1 1) - nP (Y.1 1)) = nG (Y.1 1) := by have := hI.2.2.1.2; omega
  unfold f_X6_gets f_X7_gets f_X6_gets_b29 f_X7_gets_b23
  simp only [gd_t gX0, gd_t gM0, x0, Option.bind_some, gd_t gX1, X1_hasGame h.lg1 hI, X7_isGame h.rm hI, X1_hasSide h.lg1 hI, X7_isSide h.rm hI, X6_isPart, X7_isPart, iteB, X6_finding h.xq 0 (by decide) 0 rfl, X7_finding h.rm 0 (by decide) 0 rfl]
  by_cases c0 : 0 ≤ g ∧ g < nI (nG (Y.1 1))
  · simp only [if_pos c0]
    by_cases c1 : 0 ≤ a ∧ a < nI (nS (Y.1 1))
    · simp only [if_pos c1]
      by_cases c2 : 0 ≤ p ∧ p ≤ 1
      · obtain ⟨i, hi, rfl⟩ := nI_at c1.1 (by omega) c1.2
        obtain ⟨j, hj, rfl⟩ := nI_at c0.1 (by omega) c0.2
        obtain ⟨X1, X', Y', a1, a2, a3, a4, a5, a6⟩ := likely h
        have ei : (nI i).toNatClampNeg = i := nI_clamp (by omega)
        have ej : (nI j).toNatClampNeg = j := nI_clamp (by omega)
        have eji : (nI (6 * j + i)).toNatClampNeg = 6 * j + i := nI_clamp (by omega)
        have hj8 : j < 8 := by omega
        obtain ⟨q0, q1, q2, q3, q4, -⟩ := hI.2.2.2.2.1 j hj
        have sm := a5.2.1
        obtain ⟨w0, w1, -⟩ := a6.2.2.2.1.2.2.1 j (by rw [sm.eG]; exact hj)
        rw [sm.lo hj8 (show 0 < 3 by decide), q0] at w0
        rw [sm.lo hj8 (show 1 < 3 by decide), q1] at w1
        have xg := a6.gm hj8
        have y16 : Y'.2.2 0 16 = some 6 := by rw [a5.1]; exact h.rm.at 16 rfl
        have p3 := h.xq.2.1.2.2.2.1
        have hV := a5.2.2.2.2.2.1 j hj i (by omega)
        rw [ej] at xg
        have hend : ∀ v : Int64, v = lN (EA T0 (fW j i) (nG (Y.1 1) - nP (Y.1 1)) (Y.1 1)) → Both (f_X6_gets_b105 X' 0 p v) (Option.bind (f_X7_told Y' (lN (EA T0 (fW j i) (nG (Y.1 1) - nP (Y.1 1)) (Y.1 1))) (lN (10 ^ (nG (Y.1 1) - nP (Y.1 1)))) p) (fun r13 => some (r13.1, r13.2))) := by
          intro v hv
          obtain ⟨r, v1, v2⟩ := low_both (X := X') (Y := Y') (EA_lt (T := T0) (φ := fW j i) hI (Or.inl rfl) (fun _ _ => ite_72)) (b := 10 ^ (nG (Y.1 1) - nP (Y.1 1))) (by have := (pw_le hI).2; omega) (pw_le hI).1 p
          unfold f_X6_gets_b105
          rw [gd_t gX0, a3, x3, Option.bind_some, gd_t gX37, a2.2.2.2.2.2.2.2.2.1, hv, v1, v2]
          exact Both.noL a6 _
        simp only [if_pos c2, a1, a4, Option.bind_some, x0, gd_t gX1, a6.l1, gd_t (gGr hj8), ej, xg, gd_t (a6.go hj8), w0, w1, show X'.2.2 0 0 = some 1 by rw [a3]; exact x0, show X'.2.2 0 3 = some 37 by rw [a3]; exact x3, gd_t gX37, show X'.2.2 37 3 = some 58 by rw [a3]; exact p3, gd_t (hL8 hj8), a2.2.2.2.2.2.2.1 j hj, a2.2.2.2.2.2.2.2.2.1, lt, y16, ix6, gd_t (gL6 (show 6 * j + i < 48 by omega)), eji, hV]
        have eF := EA_first (T := T0) hI hd hj
        have eB := EA_both (T := T0) hI (Or.inl rfl) hd hj
        by_cases d1 : nI i = nI (fI (Y.1 1) j)
        · have e : i = fI (Y.1 1) j := (nI_eq (by omega) (by omega)).mp d1
          rw [if_pos d1]
          exact hend _ (by rw [eF, ← e])
        · rw [if_neg d1]
          by_cases d2 : nI i = nI (oI (Y.1 1) j)
          · have e : i = oI (Y.1 1) j := (nI_eq (by omega) (by omega)).mp d2
            rw [if_pos d2]
            refine hend _ ?_
            rw [eF, ← eB, lN_sub (Nat.le_add_right _ _), ← e, Nat.add_sub_cancel_left]
          · rw [if_neg d2]
            refine hend _ ?_
            rw [EA_none hI hd hj (by omega) (fun e => d1 (by rw [e])) (fun e => d2 (by rw [e]))]
            rfl
      · simp only [if_neg c2]
        exact Both.finL h 0 _
    · simp only [if_neg c1]
      exact Both.finL h 0 _
  · simp only [if_neg c0]
    exact Both.finL h 0 _
end MM

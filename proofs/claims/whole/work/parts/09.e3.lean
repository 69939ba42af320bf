/-! ===== the reference goes all ways ===== -/
theorem sL_1 {M : Mm} {o k : Nat} {v : Int64} : (sL M o k v).1 = M.1 := rfl
theorem sL_r {M : Mm} {o k : Nat} {v : Int64} : (sL M o k v).2.2 = M.2.2 := rfl
theorem sL_e {M : Mm} {o k : Nat} {v : Int64} : (sL M o k v).2.1 o k = v := by simp [sL]
theorem sL_k {M : Mm} {o k j : Nat} {v : Int64} (h : j ≠ k) : (sL M o k v).2.1 o j = M.2.1 o j := by simp [sL, h]
theorem sL_o {M : Mm} {o k q j : Nat} {v : Int64} (h : q ≠ o) : (sL M o k v).2.1 q j = M.2.1 q j := by simp [sL, h]
theorem sI_l {M : Mm} {o k : Nat} {v : Int32} : (sI M o k v).2.1 = M.2.1 := rfl
theorem sA_l {M : Mm} {o : Nat} {f : Nat → Int32} : (sA M o f).2.1 = M.2.1 := rfl
theorem X7_leader0 {Y : Mm} (hM : RM Y) (hI : Inv (Y.1 1)) : f_X7_leader Y 0 = some (Y, nI (ldA (Y.1 1) (nP (Y.1 1)) (nS (Y.1 1)))) := by
  by_cases c : 0 < nS (Y.1 1)
  · exact X7_leader hM hI c
  · have h0 : nS (Y.1 1) = 0 := by omega
    have e := hI.1.1
    rw [h0] at e
    rw [h0]
    have key : ∀ n, f_X7_leader_b4 (n + 1) Y 0 0 1 = some (Y, 0) := by
      intro n
      simp only [f_X7_leader_b4]
      rw [gd_t gM0, hM.at 0 rfl, Option.bind_some, gd_t gA0, cl0, e, if_pos (by decide)]
    exact key 999
def YR (s : Rw) (Y Y' : Mm) (V : Nat → Nat → Nat) (Mv F P L X : Nat → Nat) (W : Nat) : Prop :=
  Y'.2.2 = Y.2.2 ∧ (∀ o, o ≠ 0 → o ≠ 1 → o ≠ 10 → Y'.1 o = Y.1 o) ∧ (∀ f, f ≠ 23 → Y'.1 0 f = Y.1 0 f) ∧ Y'.1 0 23 = Y.1 0 23 + nI W ∧
  (∀ g, g < nG s → ∀ k, k < 6 → Y'.2.1 6 (6 * g + k) = Y.2.1 6 (6 * g + k) + lN (V g k)) ∧ (∀ g, g < nG s → Y'.2.1 7 g = Y.2.1 7 g + lN (Mv g)) ∧ (∀ k, k < 6 → Y'.2.1 8 k = Y.2.1 8 k + lN (F k)) ∧ (∀ k, k < nS s → Y'.2.1 9 k = Y.2.1 9 k + lN (P k)) ∧ (∀ k, k < nS s → Y'.2.1 11 k = Y.2.1 11 k + lN (L k)) ∧ (∀ k, k < nS s → ∀ m, m < 1000 → Y.1 10 k = nI m → Y'.1 10 k = nI (max m (X k))) ∧ Y'.2.1 13 = Y.2.1 13
theorem l3 (x : Int64) (a b : Nat) : x + lN a + lN b = x + lN (a + b) := by rw [Int64.add_assoc, lN_add]
theorem YR.tr {s s' : Rw} {Y Y1 Y2 : Mm} {V V' : Nat → Nat → Nat} {Mv F P L X Mv' F' P' L' X' : Nat → Nat} {W W' : Nat} (h : YR s Y Y1 V Mv F P L X W) (h2 : YR s' Y1 Y2 V' Mv' F' P' L' X' W') (hG : nG s' = nG s) (hS : nS s' = nS s) (hX : ∀ k, X k < 1000) : YR s Y Y2 (fun g k => V g k + V' g k) (fun g => Mv g + Mv' g) (fun k => F k + F' k) (fun k => P k + P' k) (fun k => L k + L' k) (fun k => max (X k) (X' k)) (W + W') := by
  obtain ⟨a1, a2, a3, a4, a5, a6, a7, a8, a9, a10, a11⟩ := h
  obtain ⟨b1, b2, b3, b4, b5, b6, b7, b8, b9, b10, b11⟩ := h2
  rw [hG] at b5 b6
  rw [hS] at b8 b9 b10
  refine ⟨b1.trans a1, fun o h1 h2 h3 => (b2 o h1 h2 h3).trans (a2 o h1 h2 h3), fun f hf => (b3 f hf).trans (a3 f hf), ?_, fun g hg k hk => ?_, fun g hg => ?_, fun k hk => ?_, fun k hk => ?_, fun k hk => ?_, fun k hk m hm e => ?_, b11.trans a11⟩
  · rw [b4, a4, Int32.add_assoc, nI_add]
  · rw [b5 g hg k hk, a5 g hg k hk, l3]
  · rw [b6 g hg, a6 g hg, l3]
  · rw [b7 k hk, a7 k hk, l3]
  · rw [b8 k hk, a8 k hk, l3]
  · rw [b9 k hk, a9 k hk, l3]
  · have h1 := hX k
    rw [b10 k hk _ (by exact Nat.max_lt.mpr ⟨hm, h1⟩) (a10 k hk m hm e)]
    congr 1
    exact Nat.max_assoc m (X k) (X' k)
theorem gL6 {k : Nat} (hk : k < 48) : okA nM shM 6 9 (nI k) := ⟨by decide, vin_nI (show k < 48 from hk) (by decide)⟩
theorem gL7 {k : Nat} (hk : k < 8) : okA nM shM 7 9 (nI k) := ⟨by decide, vin_nI (show k < 8 from hk) (by decide)⟩
theorem gL8 {k : Nat} (hk : k < 6) : okA nM shM 8 9 (nI k) := ⟨by decide, vin_nI (show k < 6 from hk) (by decide)⟩
theorem gL9 {k : Nat} (hk : k < 6) : okA nM shM 9 9 (nI k) := ⟨by decide, vin_nI (show k < 6 from hk) (by decide)⟩
theorem gI10 {k : Nat} (hk : k < 6) : okA nM shM 10 8 (nI k) := ⟨by decide, vin_nI (show k < 6 from hk) (by decide)⟩
theorem gL11 {k : Nat} (hk : k < 6) : okA nM shM 11 9 (nI k) := ⟨by decide, vin_nI (show k < 6 from hk) (by decide)⟩
theorem ix6 (g k : Nat) : (6 : Int32) * nI g + nI k = nI (6 * g + k) := by
  rw [show (6 : Int32) = nI 6 from rfl, pk_mul, nI_add]
theorem gvL {s : Rw} (hI : Inv s) {g : Nat} (hg : g < nP s) : ∃ k, k < nS s ∧ gO s g 4 = nI k := by
  have hpg := hI.2.2.1.2
  obtain ⟨q0, q1, q2, q3, -, -⟩ := hI.2.2.2.2.1 g (by omega)
  rcases (hI.2.2.2.2.2.1 g hg).2 with z | z
  · exact ⟨_, q2, z.trans q0⟩
  · exact ⟨_, q3, z.trans q1⟩
theorem ends1 {s : Rw} (hI : Inv s) (hl : nP s = nG s) (w : Nat) : ∀ (d g n : Nat) (Y : Mm), g + d = nG s → d < n → RM Y → Y.1 1 = s →
    ∃ Y', f_X7_ends_b22 n Y 0 (lN w) (nI g) = f_X7_ends_b89 1000 Y' 0 (lN w) 0 ∧ Y'.1 = Y.1 ∧ Y'.2.2 = Y.2.2 ∧ (∀ h k, h < nG s → k < 6 → Y'.2.1 6 (6 * h + k) = Y.2.1 6 (6 * h + k) + lN (if g ≤ h then w * fW h k s else 0)) ∧ (∀ h, h < nG s → Y'.2.1 7 h = Y.2.1 7 h + lN (if g ≤ h then w * fM h s else 0)) ∧ ∀ o, o ≠ 6 → o ≠ 7 → Y'.2.1 o = Y.2.1 o := by
  have h6 := hI.1.2
  have h8 := hI.2.1.2
  intro d
  induction d with
  | zero =>
    intro g n Y h1 h2 hM hs
    obtain ⟨n, rfl⟩ : ∃ z, n = z + 1 := ⟨n - 1, by omega⟩
    refine ⟨Y, ?_, rfl, rfl, fun h k hh hk => by rw [if_neg (by omega), lN_0, Int64.add_zero], fun h hh => by rw [if_neg (by omega), lN_0, Int64.add_zero], fun _ _ _ => rfl⟩
    simp only [f_X7_ends_b22]
    rw [gd_t gM0, hM.at 0 rfl, Option.bind_some, gd_t gA1, cl1, hs, hI.2.1.1, if_pos (nI_le (by omega) (by omega))]
  | succ d ih =>
    intro g n Y h1 h2 hM hs
    obtain ⟨n, rfl⟩ : ∃ z, n = z + 1 := ⟨n - 1, by omega⟩
    obtain ⟨k, hk, ek⟩ := gvL hI (g := g) (by omega)
    have hsL : ∀ (o k : Nat) (v : Int64), (sL Y o k v).1 1 = s := fun _ _ _ => hs
    have x4 : ∀ Z : Mm, RM Z → Z.1 1 = s → f_X7_of Z 0 (nI g) 4 = some (Z, nI k) := fun Z hZ hz => by
      rw [X7_of hZ (nI g) 4 g 4 rfl rfl (by omega) (by decide), hz, ek]
    have x3 : ∀ Z : Mm, RM Z → Z.1 1 = s → f_X7_of Z 0 (nI g) 3 = some (Z, gO s g 3) := fun Z hZ hz => by
      rw [X7_of hZ (nI g) 3 g 3 rfl rfl (by omega) (by decide), hz]
    obtain ⟨Y', e1, e2, e3, e4, e5, e6⟩ := ih (g + 1) n (sL (sL Y 6 (6 * g + k) (Y.2.1 6 (6 * g + k) + lN w)) 7 g (Y.2.1 7 g + lN (w * fM g s))) (by omega) (by omega) hM hs
    refine ⟨Y', ?_, e2, e3, fun h j hh hj => ?_, fun h hh => ?_, fun o h1 h2 => ?_⟩
    · simp only [f_X7_ends_b22]
      rw [gd_t gM0, hM.at 0 rfl, Option.bind_some, gd_t gA1, cl1, hs, hI.2.1.1, if_neg (nI_ge (by omega) (by omega)), hM.at 16 rfl, Option.bind_some, x4 Y hM hs, Option.bind_some]
      dsimp only
      rw [ix6, gd_t (gL6 (by omega)), gd_t (gL6 (by omega)), nI_clamp (by omega)]
      simp only [lt]
      rw [sL_r, hM.at 17 rfl, Option.bind_some, gd_t (gL7 (by omega)), x4 (sL Y 6 (6 * g + k) (Y.2.1 6 (6 * g + k) + lN w)) hM hs, Option.bind_some]
      dsimp only
      rw [x3 (sL Y 6 (6 * g + k) (Y.2.1 6 (6 * g + k) + lN w)) hM hs, Option.bind_some]
      dsimp only
      rw [nI_clamp (by omega), sL_o (show 7 ≠ 6 by decide)]
      have ew : f_X7_ends_b22 n (sL (sL Y 6 (6 * g + k) (Y.2.1 6 (6 * g + k) + lN w)) 7 g (Y.2.1 7 g + lN (w * fM g s))) 0 (lN w) (nI g + 1) = f_X7_ends_b89 1000 Y' 0 (lN w) 0 := by rw [nI_1]; exact e1
      unfold f_X7_ends_b79
      rw [gd_t (gL7 (by omega)), gd_t (gL7 (by omega)), nI_clamp (by omega)]
      simp only [lt]
      by_cases c : nI k = gO s g 3
      · rw [if_pos c, ← ew]
        have : fM g s = 0 := if_neg (fun z => z.2 (ek.trans c))
        rw [this, Nat.mul_zero]
        rfl
      · rw [if_neg c, ← ew]
        have : fM g s = 1 := if_pos ⟨by omega, fun z => c (ek.symm.trans z)⟩
        rw [this, Nat.mul_one]
    · rw [e4 h j hh hj, sL_o (show 6 ≠ 7 by decide)]
      by_cases c : h = g
      · subst c
        rw [if_neg (by omega), lN_0, Int64.add_zero, if_pos (Nat.le_refl _)]
        by_cases c2 : j = k
        · subst c2
          have : fW h j s = 1 := if_pos ⟨by omega, ek⟩
          rw [sL_e, this, Nat.mul_one]
        · have : fW h j s = 0 := if_neg (fun z => c2 ((nI_eq (by omega) (by omega)).mp (z.2.symm.trans ek)))
          rw [sL_k (by omega), this, Nat.mul_zero, lN_0, Int64.add_zero]
      · rw [sL_k (by omega)]
        by_cases c2 : g + 1 ≤ h
        · rw [if_pos c2, if_pos (by omega)]
        · rw [if_neg c2, if_neg (by omega)]
    · rw [e5 h hh]
      by_cases c : h = g
      · subst c
        rw [if_neg (by omega), lN_0, Int64.add_zero, if_pos (Nat.le_refl _), sL_e]
      · rw [sL_k c, sL_o (by decide)]
        by_cases c2 : g + 1 ≤ h
        · rw [if_pos c2, if_pos (by omega)]
        · rw [if_neg c2, if_neg (by omega)]
    · rw [e6 o h1 h2]
      funext j
      rw [sL_o h2, sL_o h1]
theorem ends2 {s : Rw} (hI : Inv s) (w : Nat) (hw : w < 2 ^ 40) : ∀ (d k n : Nat) (Y : Mm), k + d = nS s → d < n → RM Y → Y.1 1 = s →
    ∃ Y', f_X7_ends_b89 n Y 0 (lN w) (nI k) = some (Y', ()) ∧ Y'.2.2 = Y.2.2 ∧ (∀ o, o ≠ 10 → Y'.1 o = Y.1 o) ∧ (∀ j, j < 6 → Y'.2.1 8 j = Y.2.1 8 j + lN (w * fF j s)) ∧ (∀ j, j < nS s → Y'.2.1 9 j = Y.2.1 9 j + lN (if k ≤ j then w * pN s j else 0)) ∧ (∀ j, j < nS s → Y'.2.1 11 j = Y.2.1 11 j + lN (if k ≤ j then w * fL j (Y.1 0 21) s else 0)) ∧ (∀ j, j < nS s → ∀ m, m < 1000 → Y.1 10 j = nI m → Y'.1 10 j = nI (if k ≤ j then max m (pN s j) else m)) ∧ ∀ o, o ≠ 8 → o ≠ 9 → o ≠ 11 → Y'.2.1 o = Y.2.1 o := by
  have h6 := hI.1.2
  intro d
  induction d with
  | zero =>
    intro k n Y h1 h2 hM hs
    obtain ⟨n, rfl⟩ : ∃ z, n = z + 1 := ⟨n - 1, by omega⟩
    have hld : ldA s (nP s) (nS s) < 6 := by
      by_cases c : 0 < nS s
      · have := ldA_lt s (nP s) (nS s) c
        omega
      · rw [show nS s = 0 by omega]
        exact (by decide : 0 < 6)
    have hle := X7_leader0 hM (by rw [hs]; exact hI)
    rw [hs] at hle
    refine ⟨sL Y 8 (ldA s (nP s) (nS s)) (Y.2.1 8 (ldA s (nP s) (nS s)) + lN w), ?_, rfl, fun _ _ => rfl, fun j hj => ?_, fun j hj => ?_, fun j hj => ?_, fun j hj m hm e => ?_, fun o h1 h2 h3 => ?_⟩
    · simp only [f_X7_ends_b89]
      rw [gd_t gM0, hM.at 0 rfl, Option.bind_some, gd_t gA0, cl0, hs, hI.1.1, if_pos (nI_le (by omega) (by omega)), hM.at 18 rfl, Option.bind_some, hle, Option.bind_some]
      dsimp only
      rw [gd_t (gL8 hld), gd_t (gL8 hld), nI_clamp (by omega)]
      rfl
    · by_cases c : j = ldA s (nP s) (nS s)
      · subst c
        have : fF (ldA s (nP s) (nS s)) s = 1 := if_pos rfl
        rw [sL_e, this, Nat.mul_one]
      · have : fF j s = 0 := if_neg (fun z => c z.symm)
        rw [sL_k c, this, Nat.mul_zero, lN_0, Int64.add_zero]
    · rw [sL_o (by decide), if_neg (by omega), lN_0, Int64.add_zero]
    · rw [sL_o (by decide), if_neg (by omega), lN_0, Int64.add_zero]
    · rw [if_neg (by omega)]
      exact e
    · funext j
      rw [sL_o h1]
  | succ d ih =>
    intro k n Y h1 h2 hM hs
    obtain ⟨n, rfl⟩ : ∃ z, n = z + 1 := ⟨n - 1, by omega⟩
    obtain ⟨p1, p2⟩ := pN_ok hI k
    have hpt : f_X7_points Y 0 (nI k) = some (Y, nI (pN s k)) := by
      rw [X7_pts hM (by rw [hs]; exact hI), hs, p1]
    have hk6 : k < 6 := by omega
    have ek : (nI k).toNatClampNeg = k := nI_clamp (by omega)
    obtain ⟨Y', e1, e2, e3, e4, e5, e6, e7, e8⟩ := ih (k + 1) n (sL (sI (sL Y 9 k (Y.2.1 9 k + lN (pN s k * w))) 10 k (if nI (pN s k) ≤ Y.1 10 k then Y.1 10 k else nI (pN s k))) 11 k (Y.2.1 11 k + lN (w * fL k (Y.1 0 21) s))) (by omega) (by omega) hM (by rw [sL_1, sI_obj (by decide)]; exact hs)
    refine ⟨Y', ?_, e2, fun o ho => ?_, fun j hj => ?_, fun j hj => ?_, fun j hj => ?_, fun j hj m hm e => ?_, fun o h1 h2 h3 => ?_⟩
    · simp only [f_X7_ends_b89]
      rw [gd_t gM0, hM.at 0 rfl, Option.bind_some, gd_t gA0, cl0, hs, hI.1.1, if_neg (nI_ge (by omega) (by omega)), hpt, Option.bind_some]
      dsimp only
      rw [hM.at 19 rfl, Option.bind_some, gd_t (gL9 hk6), gd_t (gL9 hk6), nI_l (by omega), lN_mul]
      simp only [lt]
      rw [sL_r, hM.at 20 rfl, Option.bind_some, Option.bind_some, gd_t (gI10 hk6), Option.bind_some, gd_t (gI10 hk6), sL_1, ek]
      have fin : ∀ v, f_X7_ends_b147 (f_X7_ends_b89 n) (sL Y 9 k (Y.2.1 9 k + lN (pN s k * w))) 0 (lN w) (nI k) (nI (pN s k)) 10 (nI k) v = f_X7_ends_b89 n (sL (sI (sL Y 9 k (Y.2.1 9 k + lN (pN s k * w))) 10 k v) 11 k (Y.2.1 11 k + lN (w * fL k (Y.1 0 21) s))) 0 (lN w) (nI (k + 1)) := by
        intro v
        unfold f_X7_ends_b147 f_X7_ends_b169
        rw [gd_t (gI10 hk6)]
        simp only [lt]
        rw [gd_t gM0, show (sI (sL Y 9 k (Y.2.1 9 k + lN (pN s k * w))) 10 (nI k).toNatClampNeg v).2.2 0 22 = some 11 from hM.at 22 rfl, Option.bind_some, gd_t (gL11 hk6), gd_t (gL11 hk6), gd_t (gL11 hk6), ek, sI_obj (show 0 ≠ 10 by decide), sL_1, sI_l, sL_o (show 11 ≠ 9 by decide), nI_1]
        by_cases c : nI (pN s k) < Y.1 0 21
        · have : fL k (Y.1 0 21) s = 0 := if_pos (by rw [p1]; exact c)
          rw [if_pos c, this, Nat.mul_zero]
          rfl
        · have : fL k (Y.1 0 21) s = 1 := if_neg (by rw [p1]; exact c)
          rw [if_neg c, this, Nat.mul_one]
      rw [fin, fin, ← e1]
      by_cases c : nI (pN s k) ≤ Y.1 10 k
      · rw [if_pos c, if_pos c]
      · rw [if_neg c, if_neg c]
    · rw [e3 o ho, sL_1, sI_obj ho]
      rfl
    · rw [e4 j hj, sL_o (by decide), sI_l, sL_o (by decide)]
    · rw [e5 j hj, sL_o (by decide), sI_l]
      by_cases c : j = k
      · subst c
        rw [sL_e, if_neg (by omega), lN_0, Int64.add_zero, if_pos (Nat.le_refl _), Nat.mul_comm]
      · rw [sL_k c]
        by_cases c2 : k + 1 ≤ j
        · rw [if_pos c2, if_pos (by omega)]
        · rw [if_neg c2, if_neg (by omega)]
    · rw [e6 j hj, sL_1, sI_obj (show 0 ≠ 10 by decide), sL_1]
      by_cases c : j = k
      · subst c
        rw [sL_e, if_neg (by omega), lN_0, Int64.add_zero, if_pos (Nat.le_refl _)]
      · rw [sL_k c, sI_l, sL_o (by decide)]
        by_cases c2 : k + 1 ≤ j
        · rw [if_pos c2, if_pos (by omega)]
        · rw [if_neg c2, if_neg (by omega)]
    · by_cases c : j = k
      · subst c
        have q := e7 j hj (max m (pN s j)) (Nat.max_lt.mpr ⟨hm, by omega⟩) (by
          rw [sL_1, rdE, e]
          by_cases c3 : pN s j ≤ m
          · rw [if_pos (nI_le c3 (by omega)), Nat.max_eq_left c3]
          · rw [if_neg (nI_ge (by omega) (by omega)), Nat.max_eq_right (by omega)])
        rw [q, if_neg (by omega), if_pos (Nat.le_refl _)]
      · have q := e7 j hj m hm (by rw [sL_1, rdK c]; exact e)
        rw [q]
        by_cases c2 : k + 1 ≤ j
        · rw [if_pos c2, if_pos (by omega)]
        · rw [if_neg c2, if_neg (by omega)]
    · rw [e8 o h1 h2 h3]
      funext j
      rw [sL_o h3, sI_l, sL_o h2]
theorem X7_ends {s : Rw} {Y : Mm} (hI : Inv s) (hl : nP s = nG s) (hM : RM Y) (hs : Y.1 1 = s) {w : Nat} (hw : w < 2 ^ 40) : ∃ Y', f_X7_ends Y 0 (lN w) = some (Y', ()) ∧ Y'.1 1 = s ∧ YR s Y Y' (fun g k => w * fW g k s) (fun g => w * fM g s) (fun k => w * fF k s) (fun k => w * fP k s) (fun k => w * fL k (Y.1 0 21) s) (fun k => fP k s) (if w = 0 then 0 else 1) := by
  have h8 := hI.2.1.2
  have key : ∀ W : Nat, ∃ Y', f_X7_ends_b16 Y 0 (lN w) 0 (Y.1 0 23) (nI W) = some (Y', ()) ∧ Y'.1 1 = s ∧ YR s Y Y' (fun g k => w * fW g k s) (fun g => w * fM g s) (fun k => w * fF k s) (fun k => w * fP k s) (fun k => w * fL k (Y.1 0 21) s) (fun k => fP k s) W := by
    intro W
    obtain ⟨Y1, a1, a2, a3, a4, a5, a6⟩ := ends1 hI hl w (nG s) 0 1000 (sI Y 0 23 (Y.1 0 23 + nI W)) (by omega) (by omega) hM (by rw [sI_obj (by decide)]; exact hs)
    obtain ⟨Y', b1, b2, b3, b4, b5, b6, b7, b8⟩ := ends2 hI w hw (nS s) 0 1000 Y1 (by omega) (by have := hI.1.2; omega) (by unfold RM; rw [a3]; exact hM) (by rw [a2, sI_obj (by decide)]; exact hs)
    refine ⟨Y', ?_, ?_, b2.trans a3, fun o h1 h2 h3 => ?_, fun f hf => ?_, ?_, fun g hg k hk => ?_, fun g hg => ?_, fun k hk => ?_, fun k hk => ?_, fun k hk => ?_, fun k hk m hm e => ?_, (b8 13 (by decide) (by decide) (by decide)).trans (a6 13 (by decide) (by decide))⟩
    · unfold f_X7_ends_b16
      rw [gd_t gM0]
      simp only [lt]
      rw [show f_X7_ends_b22 1000 (sI Y 0 23 (Y.1 0 23 + nI W)) 0 (lN w) 0 = _ from a1]
      exact b1
    · rw [b3 1 (by decide), a2, sI_obj (by decide)]
      exact hs
    · rw [b3 o h3, a2, sI_obj h1]
    · rw [b3 0 (by decide), a2, rdK hf]
    · rw [b3 0 (by decide), a2, rdE]
    · rw [b8 6 (by decide) (by decide) (by decide), a4 g k hg hk, if_pos (Nat.zero_le _)]
      rfl
    · rw [b8 7 (by decide) (by decide) (by decide), a5 g hg, if_pos (Nat.zero_le _)]
      rfl
    · rw [b4 k hk, a6 8 (by decide) (by decide)]
      rfl
    · rw [b5 k hk, a6 9 (by decide) (by decide), if_pos (Nat.zero_le _)]
      rfl
    · rw [b6 k hk, a6 11 (by decide) (by decide), if_pos (Nat.zero_le _), a2, rdK (show 21 ≠ 23 by decide)]
      rfl
    · rw [b7 k hk m hm (by rw [a2, sI_obj (by decide)]; exact e), if_pos (Nat.zero_le _)]
      rfl
  unfold f_X7_ends
  rw [gd_t gM0]
  by_cases c : w = 0
  · subst c
    rw [if_pos (show lg_cmp (lN 0) 0 ≤ 0 from (lg_cmp_le _ _).mpr (by decide)), if_pos rfl]
    exact key 0
  · have : ¬ lN w ≤ 0 := fun z => by
      have := (pk_lLE (a := w) (b := 0) (by omega) (by decide)).mp z
      omega
    rw [if_neg (show ¬ lg_cmp (lN w) 0 ≤ 0 from fun z => this ((lg_cmp_le _ _).mp z)), if_neg c]
    exact key 1

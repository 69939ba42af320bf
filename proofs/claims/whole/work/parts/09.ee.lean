/-! ===== the reference's next row in the order of rows ===== -/
def gI (f : Nat → Nat) : Nat → Option Nat
  | 0 => none
  | t + 1 => if f t ≤ f (t + 1) then some t else gI f t
def gJ (f : Nat → Nat) (i : Nat) : Nat → Nat
  | 0 => 0
  | j + 1 => if f i ≤ f (j + 1) then j + 1 else gJ f i j
def swp (f : Nat → Nat) (i j : Nat) : Nat → Nat := fun k => if k = j then f i else if k = i then f j else f k
def rvF : Nat → (Nat → Nat) → Nat → Nat → (Nat → Nat)
  | 0, f, _, _ => f
  | d + 1, f, a, b => if b ≤ a then f else rvF d (swp f a b) (a + 1) (b - 1)
def nxF (n : Nat) (f : Nat → Nat) : Option (Nat → Nat) := match gI f (n - 1) with
  | none => none
  | some i => some (rvF n (swp f i (gJ f i (n - 1))) (i + 1) (n - 1))
/-- a list of numbers in which each row is followed by the next one -/
def chB (n : Nat) : List Nat → Bool
  | [] => false
  | [c] => (nxF n (dg n c)).isNone
  | c :: c' :: l => (match nxF n (dg n c) with
      | none => false
      | some g => (List.range n).all (fun k => g k == dg n c' k)) && chB n (c' :: l)
theorem chB_VC : ∀ n, n < 5 → 1 ≤ n → chB n (VC n) = true := by decide +kernel
theorem VC_head : ∀ n, n < 5 → 1 ≤ n → (match VC n with
    | [] => false
    | c :: _ => (List.range n).all (fun k => dg n c k == k)) = true := by decide +kernel
theorem VC_lt {n c : Nat} (h4 : n ≤ 4) (h : c ∈ VC n) : c < 256 ∧ vld n c = true := by
  unfold VC at h
  rw [List.mem_filter, List.mem_range] at h
  refine ⟨Nat.lt_of_lt_of_le h.1 ?_, h.2⟩
  rcases (show n = 0 ∨ n = 1 ∨ n = 2 ∨ n = 3 ∨ n = 4 by omega) with rfl | rfl | rfl | rfl | rfl <;> decide
def RW (Y : Mm) (P n : Nat) (f : Nat → Nat) : Prop := ∀ k, k < n → Y.1 12 k = nI (P + f k)
theorem gR {k : Nat} (hk : k < 4) : okA nM shM 12 8 (nI k) := ⟨by decide, vin_nI (show k < 4 from hk) (by decide)⟩
/-- what the search of the next row leaves as it was -/
def RK (Y Y' : Mm) : Prop := Y'.2 = Y.2 ∧ ∀ o, o ≠ 12 → Y'.1 o = Y.1 o
theorem RK.rf {Y : Mm} : RK Y Y := ⟨rfl, fun _ _ => rfl⟩
theorem RK.tr {Y Y1 Y2 : Mm} (h : RK Y Y1) (h2 : RK Y1 Y2) : RK Y Y2 := ⟨h2.1.trans h.1, fun o a => (h2.2 o a).trans (h.2 o a)⟩
theorem RW.swap {Y : Mm} {P n i j : Nat} {f : Nat → Nat} (h : RW Y P n f) (hi : i < n) (hj : j < n) : RW (sI (sI Y 12 i (Y.1 12 j)) 12 j (Y.1 12 i)) P n (swp f i j) := by
  intro k hk
  unfold swp
  by_cases c : k = j
  · subst c
    rw [sI_fun, pk_us, if_pos rfl, h i hi]
  · rw [rdK c, if_neg c]
    by_cases c2 : k = i
    · subst c2
      rw [sI_fun, pk_us, if_pos rfl, h j hj]
    · rw [rdK c2, if_neg c2, h k hk]
theorem swp_lt {f : Nat → Nat} {n i j b : Nat} (h : ∀ k, k < n → f k < b) (hi : i < n) (hj : j < n) : ∀ k, k < n → swp f i j k < b := by
  intro k hk
  unfold swp
  split
  · exact h i hi
  · split
    · exact h j hj
    · exact h k hk
section NX
variable {P n : Nat}
theorem nI_dn {b : Nat} : nI (b + 1) + (-1 : Int32) = nI b := (Int32.sub_eq_add_neg _ _).symm.trans (nI_pred b)
theorem RK.sw {Y : Mm} {a b : Nat} {u v : Int32} : RK Y (sI (sI Y 12 a u) 12 b v) := ⟨rfl, fun o ho => (sI_obj ho).trans (sI_obj ho)⟩
theorem nx_rev (h4 : n ≤ 4) : ∀ (d a b m : Nat) (Y : Mm) (f : Nat → Nat), b < n → a ≤ n → b < d + a → d < m → RM Y → RW Y P n f → (∀ k, k < n → f k < n) → ∃ Y', f_X7_nextRow_b100 m Y 0 (nI a) (nI b) = some (Y', 1) ∧ RK Y Y' ∧ RW Y' P n (rvF d f a b) ∧ ∀ k, k < n → rvF d f a b k < n := by
  intro d
  induction d with
  | zero =>
    intro a b m Y f h1 ha h2 h3 hM hR hf
    obtain ⟨m, rfl⟩ : ∃ z, m = z + 1 := ⟨m - 1, by omega⟩
    refine ⟨Y, ?_, RK.rf, hR, hf⟩
    simp only [f_X7_nextRow_b100]
    rw [if_pos (nI_le (by omega) (by omega))]
  | succ d ih =>
    intro a b m Y f h1 ha h2 h3 hM hR hf
    obtain ⟨m, rfl⟩ : ∃ z, m = z + 1 := ⟨m - 1, by omega⟩
    simp only [f_X7_nextRow_b100, rvF]
    by_cases c : b ≤ a
    · rw [if_pos c, if_pos (nI_le c (by omega))]
      exact ⟨Y, rfl, RK.rf, hR, hf⟩
    · obtain ⟨b, rfl⟩ : ∃ z, b = z + 1 := ⟨b - 1, by omega⟩
      rw [if_neg c, if_neg (nI_ge (by omega) (by omega))]
      obtain ⟨Y', e1, e2, e3, e4⟩ := ih (a + 1) b m (sI (sI Y 12 a (Y.1 12 (b + 1))) 12 (b + 1) (Y.1 12 a)) (swp f a (b + 1)) (by omega) (by omega) (by omega) (by omega) hM (hR.swap (by omega) h1) (swp_lt hf (by omega) h1)
      refine ⟨Y', ?_, RK.sw.tr e2, e3, e4⟩
      have m24 : ∀ {Z : Mm}, Z.2.2 = Y.2.2 → Z.2.2 0 24 = some 12 := fun hz => by rw [hz]; exact hM.at 24 rfl
      rw [gd_t gM0, m24 rfl, Option.bind_some, gd_t (gR (by omega)), Option.bind_some, Option.bind_some, gd_t (gR (by omega)), gd_t (gR (by omega)), lt]
      rw [show (sI Y 12 (nI a).toNatClampNeg (Y.1 12 (nI (b + 1)).toNatClampNeg)).2.2 0 24 = some 12 from m24 rfl, Option.bind_some, gd_t (gR (by omega)), lt, nI_clamp (by omega), nI_clamp (by omega), nI_1, nI_dn]
      exact e1
theorem nx_down (h4 : n ≤ 4) (h8 : P ≤ 8) {Y : Mm} {f : Nat → Nat} {i : Nat} (hM : RM Y) (hR : RW Y P n f) (hf : ∀ k, k < n → f k < n) (hi : i + 1 < n) (hs : f i ≤ f (i + 1)) : ∀ (d m : Nat), i + 1 + d < n → d < m → ∃ Y', f_X7_nextRow_b41 m Y 0 (nI n) (nI i) (nI (i + 1 + d)) = some (Y', 1) ∧ RK Y Y' ∧ RW Y' P n (rvF n (swp f i (gJ f i (i + 1 + d))) (i + 1) (n - 1)) ∧ ∀ k, k < n → rvF n (swp f i (gJ f i (i + 1 + d))) (i + 1) (n - 1) k < n := by
  have m24 : ∀ {Z : Mm}, Z.2.2 = Y.2.2 → Z.2.2 0 24 = some 12 := fun hz => by rw [hz]; exact hM.at 24 rfl
  have go : ∀ j, j < n → f i ≤ f j → ∀ m, ∃ Y', f_X7_nextRow_b41 (m + 1) Y 0 (nI n) (nI i) (nI j) = some (Y', 1) ∧ RK Y Y' ∧ RW Y' P n (rvF n (swp f i j) (i + 1) (n - 1)) ∧ ∀ k, k < n → rvF n (swp f i j) (i + 1) (n - 1) k < n := by
    intro j hj hle m
    obtain ⟨Y', e1, e2, e3, e4⟩ := nx_rev h4 n (i + 1) (n - 1) 1000 (sI (sI Y 12 i (Y.1 12 j)) 12 j (Y.1 12 i)) (swp f i j) (by omega) (by omega) (by omega) (by omega) hM (hR.swap (by omega) hj) (swp_lt hf (by omega) hj)
    refine ⟨Y', ?_, RK.sw.tr e2, e3, e4⟩
    have f1 := hf i (by omega)
    have f2 := hf j hj
    obtain ⟨n', rfl⟩ : ∃ z, n = z + 1 := ⟨n - 1, by omega⟩
    simp only [f_X7_nextRow_b41]
    rw [gd_t gM0, m24 rfl, Option.bind_some, gd_t (gR (by omega)), Option.bind_some, gd_t (gR (by omega)), if_pos (show Y.1 12 (nI i).toNatClampNeg ≤ Y.1 12 (nI j).toNatClampNeg by
      rw [nI_clamp (by omega), nI_clamp (by omega), hR i (by omega), hR j hj]
      exact nI_le (by omega) (by omega)), Option.bind_some, gd_t (gR (by omega)), Option.bind_some, Option.bind_some, gd_t (gR (by omega)), gd_t (gR (by omega)), lt]
    rw [show (sI Y 12 (nI i).toNatClampNeg (Y.1 12 (nI j).toNatClampNeg)).2.2 0 24 = some 12 from m24 rfl, Option.bind_some, gd_t (gR (by omega)), lt, nI_clamp (by omega), nI_clamp (by omega), nI_1, nI_pred]
    exact e1
  intro d
  induction d with
  | zero =>
    intro m h1 h2
    obtain ⟨m, rfl⟩ : ∃ z, m = z + 1 := ⟨m - 1, by omega⟩
    have e : gJ f i (i + 1 + 0) = i + 1 := by
      show gJ f i (i + 1) = i + 1
      simp only [gJ]
      rw [if_pos hs]
    rw [e]
    exact go (i + 1) hi hs m
  | succ d ih =>
    intro m h1 h2
    obtain ⟨m, rfl⟩ : ∃ z, m = z + 1 := ⟨m - 1, by omega⟩
    have e : gJ f i (i + 1 + (d + 1)) = if f i ≤ f (i + 1 + d + 1) then i + 1 + d + 1 else gJ f i (i + 1 + d) := rfl
    rw [e]
    by_cases c : f i ≤ f (i + 1 + d + 1)
    · rw [if_pos c]
      exact go _ (by omega) c m
    · rw [if_neg c]
      obtain ⟨Y', e1, e2⟩ := ih m (by omega) (by omega)
      refine ⟨Y', ?_, e2⟩
      have f1 := hf i (by omega)
      have f2 := hf (i + 1 + d + 1) (by omega)
      rw [show i + 1 + (d + 1) = i + 1 + d + 1 from rfl]
      simp only [f_X7_nextRow_b41]
      rw [gd_t gM0, m24 rfl, Option.bind_some, gd_t (gR (by omega)), Option.bind_some, gd_t (gR (by omega)), if_neg (show ¬ Y.1 12 (nI i).toNatClampNeg ≤ Y.1 12 (nI (i + 1 + d + 1)).toNatClampNeg by
        rw [nI_clamp (by omega), nI_clamp (by omega), hR i (by omega), hR _ (by omega)]
        exact nI_ge (by omega) (by omega)), nI_dn]
      exact e1
theorem nx_up (h4 : n ≤ 4) (h8 : P ≤ 8) {Y : Mm} {f : Nat → Nat} (hM : RM Y) (hR : RW Y P n f) (hf : ∀ k, k < n → f k < n) : ∀ (t m : Nat), t < n → t < m → match gI f t with
    | none => f_X7_nextRow_b4 m Y 0 (nI n) (nI t - 1) = some (Y, 0)
    | some i => ∃ Y', f_X7_nextRow_b4 m Y 0 (nI n) (nI t - 1) = some (Y', 1) ∧ RK Y Y' ∧ RW Y' P n (rvF n (swp f i (gJ f i (n - 1))) (i + 1) (n - 1)) ∧ ∀ k, k < n → rvF n (swp f i (gJ f i (n - 1))) (i + 1) (n - 1) k < n := by
  intro t
  induction t with
  | zero =>
    intro m h1 h2
    obtain ⟨m, rfl⟩ : ∃ z, m = z + 1 := ⟨m - 1, by omega⟩
    simp only [gI, f_X7_nextRow_b4]
    rw [if_pos (by decide)]
    unfold f_X7_nextRow_b31
    rw [if_neg (by decide)]
  | succ t ih =>
    intro m h1 h2
    obtain ⟨m, rfl⟩ : ∃ z, m = z + 1 := ⟨m - 1, by omega⟩
    have f1 := hf t (by omega)
    have f2 := hf (t + 1) h1
    have key : f_X7_nextRow_b4 (m + 1) Y 0 (nI n) (nI (t + 1) - 1) = if f t ≤ f (t + 1) then f_X7_nextRow_b41 1000 Y 0 (nI n) (nI t) (nI (n - 1)) else f_X7_nextRow_b4 m Y 0 (nI n) (nI t - 1) := by
      simp only [f_X7_nextRow_b4]
      rw [nI_pred, if_neg (nI_pos (by omega)), gd_t gM0, hM.at 24 rfl, Option.bind_some, gd_t (gR (by omega)), Option.bind_some, nI_1, gd_t (gR (by omega)), nI_clamp (by omega), nI_clamp (by omega), hR t (by omega), hR (t + 1) h1]
      by_cases c : f t ≤ f (t + 1)
      · rw [if_pos c, if_pos (nI_le (by omega) (by omega))]
        unfold f_X7_nextRow_b31
        obtain ⟨n', rfl⟩ : ∃ z, n = z + 1 := ⟨n - 1, by omega⟩
        rw [if_pos (Int32.not_lt.mp (nI_pos (by omega))), nI_pred]
        rfl
      · rw [if_neg c, if_neg (nI_ge (by omega) (by omega)), show nI t + (-1 : Int32) = nI t - 1 from (Int32.sub_eq_add_neg _ _).symm]
    rw [key]
    simp only [gI]
    by_cases c : f t ≤ f (t + 1)
    · rw [if_pos c, if_pos c]
      obtain ⟨Y', e1, e2⟩ := nx_down h4 h8 hM hR hf h1 c (n - 1 - (t + 1)) 1000 (by omega) (by omega)
      rw [show t + 1 + (n - 1 - (t + 1)) = n - 1 by omega] at e1 e2
      exact ⟨Y', e1, e2⟩
    · rw [if_neg c, if_neg c]
      exact ih m (by omega) (by omega)
theorem X7_nextRow (h1 : 1 ≤ n) (h4 : n ≤ 4) (h8 : P ≤ 8) {Y : Mm} {f : Nat → Nat} (hM : RM Y) (hR : RW Y P n f) (hf : ∀ k, k < n → f k < n) : match nxF n f with
    | none => f_X7_nextRow Y 0 (nI n) = some (Y, 0)
    | some g => ∃ Y', f_X7_nextRow Y 0 (nI n) = some (Y', 1) ∧ RK Y Y' ∧ RW Y' P n g ∧ ∀ k, k < n → g k < n := by
  have := nx_up h4 h8 hM hR hf (n - 1) 1000 (by omega) (by omega)
  unfold f_X7_nextRow nxF
  obtain ⟨n', rfl⟩ : ∃ z, n = z + 1 := ⟨n - 1, by omega⟩
  rw [show nI (n' + 1) - (2 : Int32) = nI (n' + 1 - 1) - 1 by
    rw [show n' + 1 - 1 = n' from rfl, ← nI_pred n', Int32.sub_eq_add_neg, Int32.sub_eq_add_neg, Int32.sub_eq_add_neg, Int32.add_assoc]
    congr 1]
  cases h : gI f (n' + 1 - 1) with
  | none =>
    rw [h] at this
    exact this
  | some i =>
    rw [h] at this
    exact this
end NX

/-! ===== what the reference does, over its row s ===== -/
theorem gd_t {α : Type} {c : Prop} [Decidable c] {k : Option α} (h : c) : gd c k = k := if_pos h
theorem vin_nI {k N : Nat} (h : k < N) (hN : N < 2 ^ 31) : vin (nI k) N := vp_in_nI h hN
def rM (o k : Nat) : Option Nat := if o = 0 then ([some 1, some 2, some 3, none, some 4, none, none, none, some 5, none, none, none, none, none, none, none, some 6, some 7, some 8, some 9, some 10, none, some 11, none, some 12, some 13, some 14, some 15, some 16, some 17] : List (Option Nat)).getD k none else none
def RM (M : Mm) : Prop := M.2.2 = rM
theorem RM.at {M : Mm} (h : RM M) (k : Nat) {q : Nat} (hq : rM 0 k = some q) : M.2.2 0 k = some q := by
  rw [h]
  exact hq
theorem cl0 : (0 : Int32).toNatClampNeg = 0 := by decide
theorem cl1 : (1 : Int32).toNatClampNeg = 1 := by decide
theorem cl2 : (2 : Int32).toNatClampNeg = 2 := by decide
theorem cl3 : (3 : Int32).toNatClampNeg = 3 := by decide
theorem cl4 : (4 : Int32).toNatClampNeg = 4 := by decide
def gO (s : Nat → Int32) (g w : Nat) : Int32 := s (23 + 7 * g + w)
def sO (s : Nat → Int32) (i w : Nat) : Int32 := s (5 + 3 * i + w)
def ptsA (s : Nat → Int32) : Nat → Int32 → Int32
  | 0, _ => 0
  | g + 1, k => ptsA s g k + (if gO s g 4 = k then gO s g 2 else 0)
abbrev plA (s : Nat → Int32) (k : Int32) (g : Nat) : Prop := gO s g 0 = k ∨ gO s g 1 = k
def stkA (s : Nat → Int32) : Nat → Int32 → Nat
  | 0, _ => 0
  | g + 1, k => if plA s k g then (if gO s g 4 = k then stkA s g k + 1 else 0) else stkA s g k
def tirA (s : Nat → Int32) : Nat → Int32 → Int32
  | 0, _ => 0
  | g + 1, k => if plA s k g then (if gO s g (if gO s g 0 = k then 5 else 6) = 3 then 1 else 0) else tirA s g k
theorem stkA_le (s : Nat → Int32) (k : Int32) : ∀ g, stkA s g k ≤ g := by
  intro g
  induction g with
  | zero => exact Nat.le_refl 0
  | succ g ih =>
    unfold stkA
    split
    · split <;> omega
    · omega
theorem X7_in {M : Mm} {v a b : Int32} : f_X7_in M v a b = some (M, if a ≤ v ∧ v ≤ b then 1 else 0) := by
  unfold f_X7_in
  by_cases h1 : v < a
  · rw [if_pos h1, if_neg (fun h => absurd h1 (Int32.not_lt.mpr h.1))]
  · rw [if_neg h1]
    by_cases h2 : b < v
    · rw [if_pos h2, if_neg (fun h => absurd h2 (Int32.not_lt.mpr h.2))]
    · rw [if_neg h2, if_pos ⟨Int32.not_lt.mp h1, Int32.not_lt.mp h2⟩]
theorem X7_of {M : Mm} (hM : RM M) (a1 a2 : Int32) (g w : Nat) (h1 : a1 = nI g) (h2 : a2 = nI w) (hg : g < 8) (hw : w < 7) : f_X7_of M 0 a1 a2 = some (M, gO (M.1 1) g w) := by
  subst h1
  subst h2
  have e : ((23 : Int32) + ((7 : Int32) * nI g)) + nI w = nI (23 + 7 * g + w) := by
    rw [show (23 : Int32) = nI 23 from rfl, show (7 : Int32) = nI 7 from rfl, pk_mul, nI_add, nI_add]
  have hk : 23 + 7 * g + w < 89 := by omega
  unfold f_X7_of
  rw [gd_t (by decide), hM.at 0 rfl, Option.bind_some, e, gd_t ⟨by decide, vin_nI hk (by decide)⟩, nI_clamp (by omega)]
  rfl
theorem X7_its {M : Mm} (hM : RM M) (a1 a2 : Int32) (i w : Nat) (h1 : a1 = nI i) (h2 : a2 = nI w) (hi : i < 6) (hw : w < 3) : f_X7_its M 0 a1 a2 = some (M, sO (M.1 1) i w) := by
  subst h1
  subst h2
  have e : ((5 : Int32) + ((3 : Int32) * nI i)) + nI w = nI (5 + 3 * i + w) := by
    rw [show (5 : Int32) = nI 5 from rfl, show (3 : Int32) = nI 3 from rfl, pk_mul, nI_add, nI_add]
  have hk : 5 + 3 * i + w < 89 := by omega
  unfold f_X7_its
  rw [gd_t (by decide), hM.at 0 rfl, Option.bind_some, e, gd_t ⟨by decide, vin_nI hk (by decide)⟩, nI_clamp (by omega)]
  rfl
theorem X7_plays {M : Mm} (hM : RM M) {k a2 : Int32} (g : Nat) (h1 : a2 = nI g) (hg : g < 8) : f_X7_plays M 0 k a2 = some (M, if plA (M.1 1) k g then 1 else 0) := by
  unfold f_X7_plays
  rw [gd_t (by decide), X7_of hM a2 0 g 0 h1 rfl hg (by decide), Option.bind_some]
  dsimp only
  by_cases c1 : gO (M.1 1) g 0 = k
  · rw [if_pos c1, if_pos (Or.inl c1)]
    rfl
  · rw [if_neg c1, X7_of hM a2 1 g 1 h1 rfl hg (by decide), Option.bind_some]
    dsimp only
    by_cases c2 : gO (M.1 1) g 1 = k
    · rw [if_pos c2, if_pos (Or.inr c2)]
      rfl
    · rw [if_neg c2, if_neg (fun h => h.elim c1 c2)]
theorem X7_points_loop {M : Mm} (hM : RM M) {np : Nat} (hnp : M.1 1 2 = nI np) (h8 : np ≤ 8) (k : Int32) : ∀ (d g n : Nat), g + d = np → d < n → f_X7_points_b4 n M 0 k (ptsA (M.1 1) g k) (nI g) = some (M, ptsA (M.1 1) np k) := by
  intro d
  induction d with
  | zero =>
    intro g n h1 h2
    obtain ⟨n, rfl⟩ : ∃ z, n = z + 1 := ⟨n - 1, by omega⟩
    obtain rfl : g = np := by omega
    simp only [f_X7_points_b4]
    rw [gd_t (by decide), hM.at 0 rfl, Option.bind_some, gd_t (by decide), cl2, hnp, if_pos (nI_le (Nat.le_refl _) (by omega))]
  | succ d ih =>
    intro g n h1 h2
    obtain ⟨n, rfl⟩ : ∃ z, n = z + 1 := ⟨n - 1, by omega⟩
    simp only [f_X7_points_b4]
    rw [gd_t (by decide), hM.at 0 rfl, Option.bind_some, gd_t (by decide), cl2, hnp, if_neg (nI_ge (by omega) (by omega)), X7_of hM (nI g) 4 g 4 rfl rfl (by omega) (by decide), Option.bind_some]
    dsimp only
    have hr := ih (g + 1) n (by omega) (by omega)
    by_cases c1 : gO (M.1 1) g 4 = k
    · rw [if_pos c1, X7_of hM (nI g) 2 g 2 rfl rfl (by omega) (by decide), Option.bind_some]
      dsimp only
      unfold f_X7_points_b35
      rw [nI_1, ← hr]
      simp only [ptsA, if_pos c1]
    · rw [if_neg c1]
      unfold f_X7_points_b35
      rw [nI_1, ← hr]
      simp only [ptsA, if_neg c1]
theorem X7_points {M : Mm} (hM : RM M) {np : Nat} (hnp : M.1 1 2 = nI np) (h8 : np ≤ 8) (k : Int32) : f_X7_points M 0 k = some (M, ptsA (M.1 1) np k) := X7_points_loop hM hnp h8 k np 0 1000 (by omega) (by omega)
theorem X7_bar_loop {M : Mm} (hM : RM M) {lw : Nat} (hlw : M.1 1 3 = nI lw) (h3 : lw ≤ 3) (k : Int32) : ∀ (g n seen : Nat), g ≤ 8 → g < n → seen ≤ lw → f_X7_isBarred_b11 n M 0 k (nI seen) (nI g - 1) = some (M, if lw ≤ seen + stkA (M.1 1) g k then 1 else 0) := by
  have hend : ∀ seen : Nat, seen ≤ lw → f_X7_isBarred_b55 M 0 (nI seen) = some (M, if lw ≤ seen then 1 else 0) := by
    intro seen hs
    unfold f_X7_isBarred_b55
    rw [gd_t (by decide), hM.at 0 rfl, Option.bind_some, gd_t (by decide), cl3, hlw]
    by_cases c : seen = lw
    · rw [if_pos (by rw [c]), if_pos (by omega)]
    · rw [if_neg (fun h => c ((nI_eq (by omega) (by omega)).mp h)), if_neg (by omega)]
  intro g
  induction g with
  | zero =>
    intro n seen _ hn hs
    obtain ⟨n, rfl⟩ : ∃ z, n = z + 1 := ⟨n - 1, by omega⟩
    simp only [f_X7_isBarred_b11]
    rw [if_pos (by decide), hend seen hs]
    rfl
  | succ g ih =>
    intro n seen hg hn hs
    obtain ⟨n, rfl⟩ : ∃ z, n = z + 1 := ⟨n - 1, by omega⟩
    simp only [f_X7_isBarred_b11]
    rw [nI_pred, if_neg (nI_pos (by omega)), gd_t (by decide), hM.at 0 rfl, Option.bind_some, gd_t (by decide), cl3, hlw]
    by_cases c0 : lw ≤ seen
    · rw [if_pos (nI_le c0 (by omega)), hend seen hs, if_pos c0, if_pos (by omega)]
    · rw [if_neg (nI_ge (by omega) (by omega)), X7_plays hM g rfl (by omega), Option.bind_some]
      dsimp only
      have hm : nI g + (-1 : Int32) = nI g - 1 := (Int32.sub_eq_add_neg _ _).symm
      by_cases c1 : plA (M.1 1) k g
      · rw [if_pos c1, if_neg (by decide), X7_of hM (nI g) 4 g 4 rfl rfl (by omega) (by decide), Option.bind_some]
        dsimp only
        by_cases c2 : gO (M.1 1) g 4 = k
        · rw [if_pos c2]
          unfold f_X7_isBarred_b49
          rw [nI_1, hm, ih n (seen + 1) (by omega) (by omega) (by omega)]
          simp only [stkA, if_pos c1, if_pos c2]
          rw [show seen + 1 + stkA (M.1 1) g k = seen + (stkA (M.1 1) g k + 1) by omega]
        · rw [if_neg c2]
          simp only [stkA, if_pos c1, if_neg c2]
          rw [if_neg (by omega)]
      · rw [if_neg c1, if_pos rfl]
        unfold f_X7_isBarred_b49
        rw [hm, ih n seen (by omega) (by omega) hs]
        simp only [stkA, if_neg c1]
theorem X7_isBarred {M : Mm} (hM : RM M) {np lw : Nat} (hnp : M.1 1 2 = nI np) (h8 : np ≤ 8) (hlw : M.1 1 3 = nI lw) (h3 : lw ≤ 3) (k : Int32) : f_X7_isBarred M 0 k = some (M, if lw ≤ stkA (M.1 1) np k then 1 else 0) := by
  unfold f_X7_isBarred
  rw [gd_t (by decide), hM.at 0 rfl, Option.bind_some, gd_t (by decide), cl2, hnp]
  simp only [lt]
  have e := X7_bar_loop hM hlw h3 k np 1000 0 h8 (by omega) (by omega)
  rw [Nat.zero_add] at e
  exact e
theorem X7_tired_loop {M : Mm} (hM : RM M) (k : Int32) : ∀ (g n : Nat), g ≤ 8 → g < n → f_X7_isTired_b9 n M 0 k (nI g - 1) = some (M, tirA (M.1 1) g k) := by
  intro g
  induction g with
  | zero =>
    intro n _ hn
    obtain ⟨n, rfl⟩ : ∃ z, n = z + 1 := ⟨n - 1, by omega⟩
    simp only [f_X7_isTired_b9]
    rw [if_pos (by decide)]
    rfl
  | succ g ih =>
    intro n hg hn
    obtain ⟨n, rfl⟩ : ∃ z, n = z + 1 := ⟨n - 1, by omega⟩
    simp only [f_X7_isTired_b9]
    rw [nI_pred, if_neg (nI_pos (by omega)), gd_t (by decide), X7_plays hM g rfl (by omega), Option.bind_some]
    dsimp only
    by_cases c1 : plA (M.1 1) k g
    · rw [if_pos c1, if_neg (by decide), X7_of hM (nI g) 0 g 0 rfl rfl (by omega) (by decide), Option.bind_some]
      dsimp only
      simp only [tirA, if_pos c1]
      by_cases c2 : gO (M.1 1) g 0 = k
      · rw [if_pos c2, if_pos c2]
        unfold f_X7_isTired_b40
        rw [gd_t (by decide), X7_of hM (nI g) (5 + 0) g 5 rfl (by decide) (by omega) (by decide), Option.bind_some]
        dsimp only
        by_cases c3 : gO (M.1 1) g 5 = 3
        · rw [if_pos c3, if_pos c3]
        · rw [if_neg c3, if_neg c3]
      · rw [if_neg c2, if_neg c2]
        unfold f_X7_isTired_b40
        rw [gd_t (by decide), X7_of hM (nI g) (5 + 1) g 6 rfl (by decide) (by omega) (by decide), Option.bind_some]
        dsimp only
        by_cases c3 : gO (M.1 1) g 6 = 3
        · rw [if_pos c3, if_pos c3]
        · rw [if_neg c3, if_neg c3]
    · rw [if_neg c1, if_pos rfl, show nI g + (-1 : Int32) = nI g - 1 from (Int32.sub_eq_add_neg _ _).symm, ih n (by omega) (by omega)]
      simp only [tirA, if_neg c1]
theorem X7_isTired {M : Mm} (hM : RM M) {np : Nat} (hnp : M.1 1 2 = nI np) (h8 : np ≤ 8) (k : Int32) : f_X7_isTired M 0 k = some (M, tirA (M.1 1) np k) := by
  unfold f_X7_isTired
  rw [gd_t (by decide), hM.at 0 rfl, Option.bind_some, gd_t (by decide), cl2, hnp]
  simp only [lt]
  exact X7_tired_loop hM k np 1000 h8 (by omega)

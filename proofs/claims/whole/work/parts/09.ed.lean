/-! ===== orders: numbers to the base n, rows of games in an order ===== -/
def dv (n c : Nat) : Nat → Nat
  | 0 => c
  | k + 1 => dv n c k / n
def dg (n c i : Nat) : Nat := dv n c (n - 1 - i) % n
def mskF (n c : Nat) : Nat → Nat
  | 0 => 0
  | k + 1 => mskF n c k ||| 2 ^ (dv n c k % n)
def vld (n c : Nat) : Bool := mskF n c n == 2 ^ n - 1
def VC (n : Nat) : List Nat := (List.range (n ^ n)).filter (vld n)
def ten : Nat → Nat
  | 0 => 1
  | k + 1 => ten k * 10
def numF (P n c : Nat) : Nat → Nat
  | 0 => 0
  | k + 1 => numF P n c k + (P + dv n c k % n) * ten k
def numR (P n c : Nat) : Nat → Nat
  | 0 => 0
  | k + 1 => 10 * numR P n c k + (P + dg n c k)
theorem num_eq (P n c : Nat) (h1 : 1 ≤ n) (h4 : n ≤ 4) : numF P n c n = numR P n c n := by
  rcases (show n = 1 ∨ n = 2 ∨ n = 3 ∨ n = 4 by omega) with rfl | rfl | rfl | rfl
  · simp only [numF, numR, dg, ten, show (1 - 1 - 0 : Nat) = 0 from rfl]
    omega
  · simp only [numF, numR, dg, ten, show (2 - 1 - 0 : Nat) = 1 from rfl, show (2 - 1 - 1 : Nat) = 0 from rfl]
    omega
  · simp only [numF, numR, dg, ten, show (3 - 1 - 0 : Nat) = 2 from rfl, show (3 - 1 - 1 : Nat) = 1 from rfl, show (3 - 1 - 2 : Nat) = 0 from rfl]
    generalize dv 3 c 0 % 3 = x0
    generalize dv 3 c 1 % 3 = x1
    generalize dv 3 c 2 % 3 = x2
    omega
  · simp only [numF, numR, dg, ten, show (4 - 1 - 0 : Nat) = 3 from rfl, show (4 - 1 - 1 : Nat) = 2 from rfl, show (4 - 1 - 2 : Nat) = 1 from rfl, show (4 - 1 - 3 : Nat) = 0 from rfl]
    generalize dv 4 c 0 % 4 = x0
    generalize dv 4 c 1 % 4 = x1
    generalize dv 4 c 2 % 4 = x2
    generalize dv 4 c 3 % 4 = x3
    omega
theorem dg_lt {n c i : Nat} (h : 1 ≤ n) : dg n c i < n := Nat.mod_lt _ h
/-- the row with the games from P on in an order -/
def arrA (s : Rw) (P n : Nat) (f : Nat → Nat) : Rw := fun q => if 23 + 7 * P ≤ q ∧ q < 23 + 7 * (P + n) then s (23 + 7 * (P + f ((q - (23 + 7 * P)) / 7)) + (q - (23 + 7 * P)) % 7) else s q
theorem arrA_in {s : Rw} {P n i w : Nat} {f : Nat → Nat} (hi : i < n) (hw : w < 7) : gO (arrA s P n f) (P + i) w = gO s (P + f i) w := by
  unfold gO arrA
  rw [if_pos (by omega), show (23 + 7 * (P + i) + w - (23 + 7 * P)) / 7 = i by omega, show (23 + 7 * (P + i) + w - (23 + 7 * P)) % 7 = w by omega]
theorem arrA_out {s : Rw} {P n q : Nat} {f : Nat → Nat} (h : q < 23 + 7 * P ∨ 23 + 7 * (P + n) ≤ q) : arrA s P n f q = s q := by
  unfold arrA
  rw [if_neg (by omega)]
theorem arrA_cong {s : Rw} {P n : Nat} {f g : Nat → Nat} (h : ∀ i, i < n → f i = g i) : arrA s P n f = arrA s P n g := by
  funext q
  unfold arrA
  by_cases c : 23 + 7 * P ≤ q ∧ q < 23 + 7 * (P + n)
  · rw [if_pos c, if_pos c, h _ (by omega)]
  · rw [if_neg c, if_neg c]
theorem arrA_id {s : Rw} {P n : Nat} : arrA s P n (fun i => i) = s := by
  funext q
  unfold arrA
  by_cases c : 23 + 7 * P ≤ q ∧ q < 23 + 7 * (P + n)
  · rw [if_pos c]
    have e : 23 + 7 * (P + (q - (23 + 7 * P)) / 7) + (q - (23 + 7 * P)) % 7 = q := by omega
    dsimp only
    rw [e]
  · rw [if_neg c]
section AR
variable {s : Rw} {n : Nat} {f : Nat → Nat}
theorem arrA_lo (q : Nat) (h : q < 23) : arrA s (nP s) n f q = s q := arrA_out (by omega)
theorem arrA_nS : nS (arrA s (nP s) n f) = nS s := by unfold nS; rw [arrA_lo 0 (by decide)]
theorem arrA_nG : nG (arrA s (nP s) n f) = nG s := by unfold nG; rw [arrA_lo 1 (by decide)]
theorem arrA_nP : nP (arrA s (nP s) n f) = nP s := by
  show (arrA s (nP s) n f 2).toNatClampNeg = nP s
  rw [arrA_lo 2 (by decide)]
  rfl
theorem arrA_old {g w : Nat} (hg : g < nP s) (hw : w < 7) : gO (arrA s (nP s) n f) g w = gO s g w := arrA_out (by omega)
theorem arrA_inv (hI : Inv s) (hn : nP s + n = nG s) (hf : ∀ i, i < n → f i < n) : Inv (arrA s (nP s) n f) := by
  have h6 := hI.1.2
  have h8 := hI.2.1.2
  have e0 := arrA_lo (s := s) (n := n) (f := f) 0 (by decide)
  have e1 := arrA_lo (s := s) (n := n) (f := f) 1 (by decide)
  have e2 := arrA_lo (s := s) (n := n) (f := f) 2 (by decide)
  have e3 := arrA_lo (s := s) (n := n) (f := f) 3 (by decide)
  have eL : lW (arrA s (nP s) n f) = lW s := by unfold lW; rw [e3]
  unfold Inv
  rw [arrA_nS, arrA_nG, arrA_nP, eL, e0, e1, e2, e3]
  refine ⟨hI.1, hI.2.1, hI.2.2.1, hI.2.2.2.1, ?_, ?_, ?_, ?_⟩
  · intro g hg
    by_cases c : g < nP s
    · have := hI.2.2.2.2.1 g hg
      unfold fI oI at *
      rw [arrA_old c (show 0 < 7 by decide), arrA_old c (show 1 < 7 by decide), arrA_old c (show 2 < 7 by decide)]
      exact this
    · obtain ⟨i, rfl⟩ : ∃ i, g = nP s + i := ⟨g - nP s, by omega⟩
      have hi : i < n := by omega
      have := hI.2.2.2.2.1 (nP s + f i) (by have := hf i hi; omega)
      unfold fI oI at *
      rw [arrA_in hi (show 0 < 7 by decide), arrA_in hi (show 1 < 7 by decide), arrA_in hi (show 2 < 7 by decide)]
      exact this
  · intro g hg
    rw [arrA_old hg (show 0 < 7 by decide), arrA_old hg (show 1 < 7 by decide), arrA_old hg (show 3 < 7 by decide), arrA_old hg (show 4 < 7 by decide)]
    exact hI.2.2.2.2.2.1 g hg
  · intro i hi
    unfold sO
    rw [arrA_lo _ (by omega), arrA_lo _ (by omega), arrA_lo _ (by omega)]
    exact hI.2.2.2.2.2.2.1 i hi
  · intro j hj
    rw [arrA_out (by omega)]
    exact hI.2.2.2.2.2.2.2 j hj
end AR
theorem cpO_r {M : Mm} {o q n : Nat} : (cpO M o q n).2 = M.2 := rfl
/-- a game of the trial league becomes one of the league -/
theorem LG_game {X : Mm} {s : Rw} {n i p : Nat} {f : Nat → Nat} (hX1 : XL X 1) (h1 : LD X 1 s T0) (hI : Inv s) (hn : nP s + n = nG s) (hf : ∀ i, i < n → f i < n) (h : LG X 38 (arrA s (nP s) n f) T0) (hi : i < n) (hp : p < n) : f_X0_become X (gq X 38 (nP s + i)) (gq X 1 (nP s + p)) = some (cpO X (gq X 38 (nP s + i)) (gq X 1 (nP s + p)) 9, ()) ∧ LG (cpO X (gq X 38 (nP s + i)) (gq X 1 (nP s + p)) 9) 38 (arrA s (nP s) n (fun j => if j = i then p else f j)) T0 ∧ FR 38 X (cpO X (gq X 38 (nP s + i)) (gq X 1 (nP s + p)) 9) := by
  have h6 := hI.1.2
  have h8 := hI.2.1.2
  obtain ⟨hb, hX, hL⟩ := id h
  obtain ⟨-, a1, a2⟩ := hX.2.2.1 (nP s + i) (by omega)
  obtain ⟨-, b1, b2⟩ := hX1.2.2.1 (nP s + p) (by omega)
  have hne : gq X 1 (nP s + p) ≠ gq X 38 (nP s + i) := by omega
  obtain ⟨z1, z2⟩ := h1.2.2.2.2.2 (nP s + p) (by omega)
  have hF : FR 38 X (cpO X (gq X 38 (nP s + i)) (gq X 1 (nP s + p)) 9) := ⟨rfl, fun o ho => cpO_ne (by omega)⟩
  have hIf := arrA_inv hI hn hf
  have hf' : ∀ j, j < n → (fun j => if j = i then p else f j) j < n := fun j hj => by
    dsimp only
    split
    · exact hp
    · exact hf j hj
  refine ⟨X0_become (hX.go hb (by omega)) (hX1.go (Or.inl rfl) (by omega)) hne z1 z2, ⟨hb, fr_XL hF hX, ?_⟩, hF⟩
  have og : ∀ g, g < 8 → g ≠ nP s + i → (cpO X (gq X 38 (nP s + i)) (gq X 1 (nP s + p)) 9).1 (gq X 38 g) = X.1 (gq X 38 g) := fun g hg hgi => cpO_ne (fun z => hgi (hX.2.2.2 g (nP s + i) hg (by omega) z))
  have op : (arrA s (nP s) n f) = arrA s (nP s) n f := rfl
  refine LD.modify hL (by rw [arrA_nP, arrA_nP]) (fun g => rfl) (fun g hg j hj => ?_) ?_ ?_ ?_ (fun g hg k _ => ?_) (fun j hj => ?_) (fun g hg => ?_)
  · rw [arrA_nP] at hg
    rw [arrA_old hg hj, arrA_old hg hj]
  · rw [cpO_ne (by omega)]
    have := hL.1
    rw [arrA_lo 0 (by decide), arrA_lo 1 (by decide), arrA_lo 2 (by decide), arrA_lo 3 (by decide), arrA_lo 4 (by decide)] at this ⊢
    exact this
  · intro j hj
    rw [arrA_nS] at hj
    rw [cpO_ne (by omega)]
    have := hL.2.1 j (by rw [arrA_nS]; exact hj)
    unfold sO at *
    rw [arrA_lo _ (by omega), arrA_lo _ (by omega), arrA_lo _ (by omega)] at this ⊢
    exact this
  · intro g hg
    rw [arrA_nG] at hg
    by_cases c : g = nP s + i
    · subst c
      rw [cpO_in (by decide), cpO_in (by decide), cpO_in (by decide), arrA_in hi (by decide), arrA_in hi (by decide), arrA_in hi (by decide), if_pos rfl]
      exact h1.2.2.1 _ (by omega)
    · rw [og g (by omega) c]
      have := hL.2.2.1 g (by rw [arrA_nG]; exact hg)
      by_cases c2 : g < nP s
      · rw [arrA_old c2 (by decide), arrA_old c2 (by decide), arrA_old c2 (by decide)] at this ⊢
        exact this
      · obtain ⟨j, rfl⟩ : ∃ j, g = nP s + j := ⟨g - nP s, by omega⟩
        rw [arrA_in (show j < n by omega) (by decide), arrA_in (show j < n by omega) (by decide), arrA_in (show j < n by omega) (by decide)] at this ⊢
        rw [if_neg (by omega)]
        exact this
  · rw [arrA_nP] at hg
    rw [og g (by omega) (by omega)]
  · rw [cpO_ne (by omega)]
    have := hL.2.2.2.2.1 j hj
    rw [arrA_out (by omega)] at this ⊢
    exact this
  · show bz ((cpO X (gq X 38 (nP s + i)) (gq X 1 (nP s + p)) 9).1 (gq X 38 g) 7) ∧ bz ((cpO X (gq X 38 (nP s + i)) (gq X 1 (nP s + p)) 9).1 (gq X 38 g) 8)
    by_cases c : g = nP s + i
    · subst c
      rw [cpO_in (by decide), cpO_in (by decide)]
      exact ⟨z1, z2⟩
    · rw [og g hg c]
      exact hL.2.2.2.2.2 g hg
theorem or16 : ∀ a, a < 16 → ∀ b, b < 16 → nI a ||| nI b = nI (a ||| b) := by decide +kernel
theorem shl4 : ∀ p, p < 5 → (1 : Int32) <<< (nI p &&& 31) = nI (2 ^ p) := by decide +kernel
theorem pw16 {p : Nat} (h : p < 4) : 2 ^ p < 16 := Nat.lt_of_lt_of_le (Nat.pow_lt_pow_right (by decide) h) (by decide)
theorem or_lt16 {a b : Nat} (ha : a < 16) (hb : b < 16) : a ||| b < 16 := Nat.or_lt_two_pow (n := 4) ha hb
theorem msk_lt (n c : Nat) (h1 : 1 ≤ n) (h4 : n ≤ 4) : ∀ k, mskF n c k < 16 := by
  intro k
  induction k with
  | zero => exact (by decide : 0 < 16)
  | succ k ih => exact or_lt16 ih (pw16 (Nat.lt_of_lt_of_le (Nat.mod_lt _ h1) h4))
theorem dv_le (n c : Nat) : ∀ k, dv n c k ≤ c := by
  intro k
  induction k with
  | zero => exact Nat.le_refl c
  | succ k ih => exact Nat.le_trans (Nat.div_le_self _ _) ih
/-- the class lays the games in the order that a number tells -/
theorem arrange_loop {s : Rw} {n c : Nat} (hI : Inv s) (hn : nP s + n = nG s) (h1 : 1 ≤ n) (h4 : n ≤ 4) (hc : c < 2 ^ 20) : ∀ (j m : Nat) (X : Mm) (f : Nat → Nat), j ≤ n → j < m → XF X → LD X 1 s T0 → LG X 38 (arrA s (nP s) n f) T0 → (∀ i, i < n → f i < n) → (∀ i, j ≤ i → i < n → f i = dg n c i) →
    ∃ X', f_X6_arrangeTrial_b16 m X 0 (nI n) (nI (dv n c (n - j))) (nI (mskF n c (n - j))) (nI (numF (nP s) n c (n - j))) (nI (ten (n - j))) (nI j - 1) = some (X', if vld n c then nI (numF (nP s) n c n) else -1) ∧ FR 38 X X' ∧ LG X' 38 (arrA s (nP s) n (dg n c)) T0 := by
  have h8 := hI.2.1.2
  intro j
  induction j with
  | zero =>
    intro m X f _ hm hF hL1 hL hf hd
    obtain ⟨m, rfl⟩ : ∃ z, m = z + 1 := ⟨m - 1, by omega⟩
    refine ⟨X, ?_, fr_rf, by rw [← arrA_cong (f := f) (g := dg n c) (fun i hi => hd i (Nat.zero_le _) hi)]; exact hL⟩
    simp only [f_X6_arrangeTrial_b16]
    rw [if_pos (by decide), Nat.sub_zero, shl4 n (by omega)]
    have hm16 := msk_lt n c h1 h4 n
    have hp16 : 2 ^ n ≤ 16 := Nat.le_trans (Nat.pow_le_pow_right (by decide) h4) (by decide)
    obtain ⟨q, hq⟩ : ∃ q, 2 ^ n = q + 1 := ⟨2 ^ n - 1, by have : 0 < 2 ^ n := Nat.pow_pos (by decide); omega⟩
    rw [hq, nI_pred]
    have hv : vld n c = true ↔ mskF n c n = q := by
      unfold vld
      rw [beq_iff_eq, hq]
      exact Iff.rfl
    by_cases z : mskF n c n = q
    · rw [if_pos (by rw [z]), if_pos (hv.mpr z)]
    · rw [if_neg (fun y => z ((nI_eq (by omega) (by omega)).mp y)), if_neg (fun y => z (hv.mp y))]
  | succ j ih =>
    intro m X f hj hm hF hL1 hL hf hd
    obtain ⟨m, rfl⟩ : ∃ z, m = z + 1 := ⟨m - 1, by omega⟩
    obtain ⟨k, hk⟩ : ∃ k, n - j = k + 1 ∧ n - (j + 1) = k := ⟨n - (j + 1), by omega, rfl⟩
    have hkk : k = n - 1 - j := by omega
    have hdl : dv n c k < 2 ^ 31 := by have := dv_le n c k; omega
    have hpl : dv n c k % n < n := Nat.mod_lt _ h1
    obtain ⟨g1, g2, g3⟩ := LG_game (i := j) (p := dv n c k % n) hF.2.1 hL1 hI hn hf hL (by omega) hpl
    have hF' : XF (cpO X (gq X 38 (nP s + j)) (gq X 1 (nP s + dv n c k % n)) 9) := hF.at rfl
    have hL1' : LD (cpO X (gq X 38 (nP s + j)) (gq X 1 (nP s + dv n c k % n)) 9) 1 s T0 := hL1.at hI hF.2.1 rfl (fun o _ _ => g3.2 o (by omega))
    obtain ⟨X', e1, e2, e3⟩ := ih m _ _ (by omega) (by omega) hF' hL1' g2 (fun i hi => by
      split
      · exact hpl
      · exact hf i hi) (fun i h1 h2 => by
      by_cases c' : i = j
      · rw [if_pos c']
        unfold dg
        rw [c', ← hkk]
      · rw [if_neg c']
        exact hd i (by omega) h2)
    refine ⟨X', ?_, fr_tr g3 e2, e3⟩
    rw [hk.1] at e1
    rw [hk.2]
    have hne : ¬ nI n = 0 := nI_ne0 (by omega) (by omega)
    have hrem := pk_rem (a := dv n c k) (d := n) hdl (by omega) (by omega)
    have hdiv := pk_div (a := dv n c k) (d := n) hdl (by omega) (by omega)
    have x0 := hF.1.1.1
    have x4 := hF.1.1.2.2.2.1
    have l38 : X.2.2 38 1 = some 40 := hL.2.1.1.2.1
    have l1 : X.2.2 1 1 = some 3 := hF.2.1.1.2.1
    have hP : X.1 1 5 = nI (nP s) := by rw [hL1.1.2.2.1, hI.2.2.1.1]
    have g40 : okA nX shX 40 11 (nI (nP s + j)) := okGr (b := 38) hL.1 (by omega)
    have g3' : okA nX shX 3 11 (nI (nP s + dv n c k % n)) := okGr (b := 1) (Or.inl rfl) (by omega)
    have r40 : X.2.2 40 (nI (nP s + j)).toNatClampNeg = some (gq X 38 (nP s + j)) := hL.2.1.gm (by omega)
    have r3 : X.2.2 3 (nI (nP s + dv n c k % n)).toNatClampNeg = some (gq X 1 (nP s + dv n c k % n)) := hF.2.1.gm (by omega)
    have gok : ok nX shX (gq X 38 (nP s + j)) 0 := hL.2.1.go hL.1 (by omega)
    simp only [f_X6_arrangeTrial_b16]
    rw [nI_pred, if_neg (nI_pos (by omega)), gd_t hne, gd_t hne, hrem, hdiv, shl4 _ (by omega), or16 _ (msk_lt n c h1 h4 k) _ (pw16 (by omega))]
    rw [lt, gd_t gX0, x0, Option.bind_some, gd_t gX1, hP, nI_add, pk_mul, nI_add]
    rw [lt, x4, Option.bind_some, gd_t gX38, l38, Option.bind_some, Option.bind_some, gd_t gX1, hP, nI_add, gd_t g40, r40, Option.bind_some, Option.bind_some, gd_t gX1, l1, Option.bind_some, Option.bind_some, gd_t gX1, hP, nI_add, gd_t g3', r3, Option.bind_some, gd_t gok, g1, Option.bind_some, show (10 : Int32) = nI 10 from rfl, pk_mul, show nI j + (-1 : Int32) = nI j - 1 from (Int32.sub_eq_add_neg _ _).symm]
    exact e1
theorem arrange {X : Mm} {s : Rw} {n c : Nat} {f : Nat → Nat} (hI : Inv s) (hn : nP s + n = nG s) (h1 : 1 ≤ n) (h4 : n ≤ 4) (hc : c < 2 ^ 20) (hF : XF X) (hL1 : LD X 1 s T0) (hL : LG X 38 (arrA s (nP s) n f) T0) (hf : ∀ i, i < n → f i < n) : ∃ X', f_X6_arrangeTrial X 0 (nI c) (nI n) = some (X', if vld n c then nI (numF (nP s) n c n) else -1) ∧ FR 38 X X' ∧ LG X' 38 (arrA s (nP s) n (dg n c)) T0 := by
  have := arrange_loop hI hn h1 h4 hc n 1000 X f (Nat.le_refl _) (by omega) hF hL1 hL hf (fun i a b => by omega)
  rw [Nat.sub_self] at this
  exact this

/-- how many sides, games, played games, the law -/
def nS (s : Nat → Int32) : Nat := (s 0).toNatClampNeg
def nG (s : Nat → Int32) : Nat := (s 1).toNatClampNeg
def nP (s : Nat → Int32) : Nat := (s 2).toNatClampNeg
def lW (s : Nat → Int32) : Nat := (s 3).toNatClampNeg
def fI (s : Nat → Int32) (g : Nat) : Nat := (gO s g 0).toNatClampNeg
def oI (s : Nat → Int32) (g : Nat) : Nat := (gO s g 1).toNatClampNeg
/-- a row of games and sides that is sound -/
def Inv (s : Nat → Int32) : Prop :=
  (s 0 = nI (nS s) ∧ nS s ≤ 6) ∧ (s 1 = nI (nG s) ∧ nG s ≤ 8) ∧ (s 2 = nI (nP s) ∧ nP s ≤ nG s) ∧ (s 3 = nI (lW s) ∧ 1 ≤ lW s ∧ lW s ≤ 3) ∧
  (∀ g, g < nG s → gO s g 0 = nI (fI s g) ∧ gO s g 1 = nI (oI s g) ∧ fI s g < nS s ∧ oI s g < nS s ∧ fI s g ≠ oI s g ∧ ∃ w, 1 ≤ w ∧ w ≤ 9 ∧ gO s g 2 = nI w) ∧
  (∀ g, g < nP s → (gO s g 3 = gO s g 0 ∨ gO s g 3 = gO s g 1) ∧ (gO s g 4 = gO s g 0 ∨ gO s g 4 = gO s g 1)) ∧
  (∀ i, i < nS s → ∃ kd st te, kd ≤ 6 ∧ 1 ≤ st ∧ st ≤ 9 ∧ te ≤ 9 ∧ sO s i 0 = nI kd ∧ sO s i 1 = nI st ∧ sO s i 2 = nI te) ∧
  (∀ j, j < 10 → s (79 + j) = -1 ∨ ∃ i, i < nS s ∧ s (79 + j) = nI i)
theorem Inv.np8 {s : Nat → Int32} (h : Inv s) : nP s ≤ 8 := Nat.le_trans h.2.2.1.2 h.2.1.2
abbrev barA (s : Nat → Int32) (g : Nat) (k : Int32) : Prop := lW s ≤ stkA s g k
def nwA (s : Nat → Int32) (k : Int32) : Nat → Nat → Int32
  | 0, _ => 0
  | d + 1, g => if plA s k g then gO s g 2 else nwA s k d (g + 1)
def otA (s : Nat → Int32) (g : Nat) (k : Int32) : Int32 := if gO s g 0 = k then gO s g 1 else gO s g 0
/-- the effort of a side in a game, T what is told to whom in which game -/
def effA (s : Nat → Int32) (T : Int32 × Int32 × Int32) (g i : Nat) : Int32 :=
  if T.1 = nI g ∧ T.2.1 = nI i then T.2.2
  else if sO s i 0 = 1 then 3
  else if sO s i 0 = 2 then (if barA s g (nI i) then 1 else 2)
  else if sO s i 0 = 3 then (if barA s g (nI i) then 0 else if barA s g (otA s g (nI i)) then 3 else 2)
  else if sO s i 0 = 4 then (if barA s g (nI i) then 1 else if gO s g 2 < nwA s (nI i) (nG s - (g + 1)) (g + 1) then 0 else 2)
  else if sO s i 0 = 5 then (if gO s g 2 < sO s i 2 then 0 else 3)
  else if sO s i 0 = 6 then (if 3 < sO s i 2 then 3 else sO s i 2)
  else 2
def forA (s : Nat → Int32) (g i : Nat) (e : Int32) : Int32 := (if 1 ≤ sO s i 1 - (if tirA s g (nI i) = 0 then 0 else 1) then sO s i 1 - (if tirA s g (nI i) = 0 then 0 else 1) else 1) * e
def chA (s : Nat → Int32) (g : Nat) (e1 e2 : Int32) : Int32 := if forA s g (fI s g) e1 + forA s g (oI s g) e2 = 0 then 5 else 10 * forA s g (fI s g) e1 / (forA s g (fI s g) e1 + forA s g (oI s g) e2)
def givA (s : Nat → Int32) (g : Nat) (w : Int32) : Int32 :=
  if barA s g w then (if barA s g (otA s g w) then (if ptsA s g w - ptsA s g (otA s g w) < 0 ∨ (ptsA s g w - ptsA s g (otA s g w) = 0 ∧ w < otA s g w) then w else otA s g w) else otA s g w) else w
def winA (s : Nat → Int32) (w e1 e2 : Int32) : Nat → Int32 := upd (upd (upd (upd (upd s (23 + 7 * nP s + 4) (givA s (nP s) w)) (23 + 7 * nP s + 3) w) (23 + 7 * nP s + 5) e1) (23 + 7 * nP s + 6) e2) 2 (s 2 + 1)
/-- the memory with another row at object o -/
def sA (M : Mm) (o : Nat) (f : Nat → Int32) : Mm := (fun a => if a = o then f else M.1 a, M.2)
theorem sA_at {M : Mm} {o : Nat} {f : Nat → Int32} : (sA M o f).1 o = f := by simp [sA]
theorem sA_ne {M : Mm} {o q : Nat} {f : Nat → Int32} (h : q ≠ o) : (sA M o f).1 q = M.1 q := by simp [sA, h]
theorem sI_sA {M : Mm} {o k : Nat} {v : Int32} : sI M o k v = sA M o (upd (M.1 o) k v) := by
  unfold sI sA
  congr 1
  funext a b
  by_cases ha : a = o
  · subst ha
    by_cases hb : b = k
    · subst hb
      simp [pk_us]
    · simp [hb, pk_un]
  · simp [ha]
theorem sI_sA2 {M : Mm} {o k : Nat} {f : Nat → Int32} {v : Int32} : sI (sA M o f) o k v = sA M o (upd f k v) := by
  rw [sI_sA, sA_at]
  unfold sA
  congr 1
  funext a
  by_cases ha : a = o
  · simp [ha]
  · simp [ha]
theorem RM.sA {M : Mm} (h : RM M) {o : Nat} {f : Nat → Int32} : RM (sA M o f) := h
theorem X7_greater_loop {M : Mm} (hM : RM M) (hI : Inv (M.1 1)) (k : Int32) (g0 : Nat) (hg0 : g0 < nG (M.1 1)) : ∀ (d g n : Nat), g + d = nG (M.1 1) → d < n → f_X7_hasGreater_b4 n M 0 k (nI g0) (nI g) = some (M, if gO (M.1 1) g0 2 < nwA (M.1 1) k d g then 1 else 0) := by
  have h8 := hI.2.1.2
  intro d
  induction d with
  | zero =>
    intro g n h1 h2
    obtain ⟨n, rfl⟩ : ∃ z, n = z + 1 := ⟨n - 1, by omega⟩
    simp only [f_X7_hasGreater_b4]
    rw [gd_t (by decide), hM.at 0 rfl, Option.bind_some, gd_t (by decide), cl1, hI.2.1.1, if_pos (nI_le (by omega) (by omega))]
    obtain ⟨-, -, -, -, -, w, hw1, hw2, hw3⟩ := hI.2.2.2.2.1 g0 hg0
    rw [if_neg (by rw [hw3]; exact nI_pos (by omega))]
  | succ d ih =>
    intro g n h1 h2
    obtain ⟨n, rfl⟩ : ∃ z, n = z + 1 := ⟨n - 1, by omega⟩
    simp only [f_X7_hasGreater_b4]
    rw [gd_t (by decide), hM.at 0 rfl, Option.bind_some, gd_t (by decide), cl1, hI.2.1.1, if_neg (nI_ge (by omega) (by omega)), X7_plays hM g rfl (by omega), Option.bind_some]
    dsimp only
    by_cases c1 : plA (M.1 1) k g
    · rw [if_pos c1, if_neg (by decide), X7_of hM (nI g) 2 g 2 rfl rfl (by omega) (by decide), Option.bind_some]
      dsimp only
      rw [X7_of hM (nI g0) 2 g0 2 rfl rfl (by omega) (by decide), Option.bind_some]
      dsimp only
      simp only [nwA, if_pos c1]
      by_cases c2 : gO (M.1 1) g 2 ≤ gO (M.1 1) g0 2
      · rw [if_pos c2, if_neg (Int32.not_lt.mpr c2)]
      · rw [if_neg c2, if_pos (Int32.not_le.mp c2)]
    · rw [if_neg c1, if_pos rfl, nI_1, ih (g + 1) n (by omega) (by omega)]
      simp only [nwA, if_neg c1]
theorem X7_hasGreater {M : Mm} (hM : RM M) (hI : Inv (M.1 1)) (k : Int32) (g0 : Nat) (hg0 : g0 < nG (M.1 1)) : f_X7_hasGreater M 0 k (nI g0) = some (M, if gO (M.1 1) g0 2 < nwA (M.1 1) k (nG (M.1 1) - (g0 + 1)) (g0 + 1) then 1 else 0) := by
  have h8 := hI.2.1.2
  unfold f_X7_hasGreater
  rw [nI_1]
  exact X7_greater_loop hM hI k g0 hg0 _ (g0 + 1) 1000 (by omega) (by omega)
theorem X7_bar {M : Mm} (hM : RM M) (hI : Inv (M.1 1)) (k : Int32) : f_X7_isBarred M 0 k = some (M, if barA (M.1 1) (nP (M.1 1)) k then 1 else 0) := X7_isBarred hM hI.2.2.1.1 hI.np8 hI.2.2.2.1.1 hI.2.2.2.1.2.2 k
theorem X7_pts {M : Mm} (hM : RM M) (hI : Inv (M.1 1)) (k : Int32) : f_X7_points M 0 k = some (M, ptsA (M.1 1) (nP (M.1 1)) k) := X7_points hM hI.2.2.1.1 hI.np8 k
theorem X7_tir {M : Mm} (hM : RM M) (hI : Inv (M.1 1)) (k : Int32) : f_X7_isTired M 0 k = some (M, tirA (M.1 1) (nP (M.1 1)) k) := X7_isTired hM hI.2.2.1.1 hI.np8 k
abbrev told (M : Mm) : Int32 × Int32 × Int32 := (M.1 0 5, M.1 0 6, M.1 0 7)
theorem X7_eff36 {M : Mm} (hM : RM M) (hI : Inv (M.1 1)) {i : Nat} (hi : i < nS (M.1 1)) (hg : nP (M.1 1) < nG (M.1 1)) (b sp : Int32) (hb : b = if barA (M.1 1) (nP (M.1 1)) (nI i) then 1 else 0) (hsp : sp = if barA (M.1 1) (nP (M.1 1)) (nI i) then 1 else 2) (hT : ¬ ((told M).1 = nI (nP (M.1 1)) ∧ (told M).2.1 = nI i)) : f_X7_effort_b36 M 0 (nI i) (nI (nP (M.1 1))) b sp = some (M, effA (M.1 1) (told M) (nP (M.1 1)) i) := by
  have h6 := hI.1.2
  have h8 := hI.np8
  have hn8 := hI.2.1.2
  subst hb
  subst hsp
  unfold f_X7_effort_b36 effA
  rw [if_neg hT, gd_t (by decide), X7_its hM (nI i) 0 i 0 rfl rfl (by omega) (by decide), Option.bind_some]
  dsimp only
  by_cases k1 : sO (M.1 1) i 0 = 1
  · rw [if_pos k1, if_pos k1]
  rw [if_neg k1, if_neg k1]
  by_cases k2 : sO (M.1 1) i 0 = 2
  · rw [if_pos k2, if_pos k2]
  rw [if_neg k2, if_neg k2]
  by_cases k3 : sO (M.1 1) i 0 = 3
  · rw [if_pos k3, if_pos k3, X7_of hM (nI _) 0 (nP (M.1 1)) 0 rfl rfl (by omega) (by decide), Option.bind_some]
    dsimp only
    have key : f_X7_effort_b114 M 0 (if barA (M.1 1) (nP (M.1 1)) (nI i) then 1 else 0) (if barA (M.1 1) (nP (M.1 1)) (nI i) then 1 else 2) (otA (M.1 1) (nP (M.1 1)) (nI i)) = some (M, if barA (M.1 1) (nP (M.1 1)) (nI i) then 0 else if barA (M.1 1) (nP (M.1 1)) (otA (M.1 1) (nP (M.1 1)) (nI i)) then 3 else 2) := by
      unfold f_X7_effort_b114
      by_cases c : barA (M.1 1) (nP (M.1 1)) (nI i)
      · simp only [if_pos c]
        rw [if_neg (by decide)]
      · simp only [if_neg c]
        rw [if_pos trivial, gd_t (by decide), X7_bar hM hI, Option.bind_some]
        dsimp only
        by_cases c2 : barA (M.1 1) (nP (M.1 1)) (otA (M.1 1) (nP (M.1 1)) (nI i))
        · rw [if_pos c2, if_neg (by decide), if_pos c2]
        · rw [if_neg c2, if_pos rfl, if_neg c2]
    rw [← key]
    unfold otA
    by_cases c : gO (M.1 1) (nP (M.1 1)) 0 = nI i
    · rw [if_pos c, if_pos c, X7_of hM (nI _) 1 (nP (M.1 1)) 1 rfl rfl (by omega) (by decide), Option.bind_some]
    · rw [if_neg c, if_neg c, X7_of hM (nI _) 0 (nP (M.1 1)) 0 rfl rfl (by omega) (by decide), Option.bind_some]
  rw [if_neg k3, if_neg k3]
  by_cases k4 : sO (M.1 1) i 0 = 4
  · rw [if_pos k4, if_pos k4]
    by_cases c : barA (M.1 1) (nP (M.1 1)) (nI i)
    · simp only [if_pos c]
      rw [if_neg (by decide)]
    · simp only [if_neg c]
      rw [if_pos trivial, X7_hasGreater hM hI (nI i) (nP (M.1 1)) hg, Option.bind_some]
      dsimp only
      by_cases c2 : gO (M.1 1) (nP (M.1 1)) 2 < nwA (M.1 1) (nI i) (nG (M.1 1) - (nP (M.1 1) + 1)) (nP (M.1 1) + 1)
      · rw [if_pos c2, if_neg (by decide), if_pos c2]
      · rw [if_neg c2, if_pos rfl, if_neg c2]
  rw [if_neg k4, if_neg k4]
  by_cases k5 : sO (M.1 1) i 0 = 5
  · rw [if_pos k5, if_pos k5, X7_of hM (nI _) 2 (nP (M.1 1)) 2 rfl rfl (by omega) (by decide), Option.bind_some]
    dsimp only
    rw [X7_its hM (nI i) 2 i 2 rfl rfl (by omega) (by decide), Option.bind_some]
    dsimp only
    by_cases c : sO (M.1 1) i 2 ≤ gO (M.1 1) (nP (M.1 1)) 2
    · rw [if_pos c, if_neg (Int32.not_lt.mpr c)]
    · rw [if_neg c, if_pos (Int32.not_le.mp c)]
  rw [if_neg k5, if_neg k5]
  by_cases k6 : sO (M.1 1) i 0 = 6
  · rw [if_pos k6, if_pos k6, X7_its hM (nI i) 2 i 2 rfl rfl (by omega) (by decide), Option.bind_some]
    dsimp only
    by_cases c : sO (M.1 1) i 2 ≤ 3
    · rw [if_pos c, if_neg (Int32.not_lt.mpr c), X7_its hM (nI i) 2 i 2 rfl rfl (by omega) (by decide), Option.bind_some]
    · rw [if_neg c, if_pos (Int32.not_le.mp c)]
  rw [if_neg k6, if_neg k6]
theorem X7_effort {M : Mm} (hM : RM M) (hI : Inv (M.1 1)) {i : Nat} (hi : i < nS (M.1 1)) (hg : nP (M.1 1) < nG (M.1 1)) : f_X7_effort M 0 (nI i) (nI (nP (M.1 1))) = some (M, effA (M.1 1) (told M) (nP (M.1 1)) i) := by
  have key : ∀ _ : ¬ ((told M).1 = nI (nP (M.1 1)) ∧ (told M).2.1 = nI i), f_X7_effort_b21 M 0 (nI i) (nI (nP (M.1 1))) = some (M, effA (M.1 1) (told M) (nP (M.1 1)) i) := by
    intro hT
    unfold f_X7_effort_b21
    rw [gd_t (by decide), X7_bar hM hI, Option.bind_some]
    dsimp only
    by_cases c : barA (M.1 1) (nP (M.1 1)) (nI i)
    · rw [if_pos c, if_neg (by decide)]
      exact X7_eff36 hM hI hi hg 1 1 (by rw [if_pos c]) (by rw [if_pos c]) hT
    · rw [if_neg c, if_pos rfl]
      exact X7_eff36 hM hI hi hg 0 2 (by rw [if_neg c]) (by rw [if_neg c]) hT
  unfold f_X7_effort
  rw [gd_t (by decide)]
  by_cases c1 : M.1 0 5 = nI (nP (M.1 1))
  · rw [if_pos c1]
    by_cases c2 : M.1 0 6 = nI i
    · rw [if_pos c2]
      unfold effA
      rw [if_pos ⟨c1, c2⟩]
    · rw [if_neg c2]
      exact key (fun h => c2 h.2)
  · rw [if_neg c1]
    exact key (fun h => c1 h.1)

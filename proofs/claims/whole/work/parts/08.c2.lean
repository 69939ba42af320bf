section LL
variable {M : Mm} {b : Nat} {s : Nat → Int32} {T : Int32 × Int32 × Int32}
theorem X1_leader_loop (h : LG M b s T) (hI : Inv s) : ∀ (d k n : Nat), 1 ≤ k → k + d = nS s → d < n → f_X1_leader_b4 n M b (nI (ldA s (nP s) k)) (nI k) = some (M, nI (ldA s (nP s) (nS s))) := by
  obtain ⟨hb, hX, hL⟩ := h
  have h6 := hI.1.2
  intro d
  induction d with
  | zero =>
    intro k n h0 h1 h2
    obtain ⟨n, rfl⟩ : ∃ z, n = z + 1 := ⟨n - 1, by omega⟩
    simp only [f_X1_leader_b4]
    rw [gd_t (okB hb), hL.1.1, hI.1.1, if_pos (nI_le (by omega) (by omega)), show k = nS s by omega]
  | succ d ih =>
    intro k n h0 h1 h2
    obtain ⟨n, rfl⟩ : ∃ z, n = z + 1 := ⟨n - 1, by omega⟩
    obtain ⟨k, rfl⟩ : ∃ z, k = z + 1 := ⟨k - 1, by omega⟩
    have hlt := ldA_lt s (nP s) (k + 1) (by omega)
    have hm1 : ¬ nI (ldA s (nP s) (k + 1)) = (-1 : Int32) := fun z => by
      have := nI_pos (n := ldA s (nP s) (k + 1)) (by omega)
      rw [z] at this
      exact this (by decide)
    simp only [f_X1_leader_b4]
    rw [gd_t (okB hb), hL.1.1, hI.1.1, if_neg (nI_ge (by omega) (by omega)), if_neg hm1, hX.1.1, Option.bind_some, gd_t (okSr hb (by omega)), hX.sd (by omega), Option.bind_some, gd_t (okSo hb (by omega)), Option.bind_some, gd_t (okSr hb (by omega)), hX.sd (by omega), Option.bind_some, gd_t (okSo hb (by omega)), (hL.2.1 (k + 1) (by omega)).2.2.2.1, (hL.2.1 (ldA s (nP s) (k + 1)) (by omega)).2.2.2.1]
    have hr := ih (k + 2) n (by omega) (by omega) (by omega)
    by_cases c : ptsA s (nP s) (nI (k + 1)) ≤ ptsA s (nP s) (nI (ldA s (nP s) (k + 1)))
    · rw [if_pos c]
      unfold f_X1_leader_b40
      rw [nI_1, ← hr]
      simp only [ldA, if_neg (Int32.not_lt.mpr c)]
    · rw [if_neg c]
      unfold f_X1_leader_b38 f_X1_leader_b40
      rw [nI_1, ← hr]
      simp only [ldA, if_pos (Int32.not_le.mp c)]
theorem X1_leader_go (h : LG M b s T) (hI : Inv s) (n : Nat) (hn : 8 ≤ n) : f_X1_leader_b4 (n + 1) M b (-1) 0 = some (M, if 0 < nS s then nI (ldA s (nP s) (nS s)) else -1) := by
  have h6 := hI.1.2
  obtain ⟨hb, hX, hL⟩ := id h
  simp only [f_X1_leader_b4]
  rw [gd_t (okB hb), hL.1.1, hI.1.1]
  by_cases c : 0 < nS s
  · rw [if_neg (show ¬ nI (nS s) ≤ 0 from nI_nle c (by omega)), if_pos trivial, if_pos c]
    unfold f_X1_leader_b38 f_X1_leader_b40
    exact X1_leader_loop h hI (nS s - 1) 1 n (Nat.le_refl 1) (by omega) (by omega)
  · rw [if_neg c, show nS s = 0 by omega]
    rfl
theorem X1_leader (h : LG M b s T) (hI : Inv s) : f_X1_leader M b = some (M, if 0 < nS s then nI (ldA s (nP s) (nS s)) else -1) := X1_leader_go h hI 999 (by omega)
def plC (s : Nat → Int32) (k : Int32) : Nat → Int32
  | 0 => 0
  | g + 1 => if plA s k g then plC s k g + 1 else plC s k g
def gvC (s : Nat → Int32) (k : Int32) : Nat → Int32
  | 0 => 0
  | g + 1 => if gO s g 4 = k then gvC s k g + 1 else gvC s k g
theorem X1_gpb_loop (h : LG M b s T) (hI : Inv s) (k : Int32) : ∀ (d g n : Nat), g + d = nP s → d < n → f_X1_gamesPlayedBy_b4 n M b k (plC s k g) (nI g) = some (M, plC s k (nP s)) := by
  obtain ⟨hb, hX, hL⟩ := h
  have h8 := hI.np8
  have hpg := hI.2.2.1.2
  intro d
  induction d with
  | zero =>
    intro g n h1 h2
    obtain ⟨n, rfl⟩ : ∃ z, n = z + 1 := ⟨n - 1, by omega⟩
    simp only [f_X1_gamesPlayedBy_b4]
    rw [gd_t (okB hb), hL.1.2.2.1, hI.2.2.1.1, if_pos (nI_le (by omega) (by omega)), show g = nP s by omega]
  | succ d ih =>
    intro g n h1 h2
    obtain ⟨n, rfl⟩ : ∃ z, n = z + 1 := ⟨n - 1, by omega⟩
    obtain ⟨w0, w1, w2⟩ := hL.2.2.1 g (by omega)
    simp only [f_X1_gamesPlayedBy_b4]
    rw [gd_t (okB hb), hL.1.2.2.1, hI.2.2.1.1, if_neg (nI_ge (by omega) (by omega)), hX.1.2.1, Option.bind_some, gd_t (okGr hb (by omega)), hX.gm (by omega), Option.bind_some, gd_t (hX.go hb (by omega)), X0_isOf (hX.go hb (by omega)), Option.bind_some, w0, w1]
    dsimp only
    have hr := ih (g + 1) n (by omega) (by omega)
    by_cases c : plA s k g
    · rw [if_pos c, if_neg (by decide)]
      unfold f_X1_gamesPlayedBy_b28
      rw [nI_1, ← hr]
      simp only [plC, if_pos c]
    · rw [if_neg c, if_pos rfl]
      unfold f_X1_gamesPlayedBy_b28
      rw [nI_1, ← hr]
      simp only [plC, if_neg c]
theorem X1_gamesPlayedBy (h : LG M b s T) (hI : Inv s) (k : Int32) : f_X1_gamesPlayedBy M b k = some (M, plC s k (nP s)) := by
  have h8 := hI.np8
  exact X1_gpb_loop h hI k (nP s) 0 1000 (by omega) (by omega)
theorem X1_ggt_loop (h : LG M b s T) (hI : Inv s) (k : Int32) : ∀ (d g n : Nat), g + d = nP s → d < n → f_X1_gamesGivenTo_b4 n M b k (gvC s k g) (nI g) = some (M, gvC s k (nP s)) := by
  obtain ⟨hb, hX, hL⟩ := h
  have h8 := hI.np8
  have hpg := hI.2.2.1.2
  intro d
  induction d with
  | zero =>
    intro g n h1 h2
    obtain ⟨n, rfl⟩ : ∃ z, n = z + 1 := ⟨n - 1, by omega⟩
    simp only [f_X1_gamesGivenTo_b4]
    rw [gd_t (okB hb), hL.1.2.2.1, hI.2.2.1.1, if_pos (nI_le (by omega) (by omega)), show g = nP s by omega]
  | succ d ih =>
    intro g n h1 h2
    obtain ⟨n, rfl⟩ : ∃ z, n = z + 1 := ⟨n - 1, by omega⟩
    obtain ⟨-, w4, -⟩ := hL.2.2.2.1 g (by omega)
    simp only [f_X1_gamesGivenTo_b4]
    rw [gd_t (okB hb), hL.1.2.2.1, hI.2.2.1.1, if_neg (nI_ge (by omega) (by omega)), hX.1.2.1, Option.bind_some, gd_t (okGr hb (by omega)), hX.gm (by omega), Option.bind_some, gd_t (hX.go hb (by omega)), w4]
    have hr := ih (g + 1) n (by omega) (by omega)
    by_cases c : gO s g 4 = k
    · rw [if_pos c]
      unfold f_X1_gamesGivenTo_b28
      rw [nI_1, ← hr]
      simp only [gvC, if_pos c]
    · rw [if_neg c]
      unfold f_X1_gamesGivenTo_b28
      rw [nI_1, ← hr]
      simp only [gvC, if_neg c]
theorem X1_gamesGivenTo (h : LG M b s T) (hI : Inv s) (k : Int32) : f_X1_gamesGivenTo M b k = some (M, gvC s k (nP s)) := by
  have h8 := hI.np8
  exact X1_ggt_loop h hI k (nP s) 0 1000 (by omega) (by omega)
def spC (s : Nat → Int32) : Nat → Int32
  | 0 => 0
  | j + 1 => if s (79 + j) = -1 then spC s j else spC s j + 1
theorem X1_spots_loop (h : LG M b s T) : ∀ (d j n : Nat), j + d = 10 → d < n → f_X1_spotsInUse_b4 n M b (spC s j) (nI j) = some (M, spC s 10) := by
  obtain ⟨hb, hX, hL⟩ := h
  intro d
  induction d with
  | zero =>
    intro j n h1 h2
    obtain ⟨n, rfl⟩ : ∃ z, n = z + 1 := ⟨n - 1, by omega⟩
    obtain rfl : j = 10 := by omega
    simp only [f_X1_spotsInUse_b4]
    rw [if_pos (by decide)]
  | succ d ih =>
    intro j n h1 h2
    obtain ⟨n, rfl⟩ : ∃ z, n = z + 1 := ⟨n - 1, by omega⟩
    have e : M.1 (b + 3) (nI j).toNatClampNeg = s (79 + j) := by
      rw [nI_clamp (by omega)]
      exact hL.2.2.2.2.1 j (by omega)
    simp only [f_X1_spotsInUse_b4]
    rw [if_neg (show ¬ (10 : Int32) ≤ nI j from nI_ge (a := j) (b := 10) (by omega) (by decide)), gd_t (okB hb), hX.1.2.2, Option.bind_some, gd_t (okPr hb (by omega)), e]
    have hr := ih (j + 1) n (by omega) (by omega)
    by_cases c : s (79 + j) = -1
    · rw [if_pos c]
      unfold f_X1_spotsInUse_b23
      rw [nI_1, ← hr]
      simp only [spC, if_pos c]
    · rw [if_neg c]
      unfold f_X1_spotsInUse_b23
      rw [nI_1, ← hr]
      simp only [spC, if_neg c]
theorem X1_spotsInUse (h : LG M b s T) : f_X1_spotsInUse M b = some (M, spC s 10) := X1_spots_loop h 10 0 1000 (by omega) (by omega)
theorem X1_canBeWonBy (h : LG M b s T) (hI : Inv s) (k : Int32) : f_X1_canBeWonBy M b k = some (M, if nP s < nG s ∧ plA s k (nP s) then 1 else 0) := by
  obtain ⟨hb, hX, hL⟩ := id h
  have h8 := hI.2.1.2
  unfold f_X1_canBeWonBy
  rw [gd_t (okB hb), X1_allPlayed h hI, Option.bind_some]
  dsimp only
  by_cases c : nP s < nG s
  · obtain ⟨w0, w1, w2⟩ := hL.2.2.1 _ c
    rw [if_pos c, if_pos rfl, hX.1.2.1, Option.bind_some, hL.1.2.2.1, hI.2.2.1.1, gd_t (okGr hb (by omega)), hX.gm (by omega), Option.bind_some, gd_t (hX.go hb (by omega)), X0_isOf (hX.go hb (by omega)), Option.bind_some, w0, w1]
    dsimp only
    by_cases c2 : plA s k (nP s)
    · rw [if_pos c2, if_neg (by decide), if_pos ⟨c, c2⟩]
    · rw [if_neg c2, if_pos rfl, if_neg (fun z => c2 z.2)]
  · rw [if_neg c, if_neg (by decide), if_neg (fun z => c z.1)]
/-- the row behind a game that is won, with the efforts as they are -/
def wonA (s : Nat → Int32) (T : Int32 × Int32 × Int32) (w : Int32) : Nat → Int32 := winA s w (effA s T (nP s) (fI s (nP s))) (effA s T (nP s) (oI s (nP s)))
theorem X1_playWonBy (h : LG M b s T) (hI : Inv s) (hg : nP s < nG s) {i : Nat} (him : fI s (nP s) = i ∨ oI s (nP s) = i) : ∃ M', f_X1_playWonBy M b (nI i) = some (M', givA s (nP s) (nI i)) ∧ LG M' b (wonA s T (nI i)) T ∧ FR b M M' := by
  obtain ⟨hb, hX, hL⟩ := id h
  have h8 := hI.2.1.2
  obtain ⟨q0, q1, q2, q3, q4, -⟩ := hI.2.2.2.2.1 _ hg
  obtain ⟨w0, w1, w2⟩ := hL.2.2.1 _ hg
  obtain ⟨M', e1, e2⟩ := X1_settle h hI hg him (effA s T (nP s) (fI s (nP s))) (effA s T (nP s) (oI s (nP s)))
  refine ⟨M', ?_, e2⟩
  unfold f_X1_playWonBy
  rw [gd_t (okB hb), hX.1.2.1, Option.bind_some, hL.1.2.2.1, hI.2.2.1.1, gd_t (okGr hb (by omega)), hX.gm (by omega), Option.bind_some, gd_t (hX.go hb (by omega)), w0, q0, X1_effortOf h hI q2 hg (Or.inl rfl), Option.bind_some]
  dsimp only
  rw [hX.1.2.1, Option.bind_some, hL.1.2.2.1, hI.2.2.1.1, gd_t (okGr hb (by omega)), hX.gm (by omega), Option.bind_some, gd_t (hX.go hb (by omega)), w1, q1, X1_effortOf h hI q3 hg (Or.inr rfl), Option.bind_some]
  dsimp only
  rw [e1, Option.bind_some]
end LL

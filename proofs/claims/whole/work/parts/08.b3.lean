theorem X7_force {M : Mm} (hM : RM M) (hI : Inv (M.1 1)) {i : Nat} (hi : i < nS (M.1 1)) (e : Int32) : f_X7_force M 0 (nI i) e = some (M, forA (M.1 1) (nP (M.1 1)) i e) := by
  have h6 := hI.1.2
  have key : ∀ t : Int32, f_X7_force_b19 M e (sO (M.1 1) i 1) t = some (M, (if 1 ≤ sO (M.1 1) i 1 - t then sO (M.1 1) i 1 - t else 1) * e) := by
    intro t
    unfold f_X7_force_b19
    by_cases c : 1 ≤ sO (M.1 1) i 1 - t
    · rw [if_pos c, if_pos c]
      rfl
    · rw [if_neg c, if_neg c]
      rfl
  unfold f_X7_force forA
  rw [gd_t (by decide), X7_its hM (nI i) 1 i 1 rfl rfl (by omega) (by decide), Option.bind_some]
  dsimp only
  rw [X7_tir hM hI, Option.bind_some]
  dsimp only
  by_cases c : tirA (M.1 1) (nP (M.1 1)) (nI i) = 0
  · simp only [if_pos c]
    exact key 0
  · simp only [if_neg c]
    exact key 1
theorem X7_chance {M : Mm} (hM : RM M) (hI : Inv (M.1 1)) (hg : nP (M.1 1) < nG (M.1 1)) (e1 e2 : Int32) : f_X7_chance M 0 (nI (nP (M.1 1))) e1 e2 = some (M, chA (M.1 1) (nP (M.1 1)) e1 e2) := by
  have h8 := hI.2.1.2
  obtain ⟨q0, q1, q2, q3, -, -⟩ := hI.2.2.2.2.1 _ hg
  unfold f_X7_chance chA
  rw [gd_t (by decide), X7_of hM (nI _) 0 (nP (M.1 1)) 0 rfl rfl (by omega) (by decide), Option.bind_some]
  dsimp only
  rw [q0, X7_force hM hI q2, Option.bind_some]
  dsimp only
  rw [X7_of hM (nI _) 1 (nP (M.1 1)) 1 rfl rfl (by omega) (by decide), Option.bind_some]
  dsimp only
  rw [q1, X7_force hM hI q3, Option.bind_some]
  dsimp only
  by_cases c : forA (M.1 1) (nP (M.1 1)) (fI (M.1 1) (nP (M.1 1))) e1 + forA (M.1 1) (nP (M.1 1)) (oI (M.1 1) (nP (M.1 1))) e2 = 0
  · rw [if_pos c, if_pos c]
  · rw [if_neg c, if_neg c, gd_t c]
theorem X7_givenTo {M : Mm} (hM : RM M) (hI : Inv (M.1 1)) (hg : nP (M.1 1) < nG (M.1 1)) (w : Int32) : f_X7_givenTo M 0 (nI (nP (M.1 1))) w = some (M, givA (M.1 1) (nP (M.1 1)) w) := by
  have h8 := hI.2.1.2
  have key : f_X7_givenTo_b25 M 0 w (otA (M.1 1) (nP (M.1 1)) w) = some (M, givA (M.1 1) (nP (M.1 1)) w) := by
    unfold f_X7_givenTo_b25 givA
    rw [gd_t (by decide), X7_bar hM hI, Option.bind_some]
    dsimp only
    by_cases c1 : barA (M.1 1) (nP (M.1 1)) w
    · rw [if_pos c1, if_neg (by decide), if_pos c1, X7_bar hM hI, Option.bind_some]
      dsimp only
      by_cases c2 : barA (M.1 1) (nP (M.1 1)) (otA (M.1 1) (nP (M.1 1)) w)
      · rw [if_pos c2, if_neg (by decide), if_pos c2, X7_pts hM hI, Option.bind_some]
        dsimp only
        rw [X7_pts hM hI, Option.bind_some]
        dsimp only
        by_cases c3 : ptsA (M.1 1) (nP (M.1 1)) w - ptsA (M.1 1) (nP (M.1 1)) (otA (M.1 1) (nP (M.1 1)) w) < 0
        · rw [if_pos c3, if_pos (Or.inl c3)]
          rfl
        · rw [if_neg c3]
          by_cases c4 : ptsA (M.1 1) (nP (M.1 1)) w - ptsA (M.1 1) (nP (M.1 1)) (otA (M.1 1) (nP (M.1 1)) w) = 0
          · rw [if_pos c4]
            by_cases c5 : otA (M.1 1) (nP (M.1 1)) w ≤ w
            · rw [if_pos c5, if_neg (fun h => h.elim c3 (fun h => absurd h.2 (Int32.not_lt.mpr c5)))]
            · rw [if_neg c5, if_pos (Or.inr ⟨c4, Int32.not_le.mp c5⟩)]
              rfl
          · rw [if_neg c4, if_neg (fun h => h.elim c3 (fun h => c4 h.1))]
      · rw [if_neg c2, if_pos rfl, if_neg c2]
    · rw [if_neg c1, if_pos rfl, if_neg c1]
  rw [← key]
  unfold f_X7_givenTo otA
  rw [gd_t (by decide), X7_of hM (nI _) 0 (nP (M.1 1)) 0 rfl rfl (by omega) (by decide), Option.bind_some]
  dsimp only
  by_cases c : gO (M.1 1) (nP (M.1 1)) 0 = w
  · rw [if_pos c, if_pos c, X7_of hM (nI _) 1 (nP (M.1 1)) 1 rfl rfl (by omega) (by decide), Option.bind_some]
  · rw [if_neg c, if_neg c, X7_of hM (nI _) 0 (nP (M.1 1)) 0 rfl rfl (by omega) (by decide), Option.bind_some]
theorem ix_add {a b : Nat} {y : Int32} (h : y = nI a) (c : Int32) (hc : c = nI b) : y + c = nI (a + b) := by rw [h, hc, nI_add]
theorem okS {i : Int32} {k : Nat} (h : i = nI k) (hk : k < 89) : okA nM shM 1 8 i := by
  subst h
  exact ⟨by decide, vin_nI hk (by decide)⟩
theorem X7_wins {M : Mm} (hM : RM M) (hI : Inv (M.1 1)) (hg : nP (M.1 1) < nG (M.1 1)) (w e1 e2 : Int32) : f_X7_wins M 0 w e1 e2 = some (sA M 1 (winA (M.1 1) w e1 e2), ()) := by
  have h8 := hI.2.1.2
  have hp := hI.2.2.1.1
  generalize hn : nP (M.1 1) = g at *
  have e0 : (23 : Int32) + ((7 : Int32) * nI g) = nI (23 + 7 * g) := by
    rw [show (23 : Int32) = nI 23 from rfl, show (7 : Int32) = nI 7 from rfl, pk_mul, nI_add]
  have i4 : nI (23 + 7 * g) + (4 : Int32) = nI (23 + 7 * g + 4) := ix_add rfl 4 rfl
  have i3 : nI (23 + 7 * g) + (3 : Int32) = nI (23 + 7 * g + 3) := ix_add rfl 3 rfl
  have i5 : nI (23 + 7 * g) + (5 : Int32) = nI (23 + 7 * g + 5) := ix_add rfl 5 rfl
  have i6 : nI (23 + 7 * g + 5) + (1 : Int32) = nI (23 + 7 * g + 6) := ix_add rfl 1 rfl
  have hp' : M.1 1 (2 : Int32).toNatClampNeg = nI g := by rw [cl2]; exact hp
  unfold f_X7_wins
  rw [gd_t (by decide), hM.at 0 rfl, Option.bind_some, gd_t (by decide), hp', e0]
  simp only [lt]
  rw [Option.bind_some, ← hn, X7_givenTo hM hI (by omega), hn, Option.bind_some]
  dsimp only
  rw [i4, i3, i5, i6, gd_t (okS rfl (by omega)), nI_clamp (by omega), sI_sA, hM.sA.at 0 rfl, Option.bind_some, gd_t (okS rfl (by omega)), nI_clamp (by omega), sI_sA2, hM.sA.at 0 rfl, Option.bind_some, gd_t (okS rfl (by omega)), nI_clamp (by omega), sI_sA2, hM.sA.at 0 rfl, Option.bind_some, gd_t (okS rfl (by omega)), nI_clamp (by omega), sI_sA2, hM.sA.at 0 rfl, Option.bind_some, gd_t (by decide), gd_t (by decide), cl2, sI_sA2, sA_at]
  unfold winA
  rw [hn]
  have q2 : upd (upd (upd (upd (M.1 1) (23 + 7 * g + 4) (givA (M.1 1) g w)) (23 + 7 * g + 3) w) (23 + 7 * g + 5) e1) (23 + 7 * g + 6) e2 2 = M.1 1 2 := by
    rw [pk_un (by omega), pk_un (by omega), pk_un (by omega), pk_un (by omega)]
  rw [q2]
theorem X7_winsNow {M : Mm} (hM : RM M) (hI : Inv (M.1 1)) (hg : nP (M.1 1) < nG (M.1 1)) (w : Int32) : f_X7_winsNow M 0 w = some (sA M 1 (winA (M.1 1) w (effA (M.1 1) (told M) (nP (M.1 1)) (fI (M.1 1) (nP (M.1 1)))) (effA (M.1 1) (told M) (nP (M.1 1)) (oI (M.1 1) (nP (M.1 1))))), ()) := by
  have h8 := hI.2.1.2
  have hp := hI.2.2.1.1
  obtain ⟨q0, q1, q2, q3, -, -⟩ := hI.2.2.2.2.1 _ hg
  unfold f_X7_winsNow
  rw [gd_t (by decide), hM.at 0 rfl, Option.bind_some, gd_t (by decide), cl2, hp, X7_of hM (nI _) 0 (nP (M.1 1)) 0 rfl rfl (by omega) (by decide), Option.bind_some]
  dsimp only
  rw [q0, X7_effort hM hI q2 hg, Option.bind_some]
  dsimp only
  rw [X7_of hM (nI _) 1 (nP (M.1 1)) 1 rfl rfl (by omega) (by decide), Option.bind_some]
  dsimp only
  rw [q1, X7_effort hM hI q3 hg, Option.bind_some]
  dsimp only
  rw [X7_wins hM hI hg, Option.bind_some]
theorem X7_isOver {M : Mm} (hM : RM M) (hI : Inv (M.1 1)) : f_X7_isOver M 0 = some (M, if nP (M.1 1) < nG (M.1 1) then 0 else 1) := by
  have h8 := hI.2.1.2
  have hp := hI.2.2.1
  unfold f_X7_isOver
  rw [gd_t (by decide), hM.at 0 rfl, Option.bind_some, gd_t (by decide), Option.bind_some, gd_t (by decide), cl1, cl2, hp.1, hI.2.1.1]
  by_cases c : nP (M.1 1) < nG (M.1 1)
  · rw [if_neg (fun h => by have := (nI_eq (by omega) (by omega)).mp h; omega), if_pos c]
  · rw [if_pos (by rw [show nP (M.1 1) = nG (M.1 1) by omega]), if_neg c]
/-- the side with most points, of the first n ones -/
def ldA (s : Nat → Int32) (g : Nat) : Nat → Nat
  | 0 => 0
  | 1 => 0
  | n + 2 => if ptsA s g (nI (ldA s g (n + 1))) < ptsA s g (nI (n + 1)) then n + 1 else ldA s g (n + 1)
theorem ldA_lt (s : Nat → Int32) (g : Nat) : ∀ n, 0 < n → ldA s g n < n
  | 0, h => absurd h (Nat.lt_irrefl 0)
  | 1, _ => Nat.zero_lt_one
  | n + 2, _ => by
    have := ldA_lt s g (n + 1) (Nat.succ_pos n)
    unfold ldA
    split <;> omega
theorem X7_leader_loop {M : Mm} (hM : RM M) (hI : Inv (M.1 1)) : ∀ (d k n : Nat), 1 ≤ k → k + d = nS (M.1 1) → d < n → f_X7_leader_b4 n M 0 (nI (ldA (M.1 1) (nP (M.1 1)) k)) (nI k) = some (M, nI (ldA (M.1 1) (nP (M.1 1)) (nS (M.1 1)))) := by
  have h6 := hI.1.2
  intro d
  induction d with
  | zero =>
    intro k n h0 h1 h2
    obtain ⟨n, rfl⟩ : ∃ z, n = z + 1 := ⟨n - 1, by omega⟩
    simp only [f_X7_leader_b4]
    rw [gd_t (by decide), hM.at 0 rfl, Option.bind_some, gd_t (by decide), cl0, hI.1.1, if_pos (nI_le (by omega) (by omega))]
    rw [show k = nS (M.1 1) by omega]
  | succ d ih =>
    intro k n h0 h1 h2
    obtain ⟨n, rfl⟩ : ∃ z, n = z + 1 := ⟨n - 1, by omega⟩
    obtain ⟨k, rfl⟩ : ∃ z, k = z + 1 := ⟨k - 1, by omega⟩
    simp only [f_X7_leader_b4]
    rw [gd_t (by decide), hM.at 0 rfl, Option.bind_some, gd_t (by decide), cl0, hI.1.1, if_neg (nI_ge (by omega) (by omega)), X7_pts hM hI, Option.bind_some]
    dsimp only
    rw [X7_pts hM hI, Option.bind_some]
    dsimp only
    have hr := ih (k + 2) n (by omega) (by omega) (by omega)
    by_cases c : ptsA (M.1 1) (nP (M.1 1)) (nI (k + 1)) ≤ ptsA (M.1 1) (nP (M.1 1)) (nI (ldA (M.1 1) (nP (M.1 1)) (k + 1)))
    · rw [if_pos c]
      unfold f_X7_leader_b32
      rw [nI_1, ← hr]
      simp only [ldA, if_neg (Int32.not_lt.mpr c)]
    · rw [if_neg c]
      unfold f_X7_leader_b32
      rw [nI_1, ← hr]
      simp only [ldA, if_pos (Int32.not_le.mp c)]
theorem X7_leader {M : Mm} (hM : RM M) (hI : Inv (M.1 1)) (h0 : 0 < nS (M.1 1)) : f_X7_leader M 0 = some (M, nI (ldA (M.1 1) (nP (M.1 1)) (nS (M.1 1)))) := by
  have h6 := hI.1.2
  exact X7_leader_loop hM hI (nS (M.1 1) - 1) 1 1000 (Nat.le_refl 1) (by omega) (by omega)

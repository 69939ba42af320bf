theorem fr_l {b : Nat} {X X' : Mm} (h : FR b X X') : X'.2.1 = X.2.1 := by rw [h.1]
theorem FW.at {X X' : Mm} {s s' : Rw} {T : Trp} {k0 : Nat} {n0 u : Int32} (h : FW X s T k0 n0 u) (hx : X'.2.2 = X.2.2) (h37 : ∀ f, f ≠ 7 → f ≠ 12 → X'.1 37 f = X.1 37 f) (hL : LG X' 38 s' T) : FW X' s' T k0 n0 u :=
  ⟨h.1.at hx, hL, (h37 8 (by decide) (by decide)).trans h.2.2.1, (h37 9 (by decide) (by decide)).trans h.2.2.2.1, (h37 10 (by decide) (by decide)).trans h.2.2.2.2⟩
theorem pw_pos (d : Nat) : 0 < 10 ^ d := Nat.pow_pos (by decide)
theorem follow_turn {d nd dep k0 : Nat} {s : Rw} {T : Trp} {n0 u : Int32} {w ct i : Nat} {e1 e2 x8 x9 : Int32} {x2 : Int64}
    (kk : Mm → Nat → Int32 → Int64 → Nat → Int32 → Nat → Int32 → Int32 → Int32 → Int32 → Option (Mm × Unit))
    (ih : ∀ (X : Mm) (s : Rw) (w : Nat), Inv s → nP s + d = nG s → FW X s T k0 n0 u → w * 10 ^ d ≤ 100000000 → ∃ X', f_X5_follow nd X 37 (nI dep + 1) (lN (w * 10 ^ d)) = some (X', ()) ∧ LG X' 38 s T ∧ XA s k0 u X X' (fun k => w * AA T (xP k) d s) (fun k => w * EA T (fF k) d s) (fun g => w * AA T (xG g) d s) (fun g => w * AA T (xM g) d s) (w * EA T (fL k0 n0) d s) (if w = 0 then 0 else WA T d s) (MA T (fP k0) d s))
    {X : Mm} (hI : Inv s) (hd : nP s + (d + 1) = nG s) (h : FW X s T k0 n0 u) (hw : w * ct * 10 ^ d ≤ 100000000) (hct : ct ≤ 10) (hu : u = 0 ∨ u = 1) (him : fI s (nP s) = i ∨ oI s (nP s) = i) :
    ∃ X', f_X5_follow_b128 (f_X5_follow nd) kk X 37 (nI dep) x2 38 (nI (nP s)) (gq X 38 (nP s)) e1 e2 x8 x9 (nI i) (lN (w * 10 ^ d)) (nI ct) = kk X' 37 (nI dep) x2 38 (nI (nP s)) (gq X 38 (nP s)) e1 e2 x8 (x9 + 1) ∧ LG X' 38 s T ∧ XA s k0 u X X' (fun k => w * ct * (10 ^ d * xP k s (nI i) + AA T (xP k) d (winA s (nI i) e1 e2))) (fun k => w * ct * EA T (fF k) d (winA s (nI i) e1 e2)) (fun g => w * ct * (10 ^ d * xG g s (nI i) + AA T (xG g) d (winA s (nI i) e1 e2))) (fun g => w * ct * (10 ^ d * xM g s (nI i) + AA T (xM g) d (winA s (nI i) e1 e2))) (w * ct * EA T (fL k0 n0) d (winA s (nI i) e1 e2)) (if w * ct = 0 then 0 else WA T d (winA s (nI i) e1 e2)) (MA T (fP k0) d (winA s (nI i) e1 e2)) := by
  obtain ⟨t1, t2, t3, t4, t5⟩ := id h
  obtain ⟨hb, hX, hL⟩ := id t2
  have h6 := hI.1.2
  have h8 := hI.2.1.2
  have hg : nP s < nG s := by omega
  have g8 : nP s < 8 := by omega
  obtain ⟨q0, q1, q2, q3, q4, wo, hw1, hw2, hw3⟩ := hI.2.2.2.2.1 _ hg
  have ew : w * ct * 10 ^ d = w * 10 ^ d * ct := by rw [Nat.mul_assoc, Nat.mul_comm ct, ← Nat.mul_assoc]
  have epart : lN (w * 10 ^ d) * (nI ct).toInt64 = lN (w * ct * 10 ^ d) := by rw [nI_l (by omega), lN_mul, ew]
  have hw0 : nI i = gO s (nP s) 0 ∨ nI i = gO s (nP s) 1 := by
    rw [q0, q1]
    rcases him with z | z <;> rw [z] <;> simp
  -- the game is played, summed up, gone on with, taken back
  have main : ∃ X', f_X5_follow_b149 (f_X5_follow nd) kk X 37 (nI dep) x2 38 (nI (nP s)) (gq X 38 (nP s)) e1 e2 x8 x9 (nI i) (lN (w * ct * 10 ^ d)) = kk X' 37 (nI dep) x2 38 (nI (nP s)) (gq X 38 (nP s)) e1 e2 x8 (x9 + 1) ∧ LG X' 38 s T ∧ XA s k0 u X X' (fun k => w * ct * (10 ^ d * xP k s (nI i) + AA T (xP k) d (winA s (nI i) e1 e2))) (fun k => w * ct * EA T (fF k) d (winA s (nI i) e1 e2)) (fun g => w * ct * (10 ^ d * xG g s (nI i) + AA T (xG g) d (winA s (nI i) e1 e2))) (fun g => w * ct * (10 ^ d * xM g s (nI i) + AA T (xM g) d (winA s (nI i) e1 e2))) (w * ct * EA T (fL k0 n0) d (winA s (nI i) e1 e2)) (if w * ct = 0 then 0 else WA T d (winA s (nI i) e1 e2)) (MA T (fP k0) d (winA s (nI i) e1 e2)) := by
    obtain ⟨X1, a1, a2, a3⟩ := X1_settle t2 hI hg him e1 e2
    obtain ⟨gi, hgi, egi⟩ : ∃ gi, gi < nS s ∧ givA s (nP s) (nI i) = nI gi := by
      rcases givA_in hw0 with z | z
      · exact ⟨_, q2, z.trans q0⟩
      · exact ⟨_, q3, z.trans q1⟩
    have hIw := hI.win (e1 := e1) (e2 := e2) hg hw0
    have gqe : gq X1 38 (nP s) = gq X 38 (nP s) := fr_gq a3
    have hgo := hX.go hb g8
    obtain ⟨v0, v1, v2⟩ := a2.2.2.2.2.1 (nP s) (by rw [winA_nG]; exact hg)
    rw [gqe, winA_lo (by decide)] at v0 v1 v2
    rw [hw3] at v2
    have x1 : X1.2.2 37 1 = some 56 := by rw [a3.out]; exact t1.1.2.1.2.1
    have x3 : X1.2.2 37 3 = some 58 := by rw [a3.out]; exact t1.1.2.1.2.2.2.1
    have x4 : X1.2.2 37 4 = some 59 := by rw [a3.out]; exact t1.1.2.1.2.2.2.2.1
    have egi' : (nI gi).toNatClampNeg = gi := nI_clamp (by omega)
    have eg' : (nI (nP s)).toNatClampNeg = nP s := nI_clamp (by omega)
    -- the sums behind the game
    have hXs : ∀ (vG vM : Int64), vG = lN (w * ct * (10 ^ d * xG (nP s) s (nI i))) → vM = lN (w * ct * (10 ^ d * xM (nP s) s (nI i))) →
        ∃ X', Option.bind (f_X5_follow nd (sL (sL (sL X1 56 gi (X1.2.1 56 gi + lN (w * ct * 10 ^ d * wo))) 58 (nP s) (X1.2.1 58 (nP s) + vG)) 59 (nP s) (X1.2.1 59 (nP s) + vM)) 37 (nI dep + 1) (lN (w * ct * 10 ^ d))) (fun r3 => gd (ok nX shX 38 1) (Option.bind (f_X1_takeBack r3.1 38) (fun r4 => f_X5_follow_b244 (f_X5_follow nd) kk r4.1 37 (nI dep) x2 38 (nI (nP s)) (gq X 38 (nP s)) e1 e2 x8 x9))) = kk X' 37 (nI dep) x2 38 (nI (nP s)) (gq X 38 (nP s)) e1 e2 x8 (x9 + 1) ∧ LG X' 38 s T ∧ XA s k0 u X X' (fun k => w * ct * (10 ^ d * xP k s (nI i) + AA T (xP k) d (winA s (nI i) e1 e2))) (fun k => w * ct * EA T (fF k) d (winA s (nI i) e1 e2)) (fun g => w * ct * (10 ^ d * xG g s (nI i) + AA T (xG g) d (winA s (nI i) e1 e2))) (fun g => w * ct * (10 ^ d * xM g s (nI i) + AA T (xM g) d (winA s (nI i) e1 e2))) (w * ct * EA T (fL k0 n0) d (winA s (nI i) e1 e2)) (if w * ct = 0 then 0 else WA T d (winA s (nI i) e1 e2)) (MA T (fP k0) d (winA s (nI i) e1 e2)) := by
      intro vG vM hG hM
      have hL2 : LG (sL (sL (sL X1 56 gi (X1.2.1 56 gi + lN (w * ct * 10 ^ d * wo))) 58 (nP s) (X1.2.1 58 (nP s) + vG)) 59 (nP s) (X1.2.1 59 (nP s) + vM)) 38 (winA s (nI i) e1 e2) T := a2
      have hF2 : FW (sL (sL (sL X1 56 gi (X1.2.1 56 gi + lN (w * ct * 10 ^ d * wo))) 58 (nP s) (X1.2.1 58 (nP s) + vG)) 59 (nP s) (X1.2.1 59 (nP s) + vM)) (winA s (nI i) e1 e2) T k0 n0 u := h.at a3.out (fun f _ _ => by rw [sL_1, sL_1, sL_1, a3.2 37 (by decide)]) hL2
      obtain ⟨X3, b1, b2, b3⟩ := ih _ (winA s (nI i) e1 e2) (w * ct) hIw (by rw [winA_nP hI, winA_nG]; omega) hF2 hw
      obtain ⟨X4, c1, c2, c3⟩ := X1_takeBack b2 hIw (p := nP s) (winA_nP hI)
      have hL4 : LG X4 38 s T := c2.sim hIw.bk (sim_bk hI hg).sym
      refine ⟨X4, ?_, hL4, ?_⟩
      · rw [b1, Option.bind_some]
        dsimp only
        rw [gd_t gX38, c1, Option.bind_some]
        rfl
      · have B := (b3.row (s' := s) winA_nG.symm winA_nS.symm).post c3
        obtain ⟨p1, p2, p3, p4, p5, p6, p7, p8, p9, p10, p11, p12⟩ := B
        dsimp only at p4 p5 p6 p7 p8 p10 p11
        have l1 := fr_l a3
        refine ⟨p1.trans a3.out, fun o ho => ?_, fun f h1 h2 => ?_, ?_, fun k hk => ?_, fun k hk => ?_, fun g hg => ?_, fun g hg => ?_, ?_, fun hk => ?_, fun hk hu m hm e => ?_, ?_⟩
        · rw [p2 o ho, sL_1, sL_1, sL_1, a3.2 o (by omega)]
        · rw [p3 f h1 h2, sL_1, sL_1, sL_1, a3.2 37 (by decide)]
        · rw [p4, sL_1, sL_1, sL_1, a3.2 37 (by decide)]
        · dsimp only
          rw [p5 k hk, sL_o (by decide), sL_o (by decide), Nat.mul_add, ← lN_add, ← Int64.add_assoc]
          congr 1
          by_cases ck : k = gi
          · subst ck
            have : xP k s (nI i) = wo := by
              unfold xP
              rw [if_pos egi, hw3, nI_clamp (by omega)]
            rw [sL_e, this, l1, Nat.mul_assoc]
          · have : xP k s (nI i) = 0 := by
              unfold xP
              rw [if_neg (fun z => ck ((nI_eq (by omega) (by omega)).mp (egi.symm.trans z)).symm)]
            rw [sL_k ck, this, l1, Nat.mul_zero, Nat.mul_zero]
            exact (Int64.add_zero _).symm
        · rw [p6 k hk, sL_o (by decide), sL_o (by decide), sL_o (by decide), l1]
        · dsimp only
          rw [p7 g hg, sL_o (by decide), Nat.mul_add, ← lN_add, ← Int64.add_assoc]
          congr 1
          by_cases ck : g = nP s
          · subst ck
            rw [sL_e, l1, hG]
          · have : xG g s (nI i) = 0 := if_neg (fun z => ck z.1)
            rw [sL_k ck, sL_o (by decide), this, l1, Nat.mul_zero, Nat.mul_zero]
            exact (Int64.add_zero _).symm
        · dsimp only
          rw [p8 g hg, Nat.mul_add, ← lN_add, ← Int64.add_assoc]
          congr 1
          by_cases ck : g = nP s
          · subst ck
            rw [sL_e, l1, hM]
          · have : xM g s (nI i) = 0 := if_neg (fun z => ck z.1)
            rw [sL_k ck, sL_o (by decide), sL_o (by decide), this, l1, Nat.mul_zero, Nat.mul_zero]
            exact (Int64.add_zero _).symm
        · rw [p9, sL_o (by decide), sL_o (by decide), sL_o (by decide), l1]
        · rw [p10 hk, sL_o (by decide), sL_o (by decide), sL_o (by decide), l1]
        · exact p11 hk hu m hm (by rw [sL_1, sL_1, sL_1, a3.2 37 (by decide)]; exact e)
        · rw [p12]
          funext j
          rw [sL_o (by decide), sL_o (by decide), sL_o (by decide), l1]
    have zG1 : (nI gi = gO s (nP s) 0) → lN (w * ct * 10 ^ d) = lN (w * ct * (10 ^ d * xG (nP s) s (nI i))) := fun z => by
      have : xG (nP s) s (nI i) = 1 := if_pos ⟨rfl, egi.trans z⟩
      rw [this, Nat.mul_one]
    have zG0 : ¬ (nI gi = gO s (nP s) 0) → (0 : Int64) = lN (w * ct * (10 ^ d * xG (nP s) s (nI i))) := fun z => by
      have : xG (nP s) s (nI i) = 0 := if_neg (fun y => z (egi.symm.trans y.2))
      rw [this, Nat.mul_zero, Nat.mul_zero]
      rfl
    have zM0 : (nI gi = nI i) → (0 : Int64) = lN (w * ct * (10 ^ d * xM (nP s) s (nI i))) := fun z => by
      have : xM (nP s) s (nI i) = 0 := if_neg (fun y => y.2 (egi.trans z))
      rw [this, Nat.mul_zero, Nat.mul_zero]
      rfl
    have zM1 : ¬ (nI gi = nI i) → lN (w * ct * 10 ^ d) = lN (w * ct * (10 ^ d * xM (nP s) s (nI i))) := fun z => by
      have : xM (nP s) s (nI i) = 1 := if_pos ⟨rfl, fun y => z (egi.symm.trans y)⟩
      rw [this, Nat.mul_one]
    have hb205 : ∀ vG : Int64, vG = lN (w * ct * (10 ^ d * xG (nP s) s (nI i))) → ∃ X', f_X5_follow_b205 (f_X5_follow nd) kk (sL X1 56 gi (X1.2.1 56 gi + lN (w * ct * 10 ^ d * wo))) 37 (nI dep) x2 38 (nI (nP s)) (gq X 38 (nP s)) e1 e2 x8 x9 (nI i) (lN (w * ct * 10 ^ d)) (nI gi) 58 (nI (nP s)) (X1.2.1 58 (nP s)) vG = kk X' 37 (nI dep) x2 38 (nI (nP s)) (gq X 38 (nP s)) e1 e2 x8 (x9 + 1) ∧ LG X' 38 s T ∧ XA s k0 u X X' (fun k => w * ct * (10 ^ d * xP k s (nI i) + AA T (xP k) d (winA s (nI i) e1 e2))) (fun k => w * ct * EA T (fF k) d (winA s (nI i) e1 e2)) (fun g => w * ct * (10 ^ d * xG g s (nI i) + AA T (xG g) d (winA s (nI i) e1 e2))) (fun g => w * ct * (10 ^ d * xM g s (nI i) + AA T (xM g) d (winA s (nI i) e1 e2))) (w * ct * EA T (fL k0 n0) d (winA s (nI i) e1 e2)) (if w * ct = 0 then 0 else WA T d (winA s (nI i) e1 e2)) (MA T (fP k0) d (winA s (nI i) e1 e2)) := by
      intro vG hG
      unfold f_X5_follow_b205 f_X5_follow_b228
      rw [gd_t (hL8 g8)]
      simp only [lt]
      rw [gd_t gX37, sL_r, sL_r, x4, Option.bind_some, gd_t (hL9 g8)]
      simp only [gd_t gX37, gd_t (hL9 g8), eg']
      rw [sL_o (show 59 ≠ 58 by decide), sL_o (show 59 ≠ 56 by decide)]
      by_cases c : nI gi = nI i
      · rw [if_pos c]
        exact hXs vG 0 hG (zM0 c)
      · rw [if_neg c]
        exact hXs vG _ hG (zM1 c)
    unfold f_X5_follow_b149
    rw [gd_t gX38, a1, Option.bind_some]
    dsimp only
    rw [gd_t gX37, egi, x1, Option.bind_some, gd_t (hL6 (by omega)), gd_t hgo, gd_t (hL6 (by omega)), egi', v2, nI_l (by omega), lN_mul]
    simp only [lt]
    rw [sL_r, x3, Option.bind_some, gd_t (hL8 g8), eg', sL_1, v0, sL_o (show 58 ≠ 56 by decide)]
    by_cases c : nI gi = gO s (nP s) 0
    · rw [if_pos c]
      exact hb205 _ (zG1 c)
    · rw [if_neg c]
      exact hb205 _ (zG0 c)
  unfold f_X5_follow_b128
  rw [epart, gd_t gX37, t5]
  have hcmp : lg_cmp (lN (w * ct * 10 ^ d)) 0 = 0 ↔ w * ct = 0 := by
    rw [lg_cmp_eq, ← lN_0, pk_lEQ (by omega) (by decide)]
    refine ⟨fun z => (Nat.mul_eq_zero.mp z).resolve_right (Nat.ne_of_gt (pw_pos d)), fun z => by rw [z, Nat.zero_mul]⟩
  by_cases c : w * ct = 0
  · rw [if_pos (hcmp.mpr c)]
    by_cases c2 : u = 0
    · rw [if_pos c2]
      refine ⟨X, rfl, t2, ?_⟩
      refine (XA.no (X2 := X) (Mx := MA T (fP k0) d (winA s (nI i) e1 e2)) rfl rfl (Or.inl (by rw [c2]; decide))).cong ?_ ?_ ?_ ?_ ?_ ?_ rfl <;> (try intro g) <;> rw [c] <;> simp
    · rw [if_neg c2]
      exact main
  · rw [if_neg (fun z => c (hcmp.mp z))]
    exact main
theorem X5_follow {k0 : Nat} {T : Trp} {n0 u : Int32} (hT : TOk T) (hk0 : k0 < 6) (hu : u = 0 ∨ u = 1) : ∀ (d nd dep : Nat) (X : Mm) (s : Rw) (w : Nat), d < nd → dep + d ≤ 8 → Inv s → nP s + d = nG s → FW X s T k0 n0 u → w * 10 ^ d ≤ 100000000 → ∃ X', f_X5_follow nd X 37 (nI dep) (lN (w * 10 ^ d)) = some (X', ()) ∧ LG X' 38 s T ∧ XA s k0 u X X' (fun k => w * AA T (xP k) d s) (fun k => w * EA T (fF k) d s) (fun g => w * AA T (xG g) d s) (fun g => w * AA T (xM g) d s) (w * EA T (fL k0 n0) d s) (if w = 0 then 0 else WA T d s) (MA T (fP k0) d s) := by
  intro d
  induction d with
  | zero =>
    intro nd dep X s w hnd hdep hI hd h hw
    obtain ⟨nd, rfl⟩ : ∃ z, nd = z + 1 := ⟨nd - 1, by omega⟩
    obtain ⟨t1, t2, t3, t4, t5⟩ := id h
    obtain ⟨X', a1, a2, a3⟩ := X5_arrive h hI hk0 (w := w) (by have := w_le hw; omega)
    refine ⟨X', ?_, a2, a3⟩
    simp only [f_X5_follow]
    rw [gd_t gX37, t1.1.2.1.1, Option.bind_some, gd_t gX38, X1_allPlayed t2 hI, Option.bind_some]
    dsimp only
    rw [if_neg (show ¬ nP s < nG s by omega), if_neg (by decide), Nat.pow_zero, Nat.mul_one, a1, Option.bind_some]
  | succ d ih =>
    intro nd dep X s w hnd hdep hI hd h hw
    obtain ⟨nd, rfl⟩ : ∃ z, nd = z + 1 := ⟨nd - 1, by omega⟩
    obtain ⟨t1, t2, t3, t4, t5⟩ := id h
    obtain ⟨hb, hX, hL⟩ := id t2
    have h6 := hI.1.2
    have h8 := hI.2.1.2
    have hg : nP s < nG s := by omega
    have g8 : nP s < 8 := by omega
    obtain ⟨q0, q1, q2, q3, q4, -⟩ := hI.2.2.2.2.1 _ hg
    obtain ⟨v0, v1, v2⟩ := hL.2.2.1 _ hg
    obtain ⟨hc, ec⟩ := cN_ok hI hT hg
    have ih' : ∀ (X : Mm) (s : Rw) (w : Nat), Inv s → nP s + d = nG s → FW X s T k0 n0 u → w * 10 ^ d ≤ 100000000 → ∃ X', f_X5_follow nd X 37 (nI dep + 1) (lN (w * 10 ^ d)) = some (X', ()) ∧ LG X' 38 s T ∧ XA s k0 u X X' (fun k => w * AA T (xP k) d s) (fun k => w * EA T (fF k) d s) (fun g => w * AA T (xG g) d s) (fun g => w * AA T (xM g) d s) (w * EA T (fL k0 n0) d s) (if w = 0 then 0 else WA T d s) (MA T (fP k0) d s) := fun X s w a b c e => by
      rw [nI_1]
      exact ih nd (dep + 1) X s w (by omega) (by omega) a b c e
    have x0 := t1.1.2.1.1
    have ediv : lN (w * 10 ^ (d + 1)) / 10 = lN (w * 10 ^ d) := by
      rw [show (10 : Int64) = lN 10 from rfl, pk_lDiv (by omega) (by decide) (by decide), Nat.pow_succ, ← Nat.mul_assoc, Nat.mul_div_cancel _ (by decide)]
    obtain ⟨X1, a1, a2, a3⟩ := follow_turn (e1 := eF s T) (e2 := eO s T) (x8 := nI (cN s T)) (x9 := 0) (x2 := lN (w * 10 ^ (d + 1))) (f_X5_follow_b82 (f_X5_follow nd) 999) ih' hI hd h (w := w) (ct := cN s T) (w_step hc hw) hc hu (Or.inl rfl)
    have h1 : FW X1 s T k0 n0 u := h.at a3.1 a3.2.2.1 a2
    have gq1 : gq X1 38 (nP s) = gq X 38 (nP s) := gq_at a3.1 38 _
    obtain ⟨X2, b1, b2, b3⟩ := follow_turn (e1 := eF s T) (e2 := eO s T) (x8 := nI (cN s T)) (x9 := 0 + 1) (x2 := lN (w * 10 ^ (d + 1))) (f_X5_follow_b82 (f_X5_follow nd) 998) ih' hI hd h1 (w := w) (ct := 10 - cN s T) (w_step (by omega) hw) (by omega) hu (Or.inr rfl)
    rw [gq1] at b1
    obtain ⟨v0', v1', v2'⟩ := a2.2.2.2.2.1 _ hg
    rw [gq1] at v1'
    refine ⟨X2, ?_, b2, ?_⟩
    · simp only [f_X5_follow]
      have fi := X1_effortOf t2 hI q2 hg (Or.inl rfl)
      have oi := X1_effortOf t2 hI q3 hg (Or.inr rfl)
      have ch := X1_chanceOfFirst t2 hI hg (eF s T) (eO s T)
      rw [ec] at ch
      have gG : okA nX shX 40 11 (nI (nP s)) := okGr (b := 38) hb g8
      have xg : X.2.2 40 (nI (nP s)).toNatClampNeg = some (gq X 38 (nP s)) := hX.gm g8
      rw [gd_t gX37, x0, Option.bind_some, gd_t gX38, X1_allPlayed t2 hI, Option.bind_some]
      dsimp only
      rw [if_pos hg, if_pos rfl, if_pos (show nI dep < (8 : Int32) from nI_lt (b := 8) (by omega) (by decide)), show X.2.2 38 1 = some 40 from hX.1.2.1, Option.bind_some, hL.1.2.2.1, hI.2.2.1.1, gd_t gG, xg, Option.bind_some, gd_t (hX.go hb g8), v0, q0, fi, Option.bind_some]
      dsimp only
      rw [v1, q1, oi, Option.bind_some]
      dsimp only
      rw [show f_X1_chanceOfFirst X 38 (effA s T (nP s) (fI s (nP s))) (effA s T (nP s) (oI s (nP s))) = some (X, nI (cN s T)) from ch, Option.bind_some]
      dsimp only
      rw [f_X5_follow_b82.eq_def]
      dsimp only
      rw [if_neg (by decide), if_pos rfl, gd_t (hX.go hb g8), v0, q0]
      unfold f_X5_follow_b106
      rw [if_pos rfl, ediv]
      rw [show f_X5_follow_b128 (f_X5_follow nd) (f_X5_follow_b82 (f_X5_follow nd) 999) X 37 (nI dep) (lN (w * 10 ^ (d + 1))) 38 (nI (nP s)) (gq X 38 (nP s)) (effA s T (nP s) (fI s (nP s))) (effA s T (nP s) (oI s (nP s))) (nI (cN s T)) 0 (nI (fI s (nP s))) (lN (w * 10 ^ d)) (nI (cN s T)) = _ from a1]
      rw [f_X5_follow_b82.eq_def]
      dsimp only
      rw [if_neg (by decide), if_neg (by decide), gd_t (hX.go hb g8), v1', q1]
      unfold f_X5_follow_b106
      rw [if_neg (by decide), ediv, show (10 : Int32) - nI (cN s T) = nI (10 - cN s T) from pk_sub (a := 10) hc, b1]
      rw [f_X5_follow_b82.eq_def]
      dsimp only
      rw [if_pos (by decide)]
    · have A1 : winA s (nI (fI s (nP s))) (eF s T) (eO s T) = w1 s T := by unfold w1; rw [q0]
      have A2 : winA s (nI (oI s (nP s))) (eF s T) (eO s T) = w2 s T := by unfold w2; rw [q1]
      rw [A1] at a3
      rw [A2] at b3
      have C := a3.tr b3 rfl rfl (MA_lt (w1_inv hI hg) (by rw [w1_nP hI, w1_nG]; omega) k0)
      refine C.cong (fun g => ?_) (fun g => ?_) (fun g => ?_) (fun g => ?_) ?_ ?_ ?_
      · simp only [AA]
        rw [q0, q1]
        exact split_w w _ _ _
      · simp only [EA]
        exact split_w w _ _ _
      · simp only [AA]
        rw [q0, q1]
        exact split_w w _ _ _
      · simp only [AA]
        rw [q0, q1]
        exact split_w w _ _ _
      · simp only [EA]
        exact split_w w _ _ _
      · simp only [WA]
        exact split_W w _ _ _
      · rfl

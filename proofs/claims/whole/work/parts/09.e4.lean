section YY
variable {s s' : Rw} {Y Y1 Y2 : Mm} {V V' : Nat → Nat → Nat} {Mv F P L X Mv' F' P' L' X' : Nat → Nat} {W W' : Nat}
theorem YR.pre {f : Rw} (h : YR s (sA Y 1 f) Y2 V Mv F P L X W) : YR s Y Y2 V Mv F P L X W := by
  obtain ⟨a1, a2, a3, a4, a5, a6, a7, a8, a9, a10, a11⟩ := h
  refine ⟨a1, fun o h1 h2 h3 => (a2 o h1 h2 h3).trans (sA_ne h2), fun k hk => (a3 k hk).trans (by rw [sA_ne (by decide)]), by rw [a4, sA_ne (by decide)], a5, a6, a7, a8, a9, fun k hk m hm e => a10 k hk m hm (by rw [sA_ne (by decide)]; exact e), a11⟩
theorem YR.post {f : Rw} (h : YR s Y Y2 V Mv F P L X W) : YR s Y (sA Y2 1 f) V Mv F P L X W := by
  obtain ⟨a1, a2, a3, a4, a5, a6, a7, a8, a9, a10, a11⟩ := h
  refine ⟨a1, fun o h1 h2 h3 => (sA_ne h2).trans (a2 o h1 h2 h3), fun k hk => by rw [sA_ne (by decide)]; exact a3 k hk, by rw [sA_ne (by decide), a4], a5, a6, a7, a8, a9, fun k hk m hm e => by rw [sA_ne (by decide)]; exact a10 k hk m hm e, a11⟩
theorem YR.row (h : YR s Y Y2 V Mv F P L X W) (hG : nG s' = nG s) (hS : nS s' = nS s) : YR s' Y Y2 V Mv F P L X W := by
  unfold YR at *
  rw [hG, hS]
  exact h
theorem YR.cong (h : YR s Y Y2 V Mv F P L X W) (hV : ∀ g k, V g k = V' g k) (hM : ∀ g, Mv g = Mv' g) (hF : ∀ g, F g = F' g) (hP : ∀ g, P g = P' g) (hL : ∀ g, L g = L' g) (hX : ∀ g, X g = X' g) (hW : W = W') : YR s Y Y2 V' Mv' F' P' L' X' W' := by
  obtain rfl : V = V' := funext (fun g => funext (fun k => hV g k))
  obtain rfl : Mv = Mv' := funext hM
  obtain rfl : F = F' := funext hF
  obtain rfl : P = P' := funext hP
  obtain rfl : L = L' := funext hL
  obtain rfl : X = X' := funext hX
  subst hW
  exact h
end YY
theorem back_sim {s s2 : Rw} {w e1 e2 : Int32} (hI : Inv s) (hg8 : nP s < nG s) (h : Sim (winA s w e1 e2) s2) : Sim s (upd s2 2 (nI (nP s))) := by
  have h8 := hI.2.1.2
  refine ⟨fun k hk => ?_, fun j hj => ?_, fun g hg j hj hc => ?_⟩
  · by_cases c : k = 2
    · rw [c, pk_us, hI.2.2.1.1]
      rw [nI_clampS (s := s) (k := 2) hI.2.2.1.1 (by have := hI.np8; omega)] at *
    · rw [pk_un c, h.1 k hk, winA_ne c (by omega)]
  · rw [pk_un (by omega), h.2.1 j hj, winA_ne (by omega) (by omega)]
  · rw [gO_upd (by omega), h.2.2 g hg j hj (by rw [winA_nP hI]; omega)]
    by_cases c : j < 3
    · exact winA_lo c
    · exact winA_old (by omega) hj
theorem split_w (w c a b : Nat) : w * c * a + w * (10 - c) * b = w * (c * a + (10 - c) * b) := by rw [Nat.mul_add, Nat.mul_assoc, Nat.mul_assoc]
theorem split_W (w c a b : Nat) : (if w * c = 0 then 0 else a) + (if w * (10 - c) = 0 then 0 else b) = if w = 0 then 0 else ((if c = 0 then 0 else a) + (if 10 - c = 0 then 0 else b)) := by
  by_cases h : w = 0
  · rw [if_pos h, h, Nat.zero_mul, Nat.zero_mul]
    rfl
  · rw [if_neg h, if_iff (show w * c = 0 ↔ c = 0 from ⟨fun z => (Nat.mul_eq_zero.mp z).resolve_left h, fun z => by rw [z, Nat.mul_zero]⟩), if_iff (show w * (10 - c) = 0 ↔ 10 - c = 0 from ⟨fun z => (Nat.mul_eq_zero.mp z).resolve_left h, fun z => by rw [z, Nat.mul_zero]⟩)]
theorem w_step {w c d : Nat} (hc : c ≤ 10) (h : w * 10 ^ (d + 1) ≤ 100000000) : w * c * 10 ^ d ≤ 100000000 := by
  have h1 : w * c * 10 ^ d ≤ w * 10 * 10 ^ d := Nat.mul_le_mul_right _ (Nat.mul_le_mul_left _ hc)
  rw [Nat.pow_succ, Nat.mul_comm (10 ^ d) 10, ← Nat.mul_assoc] at h
  omega
theorem w_le {w d : Nat} (h : w * 10 ^ d ≤ 100000000) : w ≤ 100000000 := Nat.le_trans (Nat.le_mul_of_pos_right w (Nat.pow_pos (by decide))) h
theorem MA_lt {T : Trp} {d : Nat} {s : Rw} (hI : Inv s) (hd : nP s + d = nG s) (k : Nat) : MA T (fP k) d s < 1000 := by
  have := MA_le (T := T) (φ := fP k) (N := 72) d s hI hd (fun s' hI' => (pN_ok hI' k).2)
  omega
theorem X7_goesOn : ∀ (d nd : Nat) (Y : Mm) (s : Rw) (w : Nat), d < nd → Inv s → nP s + d = nG s → RM Y → Y.1 1 = s → TOk (told Y) → w * 10 ^ d ≤ 100000000 →
    ∃ Y', f_X7_goesOn nd Y 0 (lN w) = some (Y', ()) ∧ Sim s (Y'.1 1) ∧ YR s Y Y' (fun g k => w * EA (told Y) (fW g k) d s) (fun g => w * EA (told Y) (fM g) d s) (fun k => w * EA (told Y) (fF k) d s) (fun k => w * EA (told Y) (fP k) d s) (fun k => w * EA (told Y) (fL k (Y.1 0 21)) d s) (fun k => MA (told Y) (fP k) d s) (if w = 0 then 0 else WA (told Y) d s) := by
  intro d
  induction d with
  | zero =>
    intro nd Y s w hnd hI hd hM hs hT hw
    obtain ⟨nd, rfl⟩ : ∃ z, nd = z + 1 := ⟨nd - 1, by omega⟩
    have hov := X7_isOver hM (by rw [hs]; exact hI)
    rw [hs, if_neg (show ¬ nP s < nG s by omega)] at hov
    obtain ⟨Y', e1, e2, e3⟩ := X7_ends hI (by omega) hM hs (w := w) (by have := w_le hw; omega)
    refine ⟨Y', ?_, by rw [e2]; exact Sim.rf, e3⟩
    simp only [f_X7_goesOn]
    rw [gd_t gM0, hov, Option.bind_some]
    dsimp only
    rw [if_neg (by decide), e1, Option.bind_some]
  | succ d ih =>
    intro nd Y s w hnd hI hd hM hs hT hw
    obtain ⟨nd, rfl⟩ : ∃ z, nd = z + 1 := ⟨nd - 1, by omega⟩
    have h6 := hI.1.2
    have h8 := hI.2.1.2
    have hg : nP s < nG s := by omega
    have g8 : nP s < 8 := by omega
    obtain ⟨q0, q1, q2, q3, -, -⟩ := hI.2.2.2.2.1 _ hg
    have hIY : Inv (Y.1 1) := by rw [hs]; exact hI
    have hgY : nP (Y.1 1) < nG (Y.1 1) := by rw [hs]; exact hg
    have hov := X7_isOver hM hIY
    rw [hs, if_pos hg] at hov
    have f1 := X7_effort hM hIY (i := fI s (nP s)) (by rw [hs]; exact q2) hgY
    have f2 := X7_effort hM hIY (i := oI s (nP s)) (by rw [hs]; exact q3) hgY
    have f3 := X7_chance hM hIY hgY (eF s (told Y)) (eO s (told Y))
    have f4 := X7_wins hM hIY hgY (gO s (nP s) 0) (eF s (told Y)) (eO s (told Y))
    have f5 := X7_of hM (nI (nP s)) 0 (nP s) 0 rfl rfl g8 (by decide)
    have f6 := X7_of hM (nI (nP s)) 1 (nP s) 1 rfl rfl g8 (by decide)
    rw [hs] at f1 f2 f3 f4 f5 f6
    obtain ⟨hc, ec⟩ := cN_ok hI hT hg
    rw [ec] at f3
    have hp2 : Y.1 1 2 = nI (nP s) := by rw [hs]; exact hI.2.2.1.1
    generalize hcc : cN s (told Y) = c at *
    -- the first one wins
    obtain ⟨Y2, a1, a2, a3⟩ := ih nd (sA Y 1 (w1 s (told Y))) (w1 s (told Y)) (w * c) (by omega) (w1_inv hI hg) (by rw [w1_nP hI, w1_nG]; omega) hM sA_at hT (w_step hc hw)
    have ht2 : told Y2 = told Y := by
      unfold told
      rw [a3.2.2.1 5 (by decide), a3.2.2.1 6 (by decide), a3.2.2.1 7 (by decide)]
      rfl
    have hM2 : RM Y2 := by unfold RM; rw [a3.1]; exact hM
    have e22 : Y2.1 1 2 - 1 = nI (nP s) := by
      rw [a2.1 2 (by decide)]
      unfold w1
      rw [winA_2, hI.2.2.1.1, nI_1, nI_pred]
      rw [nI_clampS (s := s) (k := 2) hI.2.2.1.1 (by omega)] at *
    have s3 : Sim s (upd (Y2.1 1) 2 (nI (nP s))) := back_sim hI hg a2
    have hI3 := s3.inv hI
    have hM3 : RM (sA Y2 1 (upd (Y2.1 1) 2 (nI (nP s)))) := hM2
    have f7 := X7_of hM3 (nI (nP s)) 1 (nP s) 1 rfl rfl g8 (by decide)
    rw [sA_at, s3.lo g8 (show 1 < 3 by decide)] at f7
    have f8 := X7_wins hM3 (by rw [sA_at]; exact hI3) (by rw [sA_at, s3.eP, s3.eG]; exact hg) (gO s (nP s) 1) (eF s (told Y)) (eO s (told Y))
    rw [sA_at, sA_sA] at f8
    -- the other wins
    have s4 : Sim (w2 s (told Y)) (winA (upd (Y2.1 1) 2 (nI (nP s))) (gO s (nP s) 1) (eF s (told Y)) (eO s (told Y))) := s3.win hI hg _ _ _
    have hI4 := s4.inv (w2_inv hI hg)
    obtain ⟨Y5, b1, b2, b3⟩ := ih nd (sA Y2 1 (winA (upd (Y2.1 1) 2 (nI (nP s))) (gO s (nP s) 1) (eF s (told Y)) (eO s (told Y)))) _ (w * (10 - c)) (by omega) hI4 (by rw [s4.eP, s4.eG, w2_nP hI, w2_nG]; omega) hM2 sA_at (by rw [show told (sA Y2 1 (winA (upd (Y2.1 1) 2 (nI (nP s))) (gO s (nP s) 1) (eF s (told Y)) (eO s (told Y)))) = told Y from ht2]; exact hT) (w_step (by omega) hw)
    rw [show told (sA Y2 1 (winA (upd (Y2.1 1) 2 (nI (nP s))) (gO s (nP s) 1) (eF s (told Y)) (eO s (told Y)))) = told Y from ht2] at b3
    have hM5 : RM Y5 := by unfold RM; rw [b3.1]; exact hM2
    have e52 : Y5.1 1 2 - 1 = nI (nP s) := by
      rw [b2.1 2 (by decide), winA_2, pk_us, nI_1, nI_pred]
    have s5 : Sim s (upd (Y5.1 1) 2 (nI (nP s))) := by
      have := back_sim hI3 (by rw [s3.eP, s3.eG]; exact hg) b2
      rw [s3.eP] at this
      exact s3.tr this
    refine ⟨sA Y5 1 (upd (Y5.1 1) 2 (nI (nP s))), ?_, by rw [sA_at]; exact s5, ?_⟩
    · simp only [f_X7_goesOn]
      rw [gd_t gM0, hov, Option.bind_some]
      dsimp only
      rw [if_pos rfl, hM.at 0 rfl, Option.bind_some, gd_t gA2, show Y.1 1 (2 : Int32).toNatClampNeg = nI (nP s) by rw [cl2]; exact hp2, f5, Option.bind_some]
      dsimp only
      rw [q0, f1, Option.bind_some]
      dsimp only
      rw [f6, Option.bind_some]
      dsimp only
      rw [q1, f2, Option.bind_some]
      dsimp only
      rw [show f_X7_chance Y 0 (nI (nP s)) (effA s (told Y) (nP s) (fI s (nP s))) (effA s (told Y) (nP s) (oI s (nP s))) = some (Y, nI c) from f3, Option.bind_some]
      dsimp only
      rw [f5, Option.bind_some]
      dsimp only
      rw [show f_X7_wins Y 0 (gO s (nP s) 0) (effA s (told Y) (nP s) (fI s (nP s))) (effA s (told Y) (nP s) (oI s (nP s))) = some (sA Y 1 (w1 s (told Y)), ()) from f4, Option.bind_some]
      dsimp only
      rw [nI_l (by omega), lN_mul, a1, Option.bind_some]
      dsimp only
      rw [hM2.at 0 rfl, Option.bind_some, gd_t gA2, gd_t gA2, show Y2.1 1 (2 : Int32).toNatClampNeg - 1 = nI (nP s) by rw [cl2]; exact e22, show ∀ v, sI Y2 1 (2 : Int32).toNatClampNeg v = sI Y2 1 2 v from fun v => by rw [cl2]]
      simp only [lt]
      rw [sI_sA, f7, Option.bind_some]
      dsimp only
      rw [show f_X7_wins (sA Y2 1 (upd (Y2.1 1) 2 (nI (nP s)))) 0 (gO s (nP s) 1) (effA s (told Y) (nP s) (fI s (nP s))) (effA s (told Y) (nP s) (oI s (nP s))) = _ from f8, Option.bind_some]
      dsimp only
      rw [show (10 : Int32) = nI 10 from rfl, pk_sub (show c ≤ 10 from hc), nI_l (by omega), lN_mul, b1, Option.bind_some]
      dsimp only
      rw [hM5.at 0 rfl, Option.bind_some, gd_t gA2, gd_t gA2, cl2, e52, sI_sA]
    · have A := (a3.pre).row (s' := s) w1_nG.symm (winA_nS (s := s)).symm
      have B := (b3.pre).row (s' := s) (by rw [s4.eG, w2_nG]) (by rw [s4.eS]; exact (winA_nS (s := s)).symm)
      have t1 : told (sA Y 1 (w1 s (told Y))) = told Y := rfl
      have h21 : (sA Y 1 (w1 s (told Y))).1 0 21 = Y.1 0 21 := by rw [sA_ne (by decide)]
      have h21b : (sA Y2 1 (winA (upd (Y2.1 1) 2 (nI (nP s))) (gO s (nP s) 1) (eF s (told Y)) (eO s (told Y)))).1 0 21 = Y.1 0 21 := by rw [sA_ne (by decide), A.2.2.1 21 (by decide)]
      have hd1 : nP (w2 s (told Y)) + d = nG (w2 s (told Y)) := by rw [w2_nP hI, w2_nG]; omega
      have C := (A.tr B rfl rfl (fun k => MA_lt (w1_inv hI hg) (by rw [w1_nP hI, w1_nG]; omega) k)).post (f := upd (Y5.1 1) 2 (nI (nP s)))
      refine C.cong (fun g k => ?_) (fun g => ?_) (fun g => ?_) (fun g => ?_) (fun g => ?_) (fun g => ?_) ?_
      · rw [EA_sim (fW_ro g k) d _ _ (w2_inv hI hg) s4 hd1]
        simp only [EA]
        rw [hcc]
        exact split_w w c _ _
      · rw [EA_sim (fM_ro g) d _ _ (w2_inv hI hg) s4 hd1]
        simp only [EA]
        rw [hcc]
        exact split_w w c _ _
      · rw [EA_sim (fF_ro g) d _ _ (w2_inv hI hg) s4 hd1]
        simp only [EA]
        rw [hcc]
        exact split_w w c _ _
      · rw [EA_sim (fP_ro g) d _ _ (w2_inv hI hg) s4 hd1]
        simp only [EA]
        rw [hcc]
        exact split_w w c _ _
      · rw [h21, h21b, EA_sim (fL_ro g _) d _ _ (w2_inv hI hg) s4 hd1]
        simp only [EA]
        rw [hcc]
        exact split_w w c _ _
      · rw [MA_sim (fP_ro g) d _ _ (w2_inv hI hg) s4 hd1]
        rfl
      · rw [WA_sim d _ _ (w2_inv hI hg) s4 hd1]
        simp only [WA]
        rw [hcc]
        exact split_W w c _ _
/-! the rows of sums begin with 0 -/
theorem fw6 : ∀ (d j n : Nat) (Y : Mm), j + d = 48 → d < n → RM Y → ∃ Z, f_X7_findWays_b2 n Y 0 (nI j) = f_X7_findWays_b23 1000 Z 0 0 ∧ Z.1 = Y.1 ∧ Z.2.2 = Y.2.2 ∧ (∀ k, j ≤ k → k < 48 → Z.2.1 6 k = 0) ∧ (∀ k, k < j → Z.2.1 6 k = Y.2.1 6 k) ∧ ∀ o, o ≠ 6 → Z.2.1 o = Y.2.1 o := by
  intro d
  induction d with
  | zero =>
    intro j n Y h1 h2 hM
    obtain ⟨n, rfl⟩ : ∃ z, n = z + 1 := ⟨n - 1, by omega⟩
    refine ⟨Y, ?_, rfl, rfl, fun k a b => by omega, fun _ _ => rfl, fun _ _ => rfl⟩
    simp only [f_X7_findWays_b2]
    rw [if_pos (show (48 : Int32) ≤ nI j from nI_le (a := 48) (by omega) (by omega))]
  | succ d ih =>
    intro j n Y h1 h2 hM
    obtain ⟨n, rfl⟩ : ∃ z, n = z + 1 := ⟨n - 1, by omega⟩
    obtain ⟨Z, e1, e2, e3, e4, e5, e6⟩ := ih (j + 1) n (sL Y 6 j 0) (by omega) (by omega) hM
    refine ⟨Z, ?_, e2, e3, fun k a b => ?_, fun k a => by rw [e5 k (by omega), sL_k (by omega)], fun o ho => by rw [e6 o ho]; funext k; rw [sL_o ho]⟩
    · simp only [f_X7_findWays_b2]
      rw [if_neg (show ¬ (48 : Int32) ≤ nI j from nI_ge (b := 48) (by omega) (by decide)), gd_t gM0, hM.at 16 rfl, Option.bind_some, gd_t (gL6 (by omega)), nI_clamp (by omega), nI_1]
      exact e1
    · by_cases c : k = j
      · subst c
        rw [e5 k (by omega), sL_e]
      · exact e4 k (by omega) b
theorem fw7 : ∀ (d j n : Nat) (Y : Mm), j + d = 8 → d < n → RM Y → ∃ Z, f_X7_findWays_b23 n Y 0 (nI j) = f_X7_findWays_b44 1000 Z 0 0 ∧ Z.1 = Y.1 ∧ Z.2.2 = Y.2.2 ∧ (∀ k, j ≤ k → k < 8 → Z.2.1 7 k = 0) ∧ (∀ k, k < j → Z.2.1 7 k = Y.2.1 7 k) ∧ ∀ o, o ≠ 7 → Z.2.1 o = Y.2.1 o := by
  intro d
  induction d with
  | zero =>
    intro j n Y h1 h2 hM
    obtain ⟨n, rfl⟩ : ∃ z, n = z + 1 := ⟨n - 1, by omega⟩
    refine ⟨Y, ?_, rfl, rfl, fun k a b => by omega, fun _ _ => rfl, fun _ _ => rfl⟩
    simp only [f_X7_findWays_b23]
    rw [if_pos (show (8 : Int32) ≤ nI j from nI_le (a := 8) (by omega) (by omega))]
  | succ d ih =>
    intro j n Y h1 h2 hM
    obtain ⟨n, rfl⟩ : ∃ z, n = z + 1 := ⟨n - 1, by omega⟩
    obtain ⟨Z, e1, e2, e3, e4, e5, e6⟩ := ih (j + 1) n (sL Y 7 j 0) (by omega) (by omega) hM
    refine ⟨Z, ?_, e2, e3, fun k a b => ?_, fun k a => by rw [e5 k (by omega), sL_k (by omega)], fun o ho => by rw [e6 o ho]; funext k; rw [sL_o ho]⟩
    · simp only [f_X7_findWays_b23]
      rw [if_neg (show ¬ (8 : Int32) ≤ nI j from nI_ge (b := 8) (by omega) (by decide)), gd_t gM0, hM.at 17 rfl, Option.bind_some, gd_t (gL7 (by omega)), nI_clamp (by omega), nI_1]
      exact e1
    · by_cases c : k = j
      · subst c
        rw [e5 k (by omega), sL_e]
      · exact e4 k (by omega) b
def fwC (Z : Mm) : Option (Mm × Int64) := Option.bind (f_X7_goesOn 10 (sI Z 0 23 0) 0 (1 : Int64)) (fun r8 => Option.bind (r8.1.2.2 0 0) (fun q9 => gd (okA nM shM q9 8 (2 : Int32)) (f_X7_findWays_b103 1000 r8.1 0 (1 : Int64) (r8.1.1 q9 (2 : Int32).toNatClampNeg))))
theorem fw4 : ∀ (d j n : Nat) (Y : Mm), j + d = 6 → d < n → RM Y → ∃ Z, f_X7_findWays_b44 n Y 0 (nI j) = fwC Z ∧ (∀ o, o ≠ 10 → Z.1 o = Y.1 o) ∧ Z.2.2 = Y.2.2 ∧ (∀ k, j ≤ k → k < 6 → Z.2.1 8 k = 0 ∧ Z.2.1 9 k = 0 ∧ Z.1 10 k = 0 ∧ Z.2.1 11 k = 0) ∧ (∀ k, k < j → Z.2.1 8 k = Y.2.1 8 k ∧ Z.2.1 9 k = Y.2.1 9 k ∧ Z.1 10 k = Y.1 10 k ∧ Z.2.1 11 k = Y.2.1 11 k) ∧ ∀ o, o ≠ 8 → o ≠ 9 → o ≠ 11 → Z.2.1 o = Y.2.1 o := by
  intro d
  induction d with
  | zero =>
    intro j n Y h1 h2 hM
    obtain ⟨n, rfl⟩ : ∃ z, n = z + 1 := ⟨n - 1, by omega⟩
    refine ⟨Y, ?_, fun _ _ => rfl, rfl, fun k a b => by omega, fun _ _ => ⟨rfl, rfl, rfl, rfl⟩, fun _ _ _ _ => rfl⟩
    simp only [f_X7_findWays_b44]
    rw [if_pos (show (6 : Int32) ≤ nI j from nI_le (a := 6) (by omega) (by omega)), gd_t gM0]
    rfl
  | succ d ih =>
    intro j n Y h1 h2 hM
    obtain ⟨n, rfl⟩ : ∃ z, n = z + 1 := ⟨n - 1, by omega⟩
    have hj : j < 6 := by omega
    have ej : (nI j).toNatClampNeg = j := nI_clamp (by omega)
    obtain ⟨Z, e1, e2, e3, e4, e5, e6⟩ := ih (j + 1) n (sL (sI (sL (sL Y 8 j 0) 9 j 0) 10 j 0) 11 j 0) (by omega) (by omega) hM
    refine ⟨Z, ?_, fun o ho => by rw [e2 o ho, sL_1, sI_obj ho]; rfl, e3, fun k a b => ?_, fun k a => ?_, fun o h1 h2 h3 => by rw [e6 o h1 h2 h3]; funext k; rw [sL_o h3, sI_l, sL_o h2, sL_o h1]⟩
    · simp only [f_X7_findWays_b44]
      rw [if_neg (show ¬ (6 : Int32) ≤ nI j from nI_ge (b := 6) (by omega) (by decide)), gd_t gM0, hM.at 18 rfl, Option.bind_some, gd_t (gL8 hj)]
      simp only [lt]
      rw [sL_r, hM.at 19 rfl, Option.bind_some, gd_t (gL9 hj), sL_r, sL_r, hM.at 20 rfl, Option.bind_some, gd_t (gI10 hj), sI_r, sL_r, sL_r, hM.at 22 rfl, Option.bind_some, gd_t (gL11 hj), ej, nI_1]
      exact e1
    · by_cases c : k = j
      · subst c
        obtain ⟨x1, x2, x3, x4⟩ := e5 k (by omega)
        refine ⟨?_, ?_, ?_, ?_⟩
        · rw [x1, sL_o (by decide), sI_l, sL_o (by decide), sL_e]
        · rw [x2, sL_o (by decide), sI_l, sL_e]
        · rw [x3, sL_1, rdE]
        · rw [x4, sL_e]
      · exact e4 k (by omega) b
    · obtain ⟨x1, x2, x3, x4⟩ := e5 k (by omega)
      refine ⟨?_, ?_, ?_, ?_⟩
      · rw [x1, sL_o (by decide), sI_l, sL_o (by decide), sL_k (by omega)]
      · rw [x2, sL_o (by decide), sI_l, sL_k (by omega), sL_o (by decide)]
      · rw [x3, sL_1, rdK (by omega)]
        rfl
      · rw [x4, sL_k (by omega), sI_l, sL_o (by decide), sL_o (by decide)]
theorem fw_all {s : Rw} (hI : Inv s) : ∀ (d g n : Nat) (Y : Mm) (x : Nat), g + d = nG s → d < n → RM Y → Y.1 1 1 = s 1 → f_X7_findWays_b103 n Y 0 (lN x) (nI g) = some (Y, lN (x * 10 ^ d)) := by
  have h8 := hI.2.1.2
  intro d
  induction d with
  | zero =>
    intro g n Y x h1 h2 hM hs
    obtain ⟨n, rfl⟩ : ∃ z, n = z + 1 := ⟨n - 1, by omega⟩
    simp only [f_X7_findWays_b103]
    rw [gd_t gM0, hM.at 0 rfl, Option.bind_some, gd_t gA1, cl1, hs, hI.2.1.1, if_pos (nI_le (by omega) (by omega))]
    rw [Nat.pow_zero, Nat.mul_one]
  | succ d ih =>
    intro g n Y x h1 h2 hM hs
    obtain ⟨n, rfl⟩ : ∃ z, n = z + 1 := ⟨n - 1, by omega⟩
    simp only [f_X7_findWays_b103]
    rw [gd_t gM0, hM.at 0 rfl, Option.bind_some, gd_t gA1, cl1, hs, hI.2.1.1, if_neg (nI_ge (by omega) (by omega)), show (10 : Int64) = lN 10 from rfl, lN_mul, nI_1, ih (g + 1) n Y (x * 10) (by omega) (by omega) hM hs, Nat.mul_assoc, Nat.pow_succ, Nat.mul_comm 10]
/-- what all ways come to, in the reference's rows -/
def WY (s : Rw) (T : Trp) (a : Int32) (Y Y' : Mm) : Prop :=
  Y'.2.2 = Y.2.2 ∧ Sim s (Y'.1 1) ∧ (∀ o, o ≠ 0 → o ≠ 1 → o ≠ 10 → Y'.1 o = Y.1 o) ∧ (∀ f, f ≠ 23 → Y'.1 0 f = Y.1 0 f) ∧ Y'.1 0 23 = nI (WA T (nG s - nP s) s) ∧
  (∀ g, g < nG s → ∀ k, k < 6 → Y'.2.1 6 (6 * g + k) = lN (EA T (fW g k) (nG s - nP s) s)) ∧ (∀ g, g < nG s → Y'.2.1 7 g = lN (EA T (fM g) (nG s - nP s) s)) ∧ (∀ k, k < 6 → Y'.2.1 8 k = lN (EA T (fF k) (nG s - nP s) s)) ∧ (∀ k, k < nS s → Y'.2.1 9 k = lN (EA T (fP k) (nG s - nP s) s)) ∧ (∀ k, k < nS s → Y'.2.1 11 k = lN (EA T (fL k a) (nG s - nP s) s)) ∧ (∀ k, k < nS s → Y'.1 10 k = nI (MA T (fP k) (nG s - nP s) s)) ∧ Y'.2.1 13 = Y.2.1 13
theorem X7_findWays {s : Rw} {Y : Mm} (hI : Inv s) (hM : RM Y) (hs : Y.1 1 = s) (hT : TOk (told Y)) : ∃ Y', f_X7_findWays Y 0 = some (Y', lN (10 ^ (nG s - nP s))) ∧ WY s (told Y) (Y.1 0 21) Y Y' := by
  have h6 := hI.1.2
  have h8 := hI.2.1.2
  have hpg := hI.2.2.1.2
  obtain ⟨Z1, a1, a2, a3, a4, a5, a6⟩ := fw6 48 0 1000 Y (by omega) (by omega) hM
  obtain ⟨Z2, b1, b2, b3, b4, b5, b6⟩ := fw7 8 0 1000 Z1 (by omega) (by omega) (by unfold RM; rw [a3]; exact hM)
  obtain ⟨Z3, c1, c2, c3, c4, c5, c6⟩ := fw4 6 0 1000 Z2 (by omega) (by omega) (by unfold RM; rw [b3, a3]; exact hM)
  have hM3 : RM (sI Z3 0 23 0) := by unfold RM; rw [sI_r, c3, b3, a3]; exact hM
  have o3 : ∀ o, o ≠ 0 → o ≠ 10 → (sI Z3 0 23 0).1 o = Y.1 o := fun o h1 h2 => by rw [sI_obj h1, c2 o h2, b2, a2]
  have f3 : ∀ f, f ≠ 23 → (sI Z3 0 23 0).1 0 f = Y.1 0 f := fun f hf => by rw [rdK hf, c2 0 (by decide), b2, a2]
  have ht : told (sI Z3 0 23 0) = told Y := by
    unfold told
    rw [f3 5 (by decide), f3 6 (by decide), f3 7 (by decide)]
  have hpow : 1 * 10 ^ (nG s - nP s) ≤ 100000000 := by
    rw [Nat.one_mul]
    exact Nat.le_trans (Nat.pow_le_pow_right (by decide) (show nG s - nP s ≤ 8 by omega)) (by decide)
  obtain ⟨Y', d1, d2, d3⟩ := X7_goesOn (nG s - nP s) 10 (sI Z3 0 23 0) s 1 (by omega) hI (by omega) hM3 ((o3 1 (by decide) (by decide)).trans hs) (by rw [ht]; exact hT) hpow
  obtain ⟨e1, e2, e3, e4, e5, e6, e7, e8, e9, e10, e11⟩ := d3
  rw [ht] at e4 e5 e6 e7 e8 e9 e10
  dsimp only at e4 e5 e6 e7 e8 e9 e10
  have hM' : RM Y' := by unfold RM; rw [e1]; exact hM3
  refine ⟨Y', ?_, ?_, d2, fun o h1 h2 h3 => by rw [e2 o h1 h2 h3, o3 o h1 h3], fun f hf => by rw [e3 f hf, f3 f hf], ?_, fun g hg k hk => ?_, fun g hg => ?_, fun k hk => ?_, fun k hk => ?_, fun k hk => ?_, fun k hk => ?_, ?_⟩
  · unfold f_X7_findWays
    rw [show f_X7_findWays_b2 1000 Y 0 0 = _ from a1, show f_X7_findWays_b23 1000 Z1 0 0 = _ from b1, show f_X7_findWays_b44 1000 Z2 0 0 = _ from c1]
    unfold fwC
    rw [show f_X7_goesOn 10 (sI Z3 0 23 0) 0 1 = _ from d1, Option.bind_some]
    dsimp only
    rw [hM'.at 0 rfl, Option.bind_some, gd_t gA2, cl2, d2.1 2 (by decide), hI.2.2.1.1, show f_X7_findWays_b103 1000 Y' 0 1 (nI (nP s)) = _ from fw_all hI (nG s - nP s) (nP s) 1000 Y' 1 (by omega) (by omega) hM' (d2.1 1 (by decide)), Nat.one_mul]
  · rw [e1, sI_r, c3, b3, a3]
  · rw [e4, rdE, Int32.zero_add]
    rfl
  · rw [e5 g hg k hk, sI_l, c6 6 (by decide) (by decide) (by decide), b6 6 (by decide), a4 _ (by omega) (by omega), Int64.zero_add, Nat.one_mul]
  · rw [e6 g hg, sI_l, c6 7 (by decide) (by decide) (by decide), b4 _ (by omega) (by omega), Int64.zero_add, Nat.one_mul]
  · rw [e7 k hk, sI_l, (c4 k (by omega) hk).1, Int64.zero_add, Nat.one_mul]
  · rw [e8 k hk, sI_l, (c4 k (by omega) (by omega)).2.1, Int64.zero_add, Nat.one_mul]
  · rw [e9 k hk, sI_l, (c4 k (by omega) (by omega)).2.2.2, Int64.zero_add, Nat.one_mul, f3 21 (by decide)]
  · rw [e10 k hk 0 (by decide) (by rw [sI_obj (by decide), (c4 k (by omega) (by omega)).2.2.1]; rfl), Nat.max_eq_right (Nat.zero_le _)]
  · rw [e11, sI_l, c6 13 (by decide) (by decide) (by decide), b6 13 (by decide), a6 13 (by decide)]

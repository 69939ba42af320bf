/-! ===== who gains most ===== -/
def gaA (dv : Nat → Int64) : Nat → Nat
  | 0 => 0
  | 1 => 0
  | n + 2 => if lg_cmp (dv (n + 1)) (dv (gaA dv (n + 1))) ≤ 0 then gaA dv (n + 1) else n + 1
theorem gaA_lt (dv : Nat → Int64) : ∀ n, 0 < n → gaA dv n < n
  | 0, h => absurd h (Nat.lt_irrefl 0)
  | 1, _ => Nat.zero_lt_one
  | n + 2, _ => by
    have := gaA_lt dv (n + 1) (Nat.succ_pos n)
    unfold gaA
    split <;> omega
section MM
variable {X Y : Mm}
theorem X5_keptAbove (hF : XF X) {k : Nat} (hk : k < 6) : f_X5_keptAbovePointSum X 37 (nI k) = some (X, X.2.1 60 k - X.2.1 56 k) := by
  unfold f_X5_keptAbovePointSum
  rw [gd_t gX37, hF.1.2.1.2.2.2.2.2, Option.bind_some, gd_t (hL0 hk), hF.1.2.1.2.1, Option.bind_some, gd_t (hL6 hk), nI_clamp (by omega)]
theorem X5_keep (hF : XF X) : ∃ X', f_X5_keepPointSums X 37 = some (X', ()) ∧ X'.1 = X.1 ∧ X'.2.2 = X.2.2 ∧ (∀ k, k < 6 → X'.2.1 60 k = X.2.1 56 k) ∧ ∀ o, o ≠ 60 → X'.2.1 o = X.2.1 o := by
  refine ⟨cpL X 56 60 0 0 6, ?_, rfl, rfl, fun k hk => ?_, fun o ho => ?_⟩
  · unfold f_X5_keepPointSums
    rw [gd_t gX37, hF.1.2.1.2.1, Option.bind_some, hF.1.2.1.2.2.2.2.2, Option.bind_some, gd_t (by decide), cl0, show (6 : Int32).toNatClampNeg = 6 by decide]
    rfl
  · simp only [cpL]
    rw [if_pos trivial, pk_cpy_in (by omega) (by omega), show 0 + (k - 0) = k by omega]
  · funext k
    simp only [cpL]
    rw [if_neg ho]
theorem gains_x (hF : XF X) {s : Rw} (hL : LD X 1 s T0) (hI : Inv s) {dv : Nat → Int64} (hd : ∀ k, k < nS s → X.2.1 60 k - X.2.1 56 k = dv k) : ∀ (d k n : Nat), 1 ≤ k → k + d = nS s → d < n → f_X6_gains_b74 n X 0 (nI (gaA dv k)) (nI k) = some (X, nI (gaA dv (nS s))) := by
  have h6 := hI.1.2
  intro d
  induction d with
  | zero =>
    intro k n h0 h1 h2
    obtain ⟨n, rfl⟩ : ∃ z, n = z + 1 := ⟨n - 1, by omega⟩
    simp only [f_X6_gains_b74]
    rw [gd_t gX0, hF.1.1.1, Option.bind_some, gd_t gX1, hL.1.1, hI.1.1, if_pos (nI_le (by omega) (by omega)), show k = nS s by omega]
  | succ d ih =>
    intro k n h0 h1 h2
    obtain ⟨n, rfl⟩ : ∃ z, n = z + 1 := ⟨n - 1, by omega⟩
    obtain ⟨k, rfl⟩ : ∃ z, k = z + 1 := ⟨k - 1, by omega⟩
    have hlt := gaA_lt dv (k + 1) (by omega)
    have hr := ih (k + 2) n (by omega) (by omega) (by omega)
    simp only [f_X6_gains_b74]
    rw [gd_t gX0, hF.1.1.1, Option.bind_some, gd_t gX1, hL.1.1, hI.1.1, if_neg (nI_ge (by omega) (by omega)), hF.1.1.2.2.1, Option.bind_some, gd_t gX37, X5_keptAbove hF (show k + 1 < 6 by omega), Option.bind_some]
    dsimp only
    rw [hF.1.1.2.2.1, Option.bind_some, gd_t gX37, X5_keptAbove hF (show gaA dv (k + 1) < 6 by omega), Option.bind_some]
    dsimp only
    rw [hd _ (by omega), hd _ (by omega)]
    unfold f_X6_gains_b107
    rw [nI_1, ← hr]
    by_cases c : lg_cmp (dv (k + 1)) (dv (gaA dv (k + 1))) ≤ 0
    · simp only [gaA, if_pos c]
    · simp only [gaA, if_neg c]
theorem gL13 {k : Nat} (hk : k < 6) : okA nM shM 13 9 (nI k) := ⟨by decide, vin_nI (show k < 6 from hk) (by decide)⟩
theorem gains_y (hM : RM Y) {s : Rw} (h0 : Y.1 1 0 = s 0) (hI : Inv s) {dv : Nat → Int64} (hd : ∀ k, k < nS s → Y.2.1 13 k - Y.2.1 9 k = dv k) : ∀ (d k n : Nat), 1 ≤ k → k + d = nS s → d < n → f_X7_gains_b89 n Y 0 (nI (gaA dv k)) (nI k) = some (Y, nI (gaA dv (nS s))) := by
  have h6 := hI.1.2
  have m25 : Y.2.2 0 25 = some 13 := hM.at 25 rfl
  have m19 : Y.2.2 0 19 = some 9 := hM.at 19 rfl
  intro d
  induction d with
  | zero =>
    intro k n h1 h2 h3
    obtain ⟨n, rfl⟩ : ∃ z, n = z + 1 := ⟨n - 1, by omega⟩
    simp only [f_X7_gains_b89]
    rw [gd_t gM0, hM.at 0 rfl, Option.bind_some, gd_t gA0, cl0, h0, hI.1.1, if_pos (nI_le (by omega) (by omega)), show k = nS s by omega]
  | succ d ih =>
    intro k n h1 h2 h3
    obtain ⟨n, rfl⟩ : ∃ z, n = z + 1 := ⟨n - 1, by omega⟩
    obtain ⟨k, rfl⟩ : ∃ z, k = z + 1 := ⟨k - 1, by omega⟩
    have hlt := gaA_lt dv (k + 1) (by omega)
    have hr := ih (k + 2) n (by omega) (by omega) (by omega)
    have e1 : (nI (k + 1)).toNatClampNeg = k + 1 := nI_clamp (by omega)
    have e2 : (nI (gaA dv (k + 1))).toNatClampNeg = gaA dv (k + 1) := nI_clamp (by omega)
    simp only [f_X7_gains_b89]
    rw [gd_t gM0, hM.at 0 rfl, Option.bind_some, gd_t gA0, cl0, h0, hI.1.1, if_neg (nI_ge (by omega) (by omega))]
    simp only [m25, m19, Option.bind_some, gd_t (gL13 (show k + 1 < 6 by omega)), gd_t (gL9 (show k + 1 < 6 by omega)), gd_t (gL13 (show gaA dv (k + 1) < 6 by omega)), gd_t (gL9 (show gaA dv (k + 1) < 6 by omega)), e1, e2, hd _ (show k + 1 < nS s by omega), hd _ (show gaA dv (k + 1) < nS s by omega)]
    unfold f_X7_gains_b141
    rw [nI_1, ← hr]
    by_cases c : lg_cmp (dv (k + 1)) (dv (gaA dv (k + 1))) ≤ 0
    · simp only [gaA, if_pos c]
    · simp only [gaA, if_neg c]
def gnC (Y : Mm) (was : Int32) : Option (Mm × Int32) := Option.bind (f_X7_findWays (sI Y 1 3 3) 0) (fun r19 => Option.bind (r19.1.2.2 0 0) (fun q20 => gd (okA nM shM q20 8 (3 : Int32)) (lt (sI r19.1 q20 (3 : Int32).toNatClampNeg was) (fun M22 => f_X7_gains_b89 1000 M22 0 (0 : Int32) (1 : Int32)))))
theorem gains_copy (was : Int32) : ∀ (d j n : Nat) (Y : Mm), j + d = 6 → d < n → RM Y → ∃ Z, f_X7_gains_b37 n Y 0 was (nI j) = gnC Z was ∧ Z.1 = Y.1 ∧ Z.2.2 = Y.2.2 ∧ (∀ k, j ≤ k → k < 6 → Z.2.1 13 k = Y.2.1 9 k) ∧ (∀ k, k < j → Z.2.1 13 k = Y.2.1 13 k) := by
  intro d
  induction d with
  | zero =>
    intro j n Y h1 h2 hM
    obtain ⟨n, rfl⟩ : ∃ z, n = z + 1 := ⟨n - 1, by omega⟩
    refine ⟨Y, ?_, rfl, rfl, fun k a b => by omega, fun _ _ => rfl⟩
    simp only [f_X7_gains_b37]
    rw [if_pos (show (6 : Int32) ≤ nI j from nI_le (a := 6) (by omega) (by omega)), gd_t gM0, hM.at 0 rfl, Option.bind_some, gd_t gA3, show ∀ v, sI Y 1 (3 : Int32).toNatClampNeg v = sI Y 1 3 v from fun v => by rw [cl3]]
    rfl
  | succ d ih =>
    intro j n Y h1 h2 hM
    obtain ⟨n, rfl⟩ : ∃ z, n = z + 1 := ⟨n - 1, by omega⟩
    obtain ⟨Z, e1, e2, e3, e4, e5⟩ := ih (j + 1) n (sL Y 13 j (Y.2.1 9 j)) (by omega) (by omega) hM
    refine ⟨Z, ?_, e2, e3, fun k a b => ?_, fun k a => by rw [e5 k (by omega), sL_k (by omega)]⟩
    · simp only [f_X7_gains_b37]
      rw [if_neg (show ¬ (6 : Int32) ≤ nI j from nI_ge (b := 6) (by omega) (by decide)), gd_t gM0, hM.at 25 rfl, Option.bind_some, hM.at 19 rfl, Option.bind_some, gd_t (gL9 (by omega)), gd_t (gL13 (by omega)), nI_clamp (by omega), nI_1]
      exact e1
    · by_cases c : k = j
      · subst c
        rw [e5 k (by omega), sL_e]
      · rw [e4 k (by omega) b, sL_o (by decide)]
theorem B_gains (h : Rel X Y) : Both (f_X6_gains X 0) (f_X7_gains Y 0) := by
  have hI := h.inv
  have m0 := h.m0
  have hL := h.2.2.2.1
  have h6 := hI.1.2
  have hpg := hI.2.2.1.2
  have hd : nP (Y.1 1) + (nG (Y.1 1) - nP (Y.1 1)) = nG (Y.1 1) := by omega
  obtain ⟨⟨x0, x1, x3, x4, x5, x6, x7⟩, -⟩ := h.xq
  unfold f_X6_gains f_X7_gains
  rw [gd_t gX0, x0, Option.bind_some, gd_t gX1, hL.1.1, gd_t gM0, m0, Option.bind_some, gd_t gA0, cl0]
  by_cases c : 0 < nS (Y.1 1)
  · have c2 : ¬ Y.1 1 0 = 0 := by
      rw [hI.1.1]
      exact nI_ne0 c (by omega)
    rw [if_neg c2, if_neg c2]
    obtain ⟨X1, a1, a2, a3⟩ := become38 h
    have hI1 : Inv (upd (Y.1 1) 3 (nI 1)) := hI.law (l := 1) (by decide) (by decide)
    have hI3 : Inv (upd (Y.1 1) 3 (nI 3)) := hI.law (l := 3) (by decide) (by decide)
    obtain ⟨b1, b2⟩ := LG_own a2 hI 3 (Or.inl rfl) (nI 1)
    have hF2 : XF (sI X1 38 (3 + 3) (nI 1)) := h.1.at (b2.out.trans a3.out)
    obtain ⟨X3, d1, d2⟩ := X5_over hF2 b1 hI1 (Or.inl rfl) (k0 := 0) (by decide) (u := 0) (Or.inl rfl) 0
    have hF3 := hF2.at d2.1
    obtain ⟨X4, e1, e2, e3, e4, e5⟩ := X5_keep hF3
    have hF4 := hF3.at e3
    have hL4 : LG X4 38 (upd (Y.1 1) 3 (nI 1)) T0 := d2.2.1.at hI1 e3 (fun o _ _ => by rw [e2])
    obtain ⟨f1, f2⟩ := LG_own hL4 hI1 3 (Or.inl rfl) (nI 3)
    rw [upd_upd] at f1
    have hF5 : XF (sI X4 38 (3 + 3) (nI 3)) := hF4.at f2.out
    obtain ⟨X6, g1, g2⟩ := X5_over hF5 f1 hI3 (Or.inl rfl) (k0 := 0) (by decide) (u := 0) (Or.inl rfl) 0
    have hF6 := hF5.at g2.1
    -- the reference
    have s1 : (sI Y 1 3 (nI 1)).1 1 = upd (Y.1 1) 3 (nI 1) := sI_fun
    obtain ⟨Y1, p1, p2⟩ := X7_findWays (Y := sI Y 1 3 (nI 1)) hI1 h.rm s1 (Or.inl (show (sI Y 1 3 (nI 1)).1 0 5 = -1 by rw [sI_obj (by decide)]; exact h.told1))
    have p3 := p2.to0 hI1 (show (sI Y 1 3 (nI 1)).1 0 5 = -1 by rw [sI_obj (by decide)]; exact h.told1)
    have hM1 : RM Y1 := by unfold RM; rw [p3.1]; exact h.rm
    obtain ⟨Z, q1, q2, q3, q4, -⟩ := gains_copy (Y.1 1 3) 6 0 1000 Y1 (by decide) (by decide) hM1
    have hMZ : RM Z := by unfold RM; rw [q3]; exact hM1
    have t5 : Z.1 0 5 = -1 := by rw [q2, p3.2.2.2.1 5 (by decide), sI_obj (by decide)]; exact h.told1
    have smZ : Sim (upd (Y.1 1) 3 (nI 3)) ((sI Z 1 3 (nI 3)).1 1) := by
      rw [sI_fun, q2]
      have := p3.2.1.updS (p := 3) (by decide) (by decide) (nI 3)
      rw [upd_upd] at this
      exact this
    obtain ⟨Y2, r1, r2⟩ := X7_findWays (Y := sI Z 1 3 (nI 3)) (smZ.inv hI3) hMZ rfl (Or.inl (show (sI Z 1 3 (nI 3)).1 0 5 = -1 by rw [sI_obj (by decide)]; exact t5))
    have r3 := r2.to0 (smZ.inv hI3) (show (sI Z 1 3 (nI 3)).1 0 5 = -1 by rw [sI_obj (by decide)]; exact t5)
    have hM2 : RM Y2 := by unfold RM; rw [r3.1]; exact hMZ
    have eG1 : nG (upd (Y.1 1) 3 (nI 1)) = nG (Y.1 1) := nG_upd (by decide)
    have eP1 : nP (upd (Y.1 1) 3 (nI 1)) = nP (Y.1 1) := nP_upd (by decide)
    have eS1 : nS (upd (Y.1 1) 3 (nI 1)) = nS (Y.1 1) := nS_upd (by decide)
    have eG3 : nG (upd (Y.1 1) 3 (nI 3)) = nG (Y.1 1) := nG_upd (by decide)
    have eP3 : nP (upd (Y.1 1) 3 (nI 3)) = nP (Y.1 1) := nP_upd (by decide)
    have eS3 : nS (upd (Y.1 1) 3 (nI 3)) = nS (Y.1 1) := nS_upd (by decide)
    obtain ⟨dv, hdv⟩ : ∃ dv : Nat → Int64, ∀ k, k < nS (Y.1 1) → dv k = lN (EA T0 (fP k) (nG (Y.1 1) - nP (Y.1 1)) (upd (Y.1 1) 3 (nI 1))) - lN (EA T0 (fP k) (nG (Y.1 1) - nP (Y.1 1)) (upd (Y.1 1) 3 (nI 3))) := ⟨fun k => lN (EA T0 (fP k) (nG (Y.1 1) - nP (Y.1 1)) (upd (Y.1 1) 3 (nI 1))) - lN (EA T0 (fP k) (nG (Y.1 1) - nP (Y.1 1)) (upd (Y.1 1) 3 (nI 3))), fun _ _ => rfl⟩
    have o6 : ∀ o, (o < 37 ∨ 60 < o) → X6.1 o = X.1 o := fun o ho => by rw [g2.2.2.1 o (by omega), f2.2 o (by omega), e2, d2.2.2.1 o (by omega), b2.2 o (by omega), a3.2 o (by omega)]
    have r6 : X6.2.2 = X.2.2 := by rw [g2.1, f2.out, e3, d2.1, b2.out, a3.out]
    have hL6' : LD X6 1 (Y.1 1) T0 := hL.at hI h.1.2.1 r6 (fun o _ _ => o6 o (by omega))
    have gx := gains_x hF6 hL6' hI (dv := dv) (fun k hk => by
      rw [g2.2.2.2.2.2.2.2.2.2.2.2, fr_l f2, e4 k (by omega), d2.2.2.2.2.1 k (by rw [eS1]; exact hk), g2.2.2.2.2.1 k (by rw [eS3]; exact hk), eG1, eP1, eG3, eP3, hdv k hk]) (nS (Y.1 1) - 1) 1 1000 (by decide) (by omega) (by omega)
    have row3 : Sim (Y.1 1) ((sI Y2 1 3 (Y.1 1 3)).1 1) := by
      rw [sI_fun]
      have := (smZ.tr r3.2.1).updS (p := 3) (by decide) (by decide) (Y.1 1 3)
      rw [upd_upd, upd_self] at this
      exact this
    have hd3 : nP (upd (Y.1 1) 3 (nI 3)) + (nG (Y.1 1) - nP (Y.1 1)) = nG (upd (Y.1 1) 3 (nI 3)) := by rw [eP3, eG3]; exact hd
    have gy := gains_y (Y := sI Y2 1 3 (Y.1 1 3)) (s := Y.1 1) hM2 (row3.1 0 (by decide)) hI (dv := dv) (fun k hk => by
      rw [sI_l, r3.2.2.2.2.2.2.2.2.2.2.2, sI_l, q4 k (by omega) (by omega), p3.2.2.2.2.2.2.2.2.1 k (by rw [eS1]; exact hk), r3.2.2.2.2.2.2.2.2.1 k (by rw [smZ.eS, eS3]; exact hk), smZ.eG, smZ.eP, eG3, eP3, EA_sim (fP_ro k) _ _ _ hI3 smZ hd3, eG1, eP1, hdv k hk]) (nS (Y.1 1) - 1) 1 1000 (by decide) (by omega) (by omega)
    refine ⟨X6, sI Y2 1 3 (Y.1 1 3), nI (gaA dv (nS (Y.1 1))), ?_, ?_, ?_⟩
    · rw [x4, Option.bind_some, Option.bind_some, gd_t gX38, a1, Option.bind_some]
      dsimp only
      rw [a3.out, x4, Option.bind_some, gd_t gX38, lt]
      rw [show (sI X1 38 6 1).2.2 0 3 = some 37 by rw [sI_r, a3.out]; exact x3, Option.bind_some, gd_t gX37, show f_X5_over (sI X1 38 6 1) 37 0 0 0 = _ from d1, Option.bind_some]
      dsimp only
      rw [hF3.1.1.2.2.1, Option.bind_some, gd_t gX37, e1, Option.bind_some]
      dsimp only
      rw [hF4.1.1.2.2.2.1, Option.bind_some, gd_t gX38, lt]
      rw [show (sI X4 38 6 3).2.2 0 3 = some 37 from hF4.1.1.2.2.1, Option.bind_some, gd_t gX37, show f_X5_over (sI X4 38 6 3) 37 0 0 0 = _ from g1, Option.bind_some]
      exact gx
    · rw [Option.bind_some, gd_t gA3, Option.bind_some, gd_t gA3, show ∀ v, sI Y 1 (3 : Int32).toNatClampNeg v = sI Y 1 3 v from fun v => by rw [cl3], show Y.1 1 (3 : Int32).toNatClampNeg = Y.1 1 3 by rw [cl3], lt]
      rw [show f_X7_findWays (sI Y 1 3 1) 0 = _ from p1, Option.bind_some]
      dsimp only
      rw [show f_X7_gains_b37 1000 Y1 0 (Y.1 1 3) 0 = _ from q1]
      unfold gnC
      rw [show f_X7_findWays (sI Z 1 3 3) 0 = _ from r1, Option.bind_some]
      dsimp only
      rw [hM2.at 0 rfl, Option.bind_some, gd_t gA3, show ∀ v, sI Y2 1 (3 : Int32).toNatClampNeg v = sI Y2 1 3 v from fun v => by rw [cl3], lt]
      exact gy
    · have y0 : ∀ f, f ≠ 23 → (sI Y2 1 3 (Y.1 1 3)).1 0 f = Y.1 0 f := fun f hf => by rw [sI_obj (by decide), r3.2.2.2.1 f hf, sI_obj (by decide), q2, p3.2.2.2.1 f hf, sI_obj (by decide)]
      refine h.aside r6 o6 g2.2.1.2.2.2.2.2.2.2 (by rw [sI_r, r3.1, sI_r, q3, p3.1]; rfl) (row3.inv hI) (hL.sim hI row3) (fun o ho => ?_) (y0 3 (by decide)) (y0 9 (by decide)) ((y0 5 (by decide)).trans h.told1)
      rw [sI_obj (by omega), r3.2.2.1 o (by omega) (by omega) (by omega), sI_obj (by omega), q2, p3.2.2.1 o (by omega) (by omega) (by omega), sI_obj (by omega)]
  · have c2 : Y.1 1 0 = 0 := by
      rw [hI.1.1, show nS (Y.1 1) = 0 by omega]
      rfl
    rw [if_pos c2, if_pos c2, X6_finding h.xq 3 (by decide) 3 rfl, X7_finding h.rm 3 (by decide) 3 rfl]
    exact Both.fin h 3 _
end MM

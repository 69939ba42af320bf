theorem d64 (A B : Nat) : (2 : Int64) * lN A - lN (A + B) = lN A - lN B := by
  rw [show (2 : Int64) = lN 2 from rfl, lN_mul]
  by_cases c : B ≤ A
  · rw [lN_sub (by omega), lN_sub c]
    congr 1
    omega
  · rw [← Int64.neg_sub (a := lN (A + B)), ← Int64.neg_sub (a := lN B), lN_sub (by omega), lN_sub (by omega)]
    congr 2
    omega
section MM
variable {X Y : Mm}
theorem wronged_loop (h : Rel X Y) {A B : Nat → Nat} {all : Nat} (hX : ∀ g, g < nG (Y.1 1) → X.2.1 58 g = lN (A g)) (h37 : X.2.1 37 6 = lN all) (hYa : ∀ g, g < nG (Y.1 1) → Y.2.1 6 (6 * g + fI (Y.1 1) g) = lN (A g)) (hYb : ∀ g, g < nG (Y.1 1) → Y.2.1 6 (6 * g + oI (Y.1 1) g) = lN (B g)) (hAB : ∀ g, g < nG (Y.1 1) → A g + B g = all) : ∀ (d g n : Nat) (c : Int32), g + d = nG (Y.1 1) → d < n → ∃ r, f_X6_wronged_b14 n X 0 c (nI g) = some (X, r) ∧ f_X7_wronged_b15 n Y 0 c (nI g) = some (Y, r) := by
  have hI := h.inv
  have h6 := hI.1.2
  have h8 := hI.2.1.2
  have x0 := h.xq.1.1
  have x3 := h.xq.1.2.2.1
  have p3 := h.xq.2.1.2.2.2.1
  have m0 := h.m0
  have hL := h.2.2.2.1
  intro d
  induction d with
  | zero =>
    intro g n c h1 h2
    obtain ⟨n, rfl⟩ : ∃ z, n = z + 1 := ⟨n - 1, by omega⟩
    refine ⟨c, ?_, ?_⟩
    · simp only [f_X6_wronged_b14]
      rw [gd_t gX0, x0, Option.bind_some, gd_t gX1, hL.1.2.1, hI.2.1.1, if_pos (nI_le (by omega) (by omega))]
    · simp only [f_X7_wronged_b15]
      rw [gd_t gM0, m0, Option.bind_some, gd_t gA1, cl1, hI.2.1.1, if_pos (nI_le (by omega) (by omega))]
  | succ d ih =>
    intro g n c h1 h2
    obtain ⟨n, rfl⟩ : ∃ z, n = z + 1 := ⟨n - 1, by omega⟩
    have hg : g < nG (Y.1 1) := by omega
    have g8 : g < 8 := by omega
    obtain ⟨q0, q1, q2, q3, q4, -⟩ := hI.2.2.2.2.1 g hg
    obtain ⟨w0, w1, -⟩ := hL.2.2.1 g hg
    have va : X.1 (5 + fI (Y.1 1) g) 1 = sO (Y.1 1) (fI (Y.1 1) g) 1 := (hL.2.1 _ q2).2.1
    have vb : X.1 (5 + oI (Y.1 1) g) 1 = sO (Y.1 1) (oI (Y.1 1) g) 1 := (hL.2.1 _ q3).2.1
    have eg : (nI g).toNatClampNeg = g := nI_clamp (by omega)
    have xg := h.gm g8
    rw [eg] at xg
    have sa := h.sd (show fI (Y.1 1) g < 6 by omega)
    have sb := h.sd (show oI (Y.1 1) g < 6 by omega)
    have yi : X.2.1 58 g = lN (A g) := hX g hg
    have key : (2 : Int64) * lN (A g) - lN all = lN (A g) - lN (B g) := by rw [← hAB g hg]; exact d64 _ _
    have ha : (nI (6 * g + fI (Y.1 1) g)).toNatClampNeg = 6 * g + fI (Y.1 1) g := nI_clamp (by omega)
    have hb : (nI (6 * g + oI (Y.1 1) g)).toNatClampNeg = 6 * g + oI (Y.1 1) g := nI_clamp (by omega)
    simp only [f_X6_wronged_b14, f_X7_wronged_b15]
    simp only [gd_t gX0, x0, Option.bind_some, gd_t gX1, hL.1.2.1, hI.2.1.1, if_neg (nI_ge (show g < nG (Y.1 1) by omega) (show nG (Y.1 1) < 2 ^ 31 by omega)), gd_t gM0, m0, gd_t gA1, cl1]
    rw [X7_of h.rm (nI g) 0 g 0 rfl rfl g8 (by decide), Option.bind_some]
    dsimp only
    rw [X7_of h.rm (nI g) 1 g 1 rfl rfl g8 (by decide), Option.bind_some]
    dsimp only
    rw [q0, q1, X7_its h.rm (nI (fI (Y.1 1) g)) 1 (fI (Y.1 1) g) 1 rfl rfl (by omega) (by decide), Option.bind_some]
    dsimp only
    rw [X7_its h.rm (nI (oI (Y.1 1) g)) 1 (oI (Y.1 1) g) 1 rfl rfl (by omega) (by decide), Option.bind_some]
    dsimp only
    rw [h.rm.at 16 rfl, Option.bind_some, ix6, gd_t (gL6 (by omega)), Option.bind_some, ix6, gd_t (gL6 (by omega)), ha, hb, hYa g hg, hYb g hg]
    simp only [Option.bind_some, gd_t gX1, h.l1, h.l0, gd_t (gGr g8), eg, xg, gd_t (h.go g8), w0, w1, q0, q1, gd_t (gSr (show fI (Y.1 1) g < 6 by omega)), sa, gd_t (gSo (show fI (Y.1 1) g < 6 by omega)), gd_t (gSr (show oI (Y.1 1) g < 6 by omega)), sb, gd_t (gSo (show oI (Y.1 1) g < 6 by omega)), x3, gd_t gX37, p3, gd_t (hL8 g8), yi, h37, key, lt, va, vb]
    unfold f_X6_wronged_b103 f_X7_wronged_b103 f_X6_wronged_b115 f_X7_wronged_b115 f_X6_wronged_b118 f_X7_wronged_b119 f_X7_wronged_b120
    simp only [nI_1]
    obtain ⟨r0, a0, b0⟩ := ih (g + 1) n c (by omega) (by omega)
    obtain ⟨r1, a1, b1⟩ := ih (g + 1) n (c + 1) (by omega) (by omega)
    have e0 : c + (0 : Int32) = c := Int32.add_zero c
    simp only [e0, a0, b0, a1, b1]
    generalize sO (Y.1 1) (fI (Y.1 1) g) 1 - sO (Y.1 1) (oI (Y.1 1) g) 1 = df
    generalize lN (A g) - lN (B g) = dl
    by_cases c1 : df ≤ 0
    · rw [if_pos c1, if_pos c1]
      by_cases c2 : 0 ≤ df
      · rw [if_pos c2, if_pos c2]
        exact ⟨_, rfl, rfl⟩
      · rw [if_neg c2, if_neg c2]
        by_cases c3 : lg_cmp dl 0 ≤ 0
        · rw [if_pos c3, if_pos c3]
          exact ⟨_, rfl, rfl⟩
        · rw [if_neg c3, if_neg c3]
          exact ⟨_, rfl, rfl⟩
    · rw [if_neg c1, if_neg c1]
      by_cases c4 : lg_cmp dl 0 < 0
      · rw [if_pos c4, if_pos c4]
        exact ⟨_, rfl, rfl⟩
      · rw [if_neg c4, if_neg c4]
        by_cases c2 : 0 ≤ df
        · rw [if_pos c2, if_pos c2]
          exact ⟨_, rfl, rfl⟩
        · rw [if_neg c2, if_neg c2]
          by_cases c3 : lg_cmp dl 0 ≤ 0
          · rw [if_pos c3, if_pos c3]
            exact ⟨_, rfl, rfl⟩
          · rw [if_neg c3, if_neg c3]
            exact ⟨_, rfl, rfl⟩
theorem B_wronged (h : Rel X Y) : Both (f_X6_wronged X 0) (f_X7_wronged Y 0) := by
  have hI := h.inv
  have h6 := hI.1.2
  have h8 := hI.2.1.2
  have hpg := hI.2.2.1.2
  have hd : nP (Y.1 1) + (nG (Y.1 1) - nP (Y.1 1)) = nG (Y.1 1) := by omega
  obtain ⟨X1, X', Y', a1, a2, a3, a4, a5, a6⟩ := likely h
  have sm := a5.2.1
  have eG := sm.eG
  obtain ⟨r, b1, b2⟩ := wronged_loop a6 (A := fun g => EA T0 (fW g (fI (Y.1 1) g)) (nG (Y.1 1) - nP (Y.1 1)) (Y.1 1)) (B := fun g => EA T0 (fW g (oI (Y.1 1) g)) (nG (Y.1 1) - nP (Y.1 1)) (Y.1 1)) (all := 10 ^ (nG (Y.1 1) - nP (Y.1 1)))
    (fun g hg => by rw [eG] at hg; rw [a2.2.2.2.2.2.2.1 g hg, EA_first hI hd hg]) a2.2.2.2.2.2.2.2.2.1
    (fun g hg => by
      rw [eG] at hg
      have := hI.2.2.2.2.1 g hg
      rw [sm.efI (by omega)]
      exact a5.2.2.2.2.2.1 g hg _ (by omega))
    (fun g hg => by
      rw [eG] at hg
      have := hI.2.2.2.2.1 g hg
      rw [sm.eoI (by omega)]
      exact a5.2.2.2.2.2.1 g hg _ (by omega))
    (fun g hg => by rw [eG] at hg; exact EA_both hI (Or.inl rfl) hd hg) (nG (Y.1 1) - nP (Y.1 1)) (nP (Y.1 1)) 1000 0 (by rw [eG]; omega) (by omega)
  unfold f_X6_wronged f_X7_wronged
  rw [gd_t gX0, gd_t gM0, a1, a4, Option.bind_some, Option.bind_some]
  dsimp only
  rw [a3, h.xq.1.1, Option.bind_some, gd_t gX1, a6.m0, Option.bind_some, gd_t gA2, cl2, a6.2.2.2.1.1.2.2.1, sm.1 2 (by decide), hI.2.2.1.1, b1, b2]
  exact Both.no a6 _
end MM
/-- a number of a side has changed -/
theorem LG_sd {M : Mm} {b : Nat} {s : Rw} {T : Trp} (h : LG M b s T) (hI : Inv s) {i : Nat} (hi : i < nS s) {k : Nat} (hk : k < 3) (v : Int32) : LG (sI M (b + 4 + i) k v) b (upd s (5 + 3 * i + k) v) T ∧ FR b M (sI M (b + 4 + i) k v) := by
  obtain ⟨hb, hX, hL⟩ := h
  have h6 := hI.1.2
  have h8 := hI.2.1.2
  have hpg := hI.2.2.1.2
  have hF : FR b M (sI M (b + 4 + i) k v) := fr_sI fr_rf (by omega) (by omega)
  have hgo : ∀ g, g < 8 → (sI M (b + 4 + i) k v).1 (gq M b g) = M.1 (gq M b g) := fun g hg => by
    obtain ⟨-, t1, t2⟩ := hX.2.2.1 g hg
    exact sI_obj (by omega)
  refine ⟨⟨hb, fr_XL hF hX, LD.modify hL (nP_upd (by omega)) (fun g => fr_gq hF) (fun g hg z hz => gO_upd (by omega)) ?_ ?_ ?_ (fun g hg k hk => by rw [hgo g (by omega)]) (fun j hj => ?_) (GBof hL (fun g => fr_gq hF) hgo)⟩, hF⟩
  · rw [sI_obj (by omega), pk_un (by omega), pk_un (by omega), pk_un (by omega), pk_un (by omega), pk_un (by omega)]
    exact hL.1
  · intro j hj
    rw [nS_upd (by omega)] at hj
    obtain ⟨v0, v1, v2, v3, v4, v5⟩ := hL.2.1 j hj
    by_cases c : j = i
    · subst c
      have key : ∀ z, z < 3 → (sI M (b + 4 + j) k v).1 (b + 4 + j) z = sO (upd s (5 + 3 * j + k) v) j z := by
        intro z hz
        unfold sO
        by_cases cz : z = k
        · subst cz
          rw [rdE, pk_us]
        · rw [rdK cz, pk_un (by omega)]
          match z, hz with
          | 0, _ => exact v0
          | 1, _ => exact v1
          | 2, _ => exact v2
          | z + 3, hz => exact absurd hz (by omega)
      rw [rdK (c := 3) (k := k) (by omega), rdK (c := 4) (k := k) (by omega), rdK (c := 5) (k := k) (by omega)]
      exact ⟨key 0 (by decide), key 1 (by decide), key 2 (by decide), v3, v4, v5⟩
    · rw [sI_obj (by omega), sO_upd (by omega), sO_upd (by omega), sO_upd (by omega)]
      exact ⟨v0, v1, v2, v3, v4, v5⟩
  · intro g hg
    rw [nG_upd (by omega)] at hg
    rw [hgo g (by omega), gO_upd (by omega), gO_upd (by omega), gO_upd (by omega)]
    exact hL.2.2.1 g hg
  · rw [sI_obj (by omega), pk_un (by omega)]
    exact hL.2.2.2.2.1 j hj
theorem Inv.sd {s : Rw} (hI : Inv s) {i : Nat} (hi : i < nS s) {k n : Nat} (hk : (k = 0 ∧ n ≤ 6) ∨ (k = 1 ∧ 1 ≤ n ∧ n ≤ 9) ∨ (k = 2 ∧ n ≤ 9)) : Inv (upd s (5 + 3 * i + k) (nI n)) := by
  have h6 := hI.1.2
  refine hI.cong (pk_un (by omega)) (pk_un (by omega)) (pk_un (by omega)) ⟨lW s, hI.2.2.2.1.2.1, hI.2.2.2.1.2.2, by rw [pk_un (by omega)]; exact hI.2.2.2.1.1⟩ (fun g hg z hz => gO_upd (by omega)) (fun j hj => ?_) (fun j hj => by
    rw [pk_un (by omega)]
    exact hI.2.2.2.2.2.2.2 j hj)
  obtain ⟨kd, st, te, b1, b2, b3, b4, b5, b6, b7⟩ := hI.2.2.2.2.2.2.1 j hj
  by_cases c : j = i
  · subst c
    unfold sO at *
    rcases hk with ⟨rfl, h1⟩ | ⟨rfl, h1, h2⟩ | ⟨rfl, h1⟩
    · exact ⟨n, st, te, h1, b2, b3, b4, pk_us, by rw [pk_un (by omega)]; exact b6, by rw [pk_un (by omega)]; exact b7⟩
    · exact ⟨kd, n, te, b1, h1, h2, b4, by rw [pk_un (by omega)]; exact b5, pk_us, by rw [pk_un (by omega)]; exact b7⟩
    · exact ⟨kd, st, n, b1, b2, b3, h1, by rw [pk_un (by omega)]; exact b5, by rw [pk_un (by omega)]; exact b6, pk_us⟩
  · exact ⟨kd, st, te, b1, b2, b3, b4, by rw [sO_upd (by omega)]; exact b5, by rw [sO_upd (by omega)]; exact b6, by rw [sO_upd (by omega)]; exact b7⟩
theorem ix3 (i k : Nat) : ((5 : Int32) + ((3 : Int32) * nI i)) + nI k = nI (5 + 3 * i + k) := by
  rw [show (5 : Int32) = nI 5 from rfl, show (3 : Int32) = nI 3 from rfl, pk_mul, nI_add, nI_add]
section MM
variable {X Y : Mm}
theorem X6_canBecome (a v : Int32) : f_X6_canBecome X a v = some (X, if (a = 0 ∧ 0 ≤ v ∧ v ≤ 6) ∨ (a = 1 ∧ 1 ≤ v ∧ v ≤ 9) ∨ (a = 2 ∧ 0 ≤ v ∧ v ≤ 9) then 1 else 0) := by
  unfold f_X6_canBecome
  by_cases c0 : a = 0
  · rw [if_pos c0, X6_isKind, Option.bind_some, gd_t bzB]
    dsimp only
    congr 2
    refine if_iff ⟨fun z => Or.inl ⟨c0, z⟩, fun z => ?_⟩
    rcases z with z | z | z
    · exact z.2
    · exact absurd (c0.symm.trans z.1) (by decide)
    · exact absurd (c0.symm.trans z.1) (by decide)
  rw [if_neg c0]
  by_cases c1 : a = 1
  · rw [if_pos c1, X6_isStrength, Option.bind_some, gd_t bzB]
    dsimp only
    congr 2
    refine if_iff ⟨fun z => Or.inr (Or.inl ⟨c1, z⟩), fun z => ?_⟩
    rcases z with z | z | z
    · exact absurd z.1 c0
    · exact z.2
    · exact absurd (c1.symm.trans z.1) (by decide)
  rw [if_neg c1]
  by_cases c2 : a = 2
  · rw [if_pos c2, rgA]
    by_cases c3 : 0 ≤ v ∧ v ≤ 9
    · rw [if_pos c3, if_pos (Or.inr (Or.inr ⟨c2, c3⟩))]
    · rw [if_neg c3, if_neg (fun z => by
        rcases z with z | z | z
        · exact c0 z.1
        · exact c1 z.1
        · exact c3 z.2)]
  · rw [if_neg c2, if_neg (fun z => by
      rcases z with z | z | z
      · exact c0 z.1
      · exact c1 z.1
      · exact c2 z.1)]
theorem B_change (h : Rel X Y) (a w v : Int32) : Both (f_X6_change X 0 a w v) (f_X7_change Y 0 a w v) := by
  have hI := h.inv
  have m0 := h.m0
  have x0 := h.xq.1.1
  have hL := h.2.2.2.1
  have h6 := hI.1.2
  unfold f_X6_change f_X7_change f_X6_change_b19 f_X7_change_b28 f_X7_change_b39 f_X7_change_b45
  simp only [gd_t gX0, gd_t gM0, x0, Option.bind_some, gd_t gX1, X1_hasSide h.lg1 hI, X7_isSide h.rm hI, iteB, X7_in, X6_canBecome, X6_finding h.xq 0 (by decide) 0 rfl, X7_finding h.rm 0 (by decide) 0 rfl]
  by_cases c1 : 0 ≤ a ∧ a < nI (nS (Y.1 1))
  · simp only [if_pos c1]
    obtain ⟨i, hi, rfl⟩ := nI_at c1.1 (by omega) c1.2
    have hi6 : i < 6 := by omega
    have fin : ∀ (k n : Nat), k < 3 → v = nI n → ((k = 0 ∧ n ≤ 6) ∨ (k = 1 ∧ 1 ≤ n ∧ n ≤ 9) ∨ (k = 2 ∧ n ≤ 9)) → Both (some (sI X (5 + i) k v, X.1 (5 + i) k)) (Option.bind (f_X7_its Y 0 (nI i) (nI k)) (fun r5 => Option.bind (r5.1.2.2 0 0) (fun q7 => gd (okA nM shM q7 8 (((5 : Int32) + ((3 : Int32) * nI i)) + nI k)) (some (sI r5.1 q7 (((5 : Int32) + ((3 : Int32) * nI i)) + nI k).toNatClampNeg v, r5.2))))) := by
      intro k n hk hv hkn
      obtain ⟨e1, e2⟩ := LG_sd h.lg1 hI hi hk v
      rw [X7_its h.rm (nI i) (nI k) i k rfl rfl hi6 hk, Option.bind_some]
      dsimp only
      rw [m0, Option.bind_some, ix3, gd_t (gA (by omega)), nI_clamp (by omega)]
      refine ⟨_, _, _, rfl, ?_, h.lg e2 e1 (by rw [hv]; exact hI.sd hi hkn)⟩
      rw [sI_sA]
      have hs := hL.2.1 i hi
      have : sO (Y.1 1) i k = X.1 (5 + i) k := by
        match k, hk with
        | 0, _ => exact hs.1.symm
        | 1, _ => exact hs.2.1.symm
        | 2, _ => exact hs.2.2.1.symm
        | k + 3, hk => exact absurd hk (by omega)
      rw [this]
    by_cases c2 : 0 ≤ w ∧ w ≤ 2
    · simp only [if_pos c2]
      obtain ⟨k, hk, rfl⟩ := nI_at' c2.1 (show (2 : Nat) < 2 ^ 31 by decide) c2.2
      match k, hk with
      | 0, _ =>
        rw [show (nI 0 : Int32) = 0 from rfl]
        rw [if_iff (show ((0 : Int32) = 0 ∧ 0 ≤ v ∧ v ≤ 6) ∨ ((0 : Int32) = 1 ∧ 1 ≤ v ∧ v ≤ 9) ∨ ((0 : Int32) = 2 ∧ 0 ≤ v ∧ v ≤ 9) ↔ (0 ≤ v ∧ v ≤ 6) from ⟨fun z => z.elim (fun z => z.2) (fun z => z.elim (fun z => absurd z.1 (by decide)) (fun z => absurd z.1 (by decide))), fun z => Or.inl ⟨rfl, z⟩⟩)]
        rw [if_neg (show ¬ (0 : Int32) = 1 by decide), if_pos (rfl : (0 : Int32) = 0)]
        by_cases c3 : 0 ≤ v ∧ v ≤ 6
        · obtain ⟨n, hn, en⟩ := nI_at' c3.1 (show (6 : Nat) < 2 ^ 31 by decide) c3.2
          rw [if_pos c3, if_pos c3]
          simp only [x0, Option.bind_some, gd_t gX1, h.l0, gd_t (gSr hi6), h.sd hi6, gd_t (gSo hi6), lt, if_pos (rfl : (0 : Int32) = 0)]
          exact fin 0 n (by decide) en (Or.inl ⟨rfl, hn⟩)
        · rw [if_neg c3, if_neg c3]
          exact Both.fin h 0 _
      | 1, _ =>
        rw [show (nI 1 : Int32) = 1 from rfl]
        rw [if_iff (show ((1 : Int32) = 0 ∧ 0 ≤ v ∧ v ≤ 6) ∨ ((1 : Int32) = 1 ∧ 1 ≤ v ∧ v ≤ 9) ∨ ((1 : Int32) = 2 ∧ 0 ≤ v ∧ v ≤ 9) ↔ (1 ≤ v ∧ v ≤ 9) from ⟨fun z => z.elim (fun z => absurd z.1 (by decide)) (fun z => z.elim (fun z => z.2) (fun z => absurd z.1 (by decide))), fun z => Or.inr (Or.inl ⟨rfl, z⟩)⟩)]
        rw [if_pos (rfl : (1 : Int32) = 1), if_neg (show ¬ (1 : Int32) = 0 by decide)]
        by_cases c3 : 1 ≤ v ∧ v ≤ 9
        · obtain ⟨n, hn, en⟩ := nI_at' (Int32.le_trans (by decide) c3.1) (show (9 : Nat) < 2 ^ 31 by decide) c3.2
          have hn1 : 1 ≤ n := (nI_leI (a := 1) (by decide) (by omega)).mp (by rw [← en]; exact c3.1)
          rw [if_pos c3, if_pos c3]
          simp only [x0, Option.bind_some, gd_t gX1, h.l0, gd_t (gSr hi6), h.sd hi6, gd_t (gSo hi6), lt, if_neg (show ¬ (1 : Int32) = 0 by decide), if_pos (rfl : (1 : Int32) = 1)]
          exact fin 1 n (by decide) en (Or.inr (Or.inl ⟨rfl, hn1, hn⟩))
        · rw [if_neg c3, if_neg c3]
          exact Both.fin h 0 _
      | 2, _ =>
        rw [show (nI 2 : Int32) = 2 from rfl]
        rw [if_iff (show ((2 : Int32) = 0 ∧ 0 ≤ v ∧ v ≤ 6) ∨ ((2 : Int32) = 1 ∧ 1 ≤ v ∧ v ≤ 9) ∨ ((2 : Int32) = 2 ∧ 0 ≤ v ∧ v ≤ 9) ↔ (0 ≤ v ∧ v ≤ 9) from ⟨fun z => z.elim (fun z => absurd z.1 (by decide)) (fun z => z.elim (fun z => absurd z.1 (by decide)) (fun z => z.2)), fun z => Or.inr (Or.inr ⟨rfl, z⟩)⟩)]
        rw [if_neg (show ¬ (2 : Int32) = 1 by decide), if_neg (show ¬ (2 : Int32) = 0 by decide)]
        by_cases c3 : 0 ≤ v ∧ v ≤ 9
        · obtain ⟨n, hn, en⟩ := nI_at' c3.1 (show (9 : Nat) < 2 ^ 31 by decide) c3.2
          rw [if_pos c3, if_pos c3]
          simp only [x0, Option.bind_some, gd_t gX1, h.l0, gd_t (gSr hi6), h.sd hi6, gd_t (gSo hi6), lt, if_neg (show ¬ (2 : Int32) = 0 by decide), if_neg (show ¬ (2 : Int32) = 1 by decide)]
          exact fin 2 n (by decide) en (Or.inr (Or.inr ⟨rfl, hn⟩))
        · rw [if_neg c3, if_neg c3]
          exact Both.fin h 0 _
      | k + 3, hk => exact absurd hk (by omega)
    · simp only [if_neg c2]
      rw [if_neg (fun z => by
        rcases z with z | z | z
        · exact c2 (by rw [z.1]; decide)
        · exact c2 (by rw [z.1]; decide)
        · exact c2 (by rw [z.1]; decide))]
      exact Both.fin h 0 _
  · simp only [if_neg c1]
    exact Both.fin h 0 _
end MM

/-! ===== rows that are alike in all that counts ===== -/
def Sim (s s' : Nat → Int32) : Prop := (∀ k, k < 23 → s' k = s k) ∧ (∀ j, j < 10 → s' (79 + j) = s (79 + j)) ∧ ∀ g, g < 8 → ∀ j, j < 7 → (g < nP s ∨ j < 3) → gO s' g j = gO s g j
section SS
variable {s s' : Nat → Int32}
theorem Sim.rf : Sim s s := ⟨fun _ _ => rfl, fun _ _ => rfl, fun _ _ _ _ _ => rfl⟩
theorem Sim.of89 (e : ∀ k, k < 89 → s' k = s k) : Sim s s' := ⟨fun k hk => e k (by omega), fun j hj => e _ (by omega), fun g hg j hj _ => e _ (by omega)⟩
theorem Sim.eS (h : Sim s s') : nS s' = nS s := by unfold nS; rw [h.1 0 (by decide)]
theorem Sim.eG (h : Sim s s') : nG s' = nG s := by unfold nG; rw [h.1 1 (by decide)]
theorem Sim.eP (h : Sim s s') : nP s' = nP s := by unfold nP; rw [h.1 2 (by decide)]
theorem Sim.eL (h : Sim s s') : lW s' = lW s := by unfold lW; rw [h.1 3 (by decide)]
theorem Sim.esO (h : Sim s s') {i j : Nat} (hi : i < 6) (hj : j < 3) : sO s' i j = sO s i j := h.1 _ (by omega)
theorem Sim.lo (h : Sim s s') {g j : Nat} (hg : g < 8) (hj : j < 3) : gO s' g j = gO s g j := h.2.2 g hg j (by omega) (Or.inr hj)
theorem Sim.pl (h : Sim s s') {g j : Nat} (hg : g < nP s) (h8 : nP s ≤ 8) (hj : j < 7) : gO s' g j = gO s g j := h.2.2 g (by omega) j hj (Or.inl hg)
theorem Sim.efI (h : Sim s s') {g : Nat} (hg : g < 8) : fI s' g = fI s g := by unfold fI; rw [h.lo hg (by decide)]
theorem Sim.eoI (h : Sim s s') {g : Nat} (hg : g < 8) : oI s' g = oI s g := by unfold oI; rw [h.lo hg (by decide)]
theorem Sim.sym (h : Sim s s') : Sim s' s := ⟨fun k hk => (h.1 k hk).symm, fun j hj => (h.2.1 j hj).symm, fun g hg j hj hc => (h.2.2 g hg j hj (by rw [h.eP] at hc; exact hc)).symm⟩
theorem Sim.tr {s2 : Nat → Int32} (h : Sim s s') (h2 : Sim s' s2) : Sim s s2 := ⟨fun k hk => (h2.1 k hk).trans (h.1 k hk), fun j hj => (h2.2.1 j hj).trans (h.2.1 j hj), fun g hg j hj hc => (h2.2.2 g hg j hj (by rw [h.eP]; exact hc)).trans (h.2.2 g hg j hj hc)⟩
theorem Sim.pts (h : Sim s s') (h8 : nP s ≤ 8) {g : Nat} (hg : g ≤ nP s) (k : Int32) : ptsA s' g k = ptsA s g k := ptsA_cong g (fun x hx j hj => h.pl (by omega) h8 hj)
theorem Sim.stk (h : Sim s s') (h8 : nP s ≤ 8) {g : Nat} (hg : g ≤ nP s) (k : Int32) : stkA s' g k = stkA s g k := stkA_cong g (fun x hx j hj => h.pl (by omega) h8 hj)
theorem Sim.tir (h : Sim s s') (h8 : nP s ≤ 8) {g : Nat} (hg : g ≤ nP s) (k : Int32) : tirA s' g k = tirA s g k := tirA_cong g (fun x hx j hj => h.pl (by omega) h8 hj)
theorem Sim.inv (h : Sim s s') (hI : Inv s) : Inv s' := by
  have h8 := hI.2.1.2
  have hpg := hI.2.2.1.2
  unfold Inv
  simp only [h.eS, h.eG, h.eP, h.eL, h.1 0 (by decide), h.1 1 (by decide), h.1 2 (by decide), h.1 3 (by decide)]
  refine ⟨hI.1, hI.2.1, hI.2.2.1, hI.2.2.2.1, ?_, ?_, ?_, ?_⟩
  · intro g hg
    rw [h.lo (show g < 8 by omega) (show 0 < 3 by decide), h.lo (show g < 8 by omega) (show 1 < 3 by decide), h.lo (show g < 8 by omega) (show 2 < 3 by decide), h.efI (by omega), h.eoI (by omega)]
    exact hI.2.2.2.2.1 g hg
  · intro g hg
    rw [h.pl hg (by omega) (show 0 < 7 by decide), h.pl hg (by omega) (show 1 < 7 by decide), h.pl hg (by omega) (show 3 < 7 by decide), h.pl hg (by omega) (show 4 < 7 by decide)]
    exact hI.2.2.2.2.2.1 g hg
  · intro i hi
    have h6 := hI.1.2
    rw [h.esO (show i < 6 by omega) (show 0 < 3 by decide), h.esO (show i < 6 by omega) (show 1 < 3 by decide), h.esO (show i < 6 by omega) (show 2 < 3 by decide)]
    exact hI.2.2.2.2.2.2.1 i hi
  · intro j hj
    rw [h.2.1 j hj]
    exact hI.2.2.2.2.2.2.2 j hj
theorem LD.sim {M : Mm} {b : Nat} {T : Int32 × Int32 × Int32} (hL : LD M b s T) (hI : Inv s) (h : Sim s s') : LD M b s' T := by
  have h6 := hI.1.2
  have h8 := hI.2.1.2
  have hpg := hI.2.2.1.2
  unfold LD
  simp only [h.eS, h.eG, h.eP, h.1 0 (by decide), h.1 1 (by decide), h.1 2 (by decide), h.1 3 (by decide), h.1 4 (by decide)]
  refine ⟨hL.1, ?_, ?_, ?_, ?_, hL.2.2.2.2.2⟩
  · intro i hi
    rw [h.esO (show i < 6 by omega) (show 0 < 3 by decide), h.esO (show i < 6 by omega) (show 1 < 3 by decide), h.esO (show i < 6 by omega) (show 2 < 3 by decide), h.pts (by omega) (Nat.le_refl _), h.stk (by omega) (Nat.le_refl _), h.tir (by omega) (Nat.le_refl _)]
    exact hL.2.1 i hi
  · intro g hg
    rw [h.lo (show g < 8 by omega) (show 0 < 3 by decide), h.lo (show g < 8 by omega) (show 1 < 3 by decide), h.lo (show g < 8 by omega) (show 2 < 3 by decide)]
    exact hL.2.2.1 g hg
  · intro g hg
    rw [h.pl hg (by omega) (show 0 < 7 by decide), h.pl hg (by omega) (show 1 < 7 by decide), h.pl hg (by omega) (show 3 < 7 by decide), h.pl hg (by omega) (show 4 < 7 by decide), h.stk (by omega) (show g ≤ nP s by omega), h.stk (by omega) (show g ≤ nP s by omega), h.tir (by omega) (show g ≤ nP s by omega), h.tir (by omega) (show g ≤ nP s by omega)]
    exact hL.2.2.2.1 g hg
  · intro j hj
    rw [h.2.1 j hj]
    exact hL.2.2.2.2.1 j hj
theorem LG.sim {M : Mm} {b : Nat} {T : Int32 × Int32 × Int32} (hL : LG M b s T) (hI : Inv s) (h : Sim s s') : LG M b s' T := ⟨hL.1, hL.2.1, hL.2.2.sim hI h⟩
theorem Sim.bar (h : Sim s s') (h8 : nP s ≤ 8) {g : Nat} (hg : g ≤ nP s) (k : Int32) : barA s' g k ↔ barA s g k := by
  unfold barA
  rw [h.eL, h.stk h8 hg]
theorem Sim.nw (h : Sim s s') (k : Int32) : ∀ (d g : Nat), g + d ≤ 8 → nwA s' k d g = nwA s k d g := by
  intro d
  induction d with
  | zero => intro g _; rfl
  | succ d ih =>
    intro g hg
    simp only [nwA, plA]
    rw [h.lo (show g < 8 by omega) (show 0 < 3 by decide), h.lo (show g < 8 by omega) (show 1 < 3 by decide), h.lo (show g < 8 by omega) (show 2 < 3 by decide), ih (g + 1) (by omega)]
theorem Sim.ot (h : Sim s s') {g : Nat} (hg : g < 8) (k : Int32) : otA s' g k = otA s g k := by
  unfold otA
  rw [h.lo hg (show 0 < 3 by decide), h.lo hg (show 1 < 3 by decide)]
theorem Sim.eff (h : Sim s s') (hn : nG s ≤ 8) (hg : nP s < nG s) {i : Nat} (hi : i < 6) (T : Int32 × Int32 × Int32) : effA s' T (nP s) i = effA s T (nP s) i := by
  unfold effA
  simp only [h.esO hi (show 0 < 3 by decide), h.esO hi (show 2 < 3 by decide), if_iff (h.bar (by omega) (Nat.le_refl _) (nI i)), if_iff (h.bar (by omega) (Nat.le_refl _) (otA s (nP s) (nI i))), h.ot (show nP s < 8 by omega), h.lo (show nP s < 8 by omega) (show 2 < 3 by decide), h.eG, h.nw (nI i) (nG s - (nP s + 1)) (nP s + 1) (by omega)]
theorem Sim.frc (h : Sim s s') (h8 : nP s ≤ 8) {i : Nat} (hi : i < 6) (e : Int32) : forA s' (nP s) i e = forA s (nP s) i e := by
  unfold forA
  rw [h.esO hi (show 1 < 3 by decide), h.tir h8 (Nat.le_refl _)]
theorem Sim.ch (h : Sim s s') (hI : Inv s) (hg : nP s < nG s) (e1 e2 : Int32) : chA s' (nP s) e1 e2 = chA s (nP s) e1 e2 := by
  have h6 := hI.1.2
  have h8 := hI.2.1.2
  obtain ⟨-, -, q2, q3, -, -⟩ := hI.2.2.2.2.1 _ hg
  unfold chA
  rw [h.efI (by omega), h.eoI (by omega), h.frc (by omega) (by omega), h.frc (by omega) (by omega)]
theorem Sim.giv (h : Sim s s') (hI : Inv s) (hg : nP s < nG s) (w : Int32) : givA s' (nP s) w = givA s (nP s) w := by
  have h8 := hI.2.1.2
  unfold givA
  rw [h.ot (show nP s < 8 by omega), h.pts (by omega) (Nat.le_refl _), h.pts (by omega) (Nat.le_refl _), if_iff (h.bar (by omega) (Nat.le_refl _) w), if_iff (h.bar (by omega) (Nat.le_refl _) _)]
theorem Sim.win (h : Sim s s') (hI : Inv s) (hg : nP s < nG s) (w e1 e2 : Int32) : Sim (winA s w e1 e2) (winA s' w e1 e2) := by
  have h8 := hI.2.1.2
  have hp := h.eP
  refine ⟨fun k hk => ?_, fun j hj => ?_, fun g hg8 j hj hc => ?_⟩
  · by_cases c : k = 2
    · rw [c, winA_2, winA_2, h.1 2 (by decide)]
    · rw [winA_ne c (by omega), winA_ne c (by omega), h.1 k hk]
  · rw [winA_ne (by omega) (by omega), winA_ne (by omega) (by omega), h.2.1 j hj]
  · rw [winA_nP hI] at hc
    by_cases c : j < 3
    · rw [winA_lo c, winA_lo c, h.lo hg8 c]
    · by_cases c2 : g = nP s
      · subst c2
        have q3 := winA_g3 (s := s') (w := w) (e1 := e1) (e2 := e2)
        have q4 := winA_g4 (s := s') (w := w) (e1 := e1) (e2 := e2)
        have q5 := winA_g5 (s := s') (w := w) (e1 := e1) (e2 := e2)
        have q6 := winA_g6 (s := s') (w := w) (e1 := e1) (e2 := e2)
        rw [hp] at q3 q4 q5 q6
        match j, hj, c with
        | 3, _, _ => rw [q3, winA_g3]
        | 4, _, _ => rw [q4, winA_g4, h.giv hI hg]
        | 5, _, _ => rw [q5, winA_g5]
        | 6, _, _ => rw [q6, winA_g6]
        | 0, _, c => exact absurd (by decide) c
        | 1, _, c => exact absurd (by decide) c
        | 2, _, c => exact absurd (by decide) c
        | j + 7, hj, _ => exact absurd hj (by omega)
      · rw [winA_old c2 hj, winA_old (by rw [hp]; exact c2) hj, h.pl (by omega) (by omega) hj]
theorem sim_bk (hI : Inv s) (hg : nP s < nG s) {w e1 e2 : Int32} : Sim s (bkA (winA s w e1 e2)) := by
  have h8 := hI.2.1.2
  refine ⟨fun k hk => ?_, fun j hj => ?_, fun g hg8 j hj hc => ?_⟩
  · by_cases c : k = 2
    · rw [c, bkA_2, winA_nP hI, hI.2.2.1.1, show nP s + 1 - 1 = nP s by omega]
    · rw [bkA_ne c, winA_ne c (by omega)]
  · rw [bkA_ne (by omega), winA_ne (by omega) (by omega)]
  · rw [bkA_gO]
    by_cases c : j < 3
    · rw [winA_lo c]
    · rw [winA_old (by omega) hj]
end SS
theorem effA_T {s : Nat → Int32} {T T' : Int32 × Int32 × Int32} (h : T.1 = -1) (h' : T'.1 = -1) {g i : Nat} (hg : g < 100) : effA s T g i = effA s T' g i := by
  unfold effA
  have n1 : ¬ (T.1 = nI g ∧ T.2.1 = nI i) := fun z => neZ hg (z.1.symm.trans h)
  have n2 : ¬ (T'.1 = nI g ∧ T'.2.1 = nI i) := fun z => neZ hg (z.1.symm.trans h')
  rw [if_neg n1, if_neg n2]
theorem sA_sA {M : Mm} {o : Nat} {f g : Nat → Int32} : sA (sA M o f) o g = sA M o g := by
  unfold sA
  congr 1
  funext a
  by_cases h : a = o
  · simp [h]
  · simp [h]
def cpA (f g : Nat → Int32) : Nat → Int32 := fun k => if k < 89 then f k else g k
theorem cpA_in {f g : Nat → Int32} {k : Nat} (h : k < 89) : cpA f g k = f k := if_pos h
theorem carry_loop {a b : Nat} (ha : a = 1 ∨ a = 2 ∨ a = 3) (hb : b = 1 ∨ b = 2 ∨ b = 3) (hab : a ≠ b) : ∀ (d j n : Nat) (Y : Mm), j + d = 89 → d < n → f_X7_carry_b2 n Y a b (nI j) = some (sA Y b (fun k => if j ≤ k ∧ k < 89 then Y.1 a k else Y.1 b k), ()) := by
  intro d
  induction d with
  | zero =>
    intro j n Y h1 h2
    obtain ⟨n, rfl⟩ : ∃ z, n = z + 1 := ⟨n - 1, by omega⟩
    obtain rfl : j = 89 := by omega
    simp only [f_X7_carry_b2]
    rw [if_pos (by decide)]
    congr 2
    unfold sA
    refine Prod.ext ?_ rfl
    funext x k
    dsimp only
    by_cases c : x = b
    · rw [if_pos c, if_neg (by omega), c]
    · rw [if_neg c]
  | succ d ih =>
    intro j n Y h1 h2
    obtain ⟨n, rfl⟩ : ∃ z, n = z + 1 := ⟨n - 1, by omega⟩
    have ga : okA nM shM a 8 (nI j) := by
      rcases ha with rfl | rfl | rfl <;> exact ⟨by decide, vin_nI (show j < 89 by omega) (by decide)⟩
    have gb : okA nM shM b 8 (nI j) := by
      rcases hb with rfl | rfl | rfl <;> exact ⟨by decide, vin_nI (show j < 89 by omega) (by decide)⟩
    simp only [f_X7_carry_b2]
    rw [if_neg (show ¬ (89 : Int32) ≤ nI j from nI_ge (a := j) (b := 89) (by omega) (by decide)), gd_t ga, gd_t gb]
    simp only [lt]
    rw [nI_clamp (by omega), nI_1, ih (j + 1) n _ (by omega) (by omega), sI_sA, sA_sA, sA_ne hab, sA_at]
    congr 2
    unfold sA
    refine Prod.ext ?_ rfl
    funext x k
    dsimp only
    by_cases c : x = b
    · rw [if_pos c, if_pos c]
      by_cases c2 : k = j
      · subst c2
        rw [if_neg (by omega), if_pos (by omega), pk_us]
      · rw [pk_un c2]
        by_cases c3 : j + 1 ≤ k ∧ k < 89
        · rw [if_pos c3, if_pos (by omega)]
        · rw [if_neg c3, if_neg (by omega)]
    · rw [if_neg c, if_neg c]
theorem X7_carry {Y : Mm} {a b : Nat} (ha : a = 1 ∨ a = 2 ∨ a = 3) (hb : b = 1 ∨ b = 2 ∨ b = 3) (hab : a ≠ b) : f_X7_carry Y a b = some (sA Y b (cpA (Y.1 a) (Y.1 b)), ()) := by
  refine (carry_loop ha hb hab 89 0 1000 Y (by omega) (by omega)).trans ?_
  congr 3
  funext k
  unfold cpA
  exact if_iff (by omega)

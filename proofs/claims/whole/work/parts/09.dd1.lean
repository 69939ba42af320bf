/-! ===== two games change their places ===== -/
def swP (s : Nat → Int32) (a b j : Nat) : Nat → Int32 := fun q => if 23 + 7 * a ≤ q ∧ q < 23 + 7 * a + j then s (23 + 7 * b + (q - (23 + 7 * a))) else if 23 + 7 * b ≤ q ∧ q < 23 + 7 * b + j then s (23 + 7 * a + (q - (23 + 7 * b))) else s q
theorem swP_0 (s : Nat → Int32) (a b : Nat) : swP s a b 0 = s := by
  funext q
  unfold swP
  rw [if_neg (by omega), if_neg (by omega)]
theorem swP_step (s : Nat → Int32) {a b j : Nat} (hj : j < 7) : upd (upd (swP s a b j) (23 + 7 * a + j) (swP s a b j (23 + 7 * b + j))) (23 + 7 * b + j) (swP s a b j (23 + 7 * a + j)) = swP s a b (j + 1) := by
  have ea : swP s a b j (23 + 7 * a + j) = s (23 + 7 * a + j) := by
    unfold swP
    rw [if_neg (by omega), if_neg (by omega)]
  have eb : swP s a b j (23 + 7 * b + j) = s (23 + 7 * b + j) := by
    unfold swP
    rw [if_neg (by omega), if_neg (by omega)]
  rw [ea, eb]
  funext q
  by_cases c : q = 23 + 7 * b + j
  · subst c
    rw [pk_us]
    unfold swP
    by_cases c2 : a = b
    · subst c2
      rw [if_pos (by omega)]
      congr 1
      omega
    · rw [if_neg (by omega), if_pos (by omega)]
      congr 1
      omega
  · rw [pk_un c]
    by_cases c2 : q = 23 + 7 * a + j
    · subst c2
      rw [pk_us]
      unfold swP
      rw [if_pos (by omega)]
      congr 1
      omega
    · rw [pk_un c2]
      unfold swP
      by_cases c3 : 23 + 7 * a ≤ q ∧ q < 23 + 7 * a + j
      · rw [if_pos c3, if_pos (by omega)]
      · rw [if_neg c3, if_neg (show ¬ (23 + 7 * a ≤ q ∧ q < 23 + 7 * a + (j + 1)) by omega)]
        by_cases c4 : 23 + 7 * b ≤ q ∧ q < 23 + 7 * b + j
        · rw [if_pos c4, if_pos (show 23 + 7 * b ≤ q ∧ q < 23 + 7 * b + (j + 1) by omega)]
        · rw [if_neg c4, if_neg (show ¬ (23 + 7 * b ≤ q ∧ q < 23 + 7 * b + (j + 1)) by omega)]
theorem X7_swaps_loop {a b : Nat} (ha : a < 8) (hb : b < 8) (s : Nat → Int32) : ∀ (d j n : Nat) (Y : Mm), j + d = 7 → d < n → RM Y → Y.1 1 = swP s a b j → f_X7_swaps_b2 n Y 0 (nI a) (nI b) (nI j) = some (sA Y 1 (swP s a b 7), ()) := by
  intro d
  induction d with
  | zero =>
    intro j n Y h1 h2 h3 h4
    obtain ⟨n, rfl⟩ : ∃ z, n = z + 1 := ⟨n - 1, by omega⟩
    obtain rfl : j = 7 := by omega
    simp only [f_X7_swaps_b2]
    rw [if_pos (by decide), sA_self h4]
  | succ d ih =>
    intro j n Y h1 h2 h3 h4
    obtain ⟨n, rfl⟩ : ∃ z, n = z + 1 := ⟨n - 1, by omega⟩
    have e : ∀ q, ((23 : Int32) + ((7 : Int32) * nI q)) + nI j = nI (23 + 7 * q + j) := fun q => by
      rw [show (23 : Int32) = nI 23 from rfl, show (7 : Int32) = nI 7 from rfl, pk_mul, nI_add, nI_add]
    have hr := ih (j + 1) n (sA Y 1 (swP s a b (j + 1))) (by omega) (by omega) h3.sA sA_at
    simp only [f_X7_swaps_b2]
    rw [if_neg (show ¬ (7 : Int32) ≤ nI j from nI_ge (b := 7) (by omega) (by decide)), gd_t gM0, X7_of h3 (nI a) (nI j) a j rfl rfl ha (by omega), Option.bind_some]
    dsimp only
    rw [h3.at 0 rfl, Option.bind_some, X7_of h3 (nI b) (nI j) b j rfl rfl hb (by omega), Option.bind_some]
    dsimp only
    rw [e, e, gd_t (gA (by omega))]
    simp only [lt]
    rw [nI_clamp (by omega), sI_sA, h3.sA.at 0 rfl, Option.bind_some, gd_t (gA (by omega)), nI_clamp (by omega), sI_sA2, nI_1, h4]
    unfold gO
    rw [swP_step s (by omega), hr, sA_sA]
def sg (a b g : Nat) : Nat := if g = a then b else if g = b then a else g
theorem sg_lt {a b g n : Nat} (ha : a < n) (hb : b < n) (hg : g < n) : sg a b g < n := by
  unfold sg
  split
  · exact hb
  · split
    · exact ha
    · exact hg
theorem sg_inj {a b g h : Nat} (e : sg a b g = sg a b h) : g = h := by
  unfold sg at e
  split at e <;> split at e <;> (try split at e) <;> (try split at e) <;> omega
theorem swP_gO {s : Nat → Int32} {a b g j : Nat} (hj : j < 7) : gO (swP s a b 7) g j = gO s (sg a b g) j := by
  unfold gO swP sg
  by_cases c : g = a
  · subst c
    rw [if_pos (by omega), if_pos rfl]
    congr 1
    omega
  · rw [if_neg (by omega), if_neg c]
    by_cases c2 : g = b
    · subst c2
      rw [if_pos (by omega), if_pos rfl]
      congr 1
      omega
    · rw [if_neg (by omega), if_neg c2]
theorem swP_ne {s : Nat → Int32} {a b q : Nat} (h : q < 23 ∨ 79 ≤ q) (ha : a < 8) (hb : b < 8) : swP s a b 7 q = s q := by
  unfold swP
  rw [if_neg (by omega), if_neg (by omega)]
section MM
variable {X Y : Mm}
theorem swP_inv {s : Nat → Int32} {a b : Nat} (hI : Inv s) (ha : a < nG s) (hb : b < nG s) (ha' : nP s ≤ a) (hb' : nP s ≤ b) : Inv (swP s a b 7) := by
  have h6 := hI.1.2
  have h8 := hI.2.1.2
  have e : ∀ q, (q < 23 ∨ 79 ≤ q) → swP s a b 7 q = s q := fun q hq => swP_ne hq (by omega) (by omega)
  have e0 := e 0 (by decide)
  have e1 := e 1 (by decide)
  have e2 := e 2 (by decide)
  have e3 := e 3 (by decide)
  have eS : nS (swP s a b 7) = nS s := by unfold nS; rw [e0]
  have eG : nG (swP s a b 7) = nG s := by unfold nG; rw [e1]
  have eP : nP (swP s a b 7) = nP s := by unfold nP; rw [e2]
  have eL : lW (swP s a b 7) = lW s := by unfold lW; rw [e3]
  have eF : ∀ g, fI (swP s a b 7) g = fI s (sg a b g) := fun g => by unfold fI; rw [swP_gO (by decide)]
  have eO : ∀ g, oI (swP s a b 7) g = oI s (sg a b g) := fun g => by unfold oI; rw [swP_gO (by decide)]
  unfold Inv
  simp only [eS, eG, eP, eL, e0, e1, e2, e3, eF, eO]
  refine ⟨hI.1, hI.2.1, hI.2.2.1, hI.2.2.2.1, ?_, ?_, ?_, ?_⟩
  · intro g hg
    rw [swP_gO (g := g) (j := 0) (by decide), swP_gO (g := g) (j := 1) (by decide), swP_gO (g := g) (j := 2) (by decide)]
    exact hI.2.2.2.2.1 _ (sg_lt ha hb hg)
  · intro g hg
    have es : sg a b g = g := by
      unfold sg
      rw [if_neg (by omega), if_neg (by omega)]
    rw [swP_gO (g := g) (j := 0) (by decide), swP_gO (g := g) (j := 1) (by decide), swP_gO (g := g) (j := 3) (by decide), swP_gO (g := g) (j := 4) (by decide), es]
    exact hI.2.2.2.2.2.1 g hg
  · intro i hi
    unfold sO
    rw [e _ (by omega), e _ (by omega), e _ (by omega)]
    exact hI.2.2.2.2.2.2.1 i hi
  · intro j hj
    rw [e _ (by omega)]
    exact hI.2.2.2.2.2.2.2 j hj
theorem B_swap (h : Rel X Y) (a1 a2 : Int32) : Both (f_X6_swap X 0 a1 a2) (f_X7_swap Y 0 a1 a2) := by
  have hI := h.inv
  have m0 := h.m0
  have x0 := h.xq.1.1
  have hL := h.2.2.2.1
  have h6 := hI.1.2
  have h8 := hI.2.1.2
  have hpg := hI.2.2.1.2
  unfold f_X6_swap f_X7_swap f_X6_swap_b22 f_X7_swap_b16 f_X6_swap_b50 f_X7_swap_b42
  simp only [gd_t gX0, gd_t gM0, x0, Option.bind_some, gd_t gX1, X1_hasGame h.lg1 hI, X7_isGame h.rm hI, iteB, X6_finding h.xq 0 (by decide) 0 rfl, X7_finding h.rm 0 (by decide) 0 rfl, X6_finding h.xq 4 (by decide) 4 rfl, X7_finding h.rm 4 (by decide) 4 rfl, m0, gd_t gA2, cl2, hL.1.2.2.1, hI.2.2.1.1]
  by_cases c1 : 0 ≤ a1 ∧ a1 < nI (nG (Y.1 1))
  · simp only [if_pos c1]
    by_cases c2 : 0 ≤ a2 ∧ a2 < nI (nG (Y.1 1))
    · simp only [if_pos c2]
      obtain ⟨a, ha, rfl⟩ := nI_at c1.1 (by omega) c1.2
      obtain ⟨b, hb, rfl⟩ := nI_at c2.1 (by omega) c2.2
      by_cases c3 : a < nP (Y.1 1)
      · simp only [if_pos (nI_lt c3 (show nP (Y.1 1) < 2 ^ 31 by omega))]
        exact Both.fin h 4 _
      simp only [if_neg (nI_nlt (show nP (Y.1 1) ≤ a by omega) (show a < 2 ^ 31 by omega))]
      by_cases c4 : b < nP (Y.1 1)
      · simp only [if_neg (nI_ge c4 (show nP (Y.1 1) < 2 ^ 31 by omega))]
        exact Both.fin h 4 _
      simp only [if_pos (nI_le (show nP (Y.1 1) ≤ b by omega) (show b < 2 ^ 31 by omega))]
      have hsw : f_X7_swaps Y 0 (nI a) (nI b) = some (sA Y 1 (swP (Y.1 1) a b 7), ()) := X7_swaps_loop (by omega) (by omega) (Y.1 1) 7 0 1000 Y (by omega) (by omega) h.rm (swP_0 _ _ _).symm
      rw [hsw]
      have ga := h.gm (show a < 8 by omega)
      have gb := h.gm (show b < 8 by omega)
      have ea : (nI a).toNatClampNeg = a := nI_clamp (by omega)
      have eb : (nI b).toNatClampNeg = b := nI_clamp (by omega)
      rw [ea] at ga
      rw [eb] at gb
      simp only [h.l1, Option.bind_some, gd_t (gGr (show a < 8 by omega)), gd_t (gGr (show b < 8 by omega)), ea, eb, ga, gb, gd_t (h.go (show a < 8 by omega)), gd_t (h.go (show b < 8 by omega)), lt]
      rw [show (sR X 3 a (some (gq X 1 b))).2.2 0 0 = some 1 by rw [sR_obj (by decide)]; exact x0, Option.bind_some, gd_t gX1, show (sR X 3 a (some (gq X 1 b))).2.2 1 1 = some 3 by rw [sR_obj (by decide)]; exact h.l1, Option.bind_some, gd_t (gGr (show b < 8 by omega))]
      refine ⟨_, _, _, rfl, rfl, ?_⟩
      have hr : ∀ o, o ≠ 3 → (sR (sR X 3 a (some (gq X 1 b))) 3 b (some (gq X 1 a))).2.2 o = X.2.2 o := fun o ho => by rw [sR_obj ho, sR_obj ho]
      have h1 : (sR (sR X 3 a (some (gq X 1 b))) 3 b (some (gq X 1 a))).1 = X.1 := rfl
      have hg : ∀ g, g < 8 → (sR (sR X 3 a (some (gq X 1 b))) 3 b (some (gq X 1 a))).2.2 3 g = some (gq X 1 (sg a b g)) := by
        intro g hg
        unfold sg
        by_cases d1 : g = b
        · subst d1
          rw [sR_same]
          by_cases d2 : g = a
          · rw [if_pos d2, d2]
          · rw [if_neg d2, if_pos rfl]
        · rw [sR_place d1]
          by_cases d2 : g = a
          · subst d2
            rw [sR_same, if_pos rfl]
          · rw [sR_place d2, if_neg d2, if_neg d1]
            exact (h.1.2.1.2.2.1 g hg).1
      generalize sR (sR X 3 a (some (gq X 1 b))) 3 b (some (gq X 1 a)) = X' at hr h1 hg ⊢
      obtain ⟨r1, r2, r3, r4, r5, r6, r7, r8, r9, r10, r11⟩ := id h
      have gq1 : ∀ g, g < 8 → gq X' 1 g = gq X 1 (sg a b g) := fun g hgg => by
        unfold gq
        rw [show (1 : Nat) + 2 = 3 from rfl, hg g hgg]
        rfl
      have gq2 : ∀ g, gq X' 19 g = gq X 19 g := fun g => by unfold gq; rw [hr _ (by decide)]
      have gq3 : ∀ g, gq X' 38 g = gq X 38 g := fun g => by unfold gq; rw [hr _ (by decide)]
      have sl : ∀ g, g < 8 → sg a b g < 8 := fun g hgg => sg_lt (by omega) (by omega) hgg
      have xl1 : XL X' 1 := by
        refine ⟨?_, ?_, fun g hgg => ?_, fun g k hgg hk e => ?_⟩
        · rw [hr 1 (by decide)]
          exact r1.2.1.1
        · rw [hr 2 (by decide)]
          exact r1.2.1.2.1
        · have := r1.2.1.2.2.1 _ (sl g hgg)
          rw [gq1 g hgg]
          exact ⟨hg g hgg, this.2⟩
        · rw [gq1 g hgg, gq1 k hk] at e
          exact sg_inj (r1.2.1.2.2.2 _ _ (sl g hgg) (sl k hk) e)
      have xf : XF X' := by
        refine ⟨?_, xl1, ?_, ?_⟩
        · have := r1.1
          unfold XQ at *
          rw [hr 0 (by decide), hr 37 (by decide), hr 61 (by decide), hr 63 (by decide)]
          refine ⟨this.1, this.2.1, this.2.2.1, this.2.2.2.1, fun i hi => ?_⟩
          rw [hr _ (by omega)]
          exact this.2.2.2.2 i hi
        · have := r1.2.2.1
          unfold XL at *
          simp only [gq2]
          rw [hr 19 (by decide), hr (19 + 1) (by decide), hr (19 + 2) (by decide)]
          exact this
        · have := r1.2.2.2
          unfold XL at *
          simp only [gq3]
          rw [hr 38 (by decide), hr (38 + 1) (by decide), hr (38 + 2) (by decide)]
          exact this
      have gb2 : GB X' 19 := fun g hgg => by rw [gq2, h1]; exact r5 g hgg
      have gb3 : GB X' 38 := fun g hgg => by rw [gq3, h1]; exact r6 g hgg
      have hist : ∀ g, g < nP (Y.1 1) → ∀ j, j < 7 → gO (swP (Y.1 1) a b 7) g j = gO (Y.1 1) g j := fun g hgg j hj => by
        rw [swP_gO hj]
        unfold sg
        rw [if_neg (by omega), if_neg (by omega)]
      have e : ∀ q, (q < 23 ∨ 79 ≤ q) → swP (Y.1 1) a b 7 q = Y.1 1 q := fun q hq => swP_ne hq (by omega) (by omega)
      have eS : nS (swP (Y.1 1) a b 7) = nS (Y.1 1) := by unfold nS; rw [e 0 (by decide)]
      have eG : nG (swP (Y.1 1) a b 7) = nG (Y.1 1) := by unfold nG; rw [e 1 (by decide)]
      have eP : nP (swP (Y.1 1) a b 7) = nP (Y.1 1) := by unfold nP; rw [e 2 (by decide)]
      have ld : LD X' 1 (swP (Y.1 1) a b 7) T0 := by
        have q1 : ∀ g, g ≤ nP (Y.1 1) → ∀ k, ptsA (swP (Y.1 1) a b 7) g k = ptsA (Y.1 1) g k := fun g hgg k => ptsA_cong g (fun x hx j hj => hist x (by omega) j hj)
        have q2 : ∀ g, g ≤ nP (Y.1 1) → ∀ k, stkA (swP (Y.1 1) a b 7) g k = stkA (Y.1 1) g k := fun g hgg k => stkA_cong g (fun x hx j hj => hist x (by omega) j hj)
        have q3 : ∀ g, g ≤ nP (Y.1 1) → ∀ k, tirA (swP (Y.1 1) a b 7) g k = tirA (Y.1 1) g k := fun g hgg k => tirA_cong g (fun x hx j hj => hist x (by omega) j hj)
        unfold LD
        rw [eS, eG, eP, h1, e 0 (by decide), e 1 (by decide), e 2 (by decide), e 3 (by decide), e 4 (by decide)]
        refine ⟨hL.1, ?_, ?_, ?_, ?_, ?_⟩
        · intro i hi
          rw [q1 _ (Nat.le_refl _), q2 _ (Nat.le_refl _), q3 _ (Nat.le_refl _)]
          unfold sO
          rw [e _ (by omega), e _ (by omega), e _ (by omega)]
          exact hL.2.1 i hi
        · intro g hgg
          rw [gq1 g (by omega), swP_gO (by decide), swP_gO (by decide), swP_gO (by decide)]
          exact hL.2.2.1 _ (sg_lt ha hb hgg)
        · intro g hgg
          have es : sg a b g = g := by
            unfold sg
            rw [if_neg (by omega), if_neg (by omega)]
          rw [gq1 g (by omega), es, hist g hgg 3 (by decide), hist g hgg 4 (by decide), hist g hgg 0 (by decide), hist g hgg 1 (by decide), q2 g (by omega), q2 g (by omega), q3 g (by omega), q3 g (by omega)]
          exact hL.2.2.2.1 g hgg
        · intro j hj
          rw [e _ (by omega)]
          exact hL.2.2.2.2.1 j hj
        · intro g hgg
          rw [gq1 g hgg]
          exact hL.2.2.2.2.2 _ (sl g hgg)
      have y : ∀ o, o ≠ 1 → (sA Y 1 (swP (Y.1 1) a b 7)).1 o = Y.1 o := fun o ho => sA_ne ho
      refine ⟨xf, r2, by rw [sA_at]; exact swP_inv hI ha hb (by omega) (by omega), by rw [sA_at]; exact ld, gb2, gb3, ?_, r8.at (by rw [h1]) (y 4 (by decide)), r9.at (by rw [h1]) (by rw [h1]) (by rw [y 0 (by decide)]) (y 5 (by decide)), r10.at (fun o _ _ => by rw [h1]) (y 14 (by decide)) (y 15 (by decide)) (y 16 (by decide)), by rw [y 0 (by decide)]; exact r11⟩
      unfold KP
      rw [y 0 (by decide), y 2 (by decide), h1]
      refine ⟨r7.1, r7.2.1, fun z => ⟨(r7.2.2 z).1, ?_⟩⟩
      have := (r7.2.2 z).2
      unfold LD at *
      simp only [gq2]
      rw [h1]
      exact this
    · simp only [if_neg c2]
      exact Both.fin h 0 _
  · simp only [if_neg c1]
    exact Both.fin h 0 _
end MM

/-! ===== changes of a league that leave its history as it is ===== -/
theorem LD.modify {M M' : Mm} {b : Nat} {s s' : Nat → Int32} {T T' : Int32 × Int32 × Int32} (hL : LD M b s T) (hp : nP s' = nP s) (hq : ∀ g, gq M' b g = gq M b g) (hist : ∀ g, g < nP s → ∀ j, j < 7 → gO s' g j = gO s g j)
    (h0 : M'.1 b 3 = s' 0 ∧ M'.1 b 4 = s' 1 ∧ M'.1 b 5 = s' 2 ∧ M'.1 b 6 = s' 3 ∧ M'.1 b 7 = s' 4 ∧ M'.1 b 8 = T'.1 ∧ M'.1 b 9 = T'.2.1 ∧ M'.1 b 10 = T'.2.2)
    (hs : ∀ i, i < nS s' → M'.1 (b + 4 + i) 0 = sO s' i 0 ∧ M'.1 (b + 4 + i) 1 = sO s' i 1 ∧ M'.1 (b + 4 + i) 2 = sO s' i 2 ∧ M'.1 (b + 4 + i) 3 = ptsA s (nP s) (nI i) ∧ M'.1 (b + 4 + i) 4 = nI (stkA s (nP s) (nI i)) ∧ M'.1 (b + 4 + i) 5 = tirA s (nP s) (nI i))
    (hg : ∀ g, g < nG s' → M'.1 (gq M b g) 0 = gO s' g 0 ∧ M'.1 (gq M b g) 1 = gO s' g 1 ∧ M'.1 (gq M b g) 2 = gO s' g 2)
    (hh : ∀ g, g < nP s → ∀ k, 3 ≤ k → M'.1 (gq M b g) k = M.1 (gq M b g) k) (hsp : ∀ j, j < 10 → M'.1 (b + 3) j = s' (79 + j)) (hz : GB M' b) : LD M' b s' T' := by
  have e1 : ∀ g, g ≤ nP s → ∀ k, ptsA s' g k = ptsA s g k := fun g hg k => ptsA_cong g (fun h hl => hist h (by omega))
  have e2 : ∀ g, g ≤ nP s → ∀ k, stkA s' g k = stkA s g k := fun g hg k => stkA_cong g (fun h hl => hist h (by omega))
  have e3 : ∀ g, g ≤ nP s → ∀ k, tirA s' g k = tirA s g k := fun g hg k => tirA_cong g (fun h hl => hist h (by omega))
  refine ⟨h0, ?_, ?_, ?_, hsp, hz⟩
  · intro i hi
    rw [hp, e1 _ (Nat.le_refl _), e2 _ (Nat.le_refl _), e3 _ (Nat.le_refl _)]
    exact hs i hi
  · intro g hgg
    rw [hq]
    exact hg g hgg
  · intro g hgg
    rw [hp] at hgg
    rw [hq, hist g hgg 3 (by decide), hist g hgg 4 (by decide), hist g hgg 0 (by decide), hist g hgg 1 (by decide), e2 g (by omega), e2 g (by omega), e3 g (by omega), e3 g (by omega), hh g hgg 3 (by decide), hh g hgg 4 (by decide), hh g hgg 5 (by decide), hh g hgg 6 (by decide), hh g hgg 7 (by decide), hh g hgg 8 (by decide)]
    exact hL.2.2.2.1 g hgg
theorem gO_upd {s : Nat → Int32} {k g j : Nat} {v : Int32} (h : 23 + 7 * g + j ≠ k) : gO (upd s k v) g j = gO s g j := pk_un h
theorem sO_upd {s : Nat → Int32} {k i j : Nat} {v : Int32} (h : 5 + 3 * i + j ≠ k) : sO (upd s k v) i j = sO s i j := pk_un h
theorem nS_upd {s : Nat → Int32} {k : Nat} {v : Int32} (h : 0 ≠ k) : nS (upd s k v) = nS s := by unfold nS; rw [pk_un h]
theorem nG_upd {s : Nat → Int32} {k : Nat} {v : Int32} (h : 1 ≠ k) : nG (upd s k v) = nG s := by unfold nG; rw [pk_un h]
theorem nP_upd {s : Nat → Int32} {k : Nat} {v : Int32} (h : 2 ≠ k) : nP (upd s k v) = nP s := by unfold nP; rw [pk_un h]
theorem lW_upd {s : Nat → Int32} {k : Nat} {v : Int32} (h : 3 ≠ k) : lW (upd s k v) = lW s := by unfold lW; rw [pk_un h]
section LL
variable {M : Mm} {b : Nat} {s : Nat → Int32} {T : Int32 × Int32 × Int32}
theorem GBof {M' : Mm} (h : LD M b s T) (hq : ∀ g, gq M' b g = gq M b g) (hm : ∀ g, g < 8 → M'.1 (gq M b g) = M.1 (gq M b g)) : GB M' b := fun g hg => by
  rw [hq, hm g hg]
  exact h.2.2.2.2.2 g hg
/-- a number of the league's own changes: the law (3), z (4) -/
theorem LG_own (h : LG M b s T) (hI : Inv s) (k : Nat) (hk : k = 3 ∨ k = 4) (v : Int32) : LG (sI M b (k + 3) v) b (upd s k v) T ∧ FR b M (sI M b (k + 3) v) := by
  obtain ⟨hb, hX, hL⟩ := h
  have h6 := hI.1.2
  have h8 := hI.2.1.2
  have hpg := hI.2.2.1.2
  have hF : FR b M (sI M b (k + 3) v) := fr_sI fr_rf (by omega) (by omega)
  have hgo : ∀ g, g < 8 → (sI M b (k + 3) v).1 (gq M b g) = M.1 (gq M b g) := fun g hg => by
    obtain ⟨-, t1, t2⟩ := hX.2.2.1 g hg
    exact sI_obj (by omega)
  have hso : ∀ i, i < 6 → (sI M b (k + 3) v).1 (b + 4 + i) = M.1 (b + 4 + i) := fun i hi => sI_obj (by omega)
  refine ⟨⟨hb, fr_XL hF hX, LD.modify hL (nP_upd (by omega)) (fun g => fr_gq hF) (fun g _ j hj => gO_upd (by omega)) ?_ ?_ ?_ (fun g hg k hk => by rw [hgo g (by omega)]) (fun j hj => ?_) (GBof hL (fun g => fr_gq hF) hgo)⟩, hF⟩
  · obtain ⟨a3, a4, a5, a6, a7, a8, a9, a10⟩ := hL.1
    rcases hk with rfl | rfl
    · rw [rdK (by decide), rdK (by decide), rdK (by decide), rdE, rdK (by decide), rdK (by decide), rdK (by decide), rdK (by decide), pk_un (by decide), pk_un (by decide), pk_un (by decide), pk_us, pk_un (by decide)]
      exact ⟨a3, a4, a5, rfl, a7, a8, a9, a10⟩
    · rw [rdK (by decide), rdK (by decide), rdK (by decide), rdK (by decide), rdE, rdK (by decide), rdK (by decide), rdK (by decide), pk_un (by decide), pk_un (by decide), pk_un (by decide), pk_un (by decide), pk_us]
      exact ⟨a3, a4, a5, a6, rfl, a8, a9, a10⟩
  · intro i hi
    rw [nS_upd (by omega)] at hi
    rw [hso i (by omega), sO_upd (by omega), sO_upd (by omega), sO_upd (by omega)]
    exact hL.2.1 i hi
  · intro g hg
    rw [nG_upd (by omega)] at hg
    rw [hgo g (by omega), gO_upd (by omega), gO_upd (by omega), gO_upd (by omega)]
    exact hL.2.2.1 g hg
  · rw [rdN (by omega), pk_un (by omega)]
    exact hL.2.2.2.2.1 j hj
/-- what is sound stays so, if the numbers that count are the same -/
theorem Inv.cong {s s' : Nat → Int32} (hI : Inv s) (h0 : s' 0 = s 0) (h1 : s' 1 = s 1) (h2 : s' 2 = s 2) (h3 : ∃ l, 1 ≤ l ∧ l ≤ 3 ∧ s' 3 = nI l) (hg : ∀ g, g < 8 → ∀ j, j < 7 → gO s' g j = gO s g j)
    (hs : ∀ i, i < nS s → ∃ kd st te, kd ≤ 6 ∧ 1 ≤ st ∧ st ≤ 9 ∧ te ≤ 9 ∧ sO s' i 0 = nI kd ∧ sO s' i 1 = nI st ∧ sO s' i 2 = nI te) (hsp : ∀ j, j < 10 → s' (79 + j) = -1 ∨ ∃ i, i < nS s ∧ s' (79 + j) = nI i) : Inv s' := by
  have eS : nS s' = nS s := by unfold nS; rw [h0]
  have eG : nG s' = nG s := by unfold nG; rw [h1]
  have eP : nP s' = nP s := by unfold nP; rw [h2]
  have h8 := hI.2.1.2
  have hpg := hI.2.2.1.2
  have eF : ∀ g, g < 8 → fI s' g = fI s g := fun g h => by unfold fI; rw [hg g h 0 (by decide)]
  have eO : ∀ g, g < 8 → oI s' g = oI s g := fun g h => by unfold oI; rw [hg g h 1 (by decide)]
  obtain ⟨l, l1, l2, l3⟩ := h3
  have eL : lW s' = l := by unfold lW; rw [l3, nI_clamp (by omega)]
  unfold Inv
  simp only [eS, eG, eP, eL, h0, h1, h2, l3]
  refine ⟨hI.1, hI.2.1, hI.2.2.1, ⟨trivial, l1, l2⟩, ?_, ?_, hs, hsp⟩
  · intro g hgg
    rw [hg g (by omega) 0 (by decide), hg g (by omega) 1 (by decide), hg g (by omega) 2 (by decide), eF g (by omega), eO g (by omega)]
    exact hI.2.2.2.2.1 g hgg
  · intro g hgg
    rw [hg g (by omega) 0 (by decide), hg g (by omega) 1 (by decide), hg g (by omega) 3 (by decide), hg g (by omega) 4 (by decide)]
    exact hI.2.2.2.2.2.1 g hgg
theorem Inv.z (hI : Inv s) (v : Int32) : Inv (upd s 4 v) :=
  hI.cong (pk_un (by decide)) (pk_un (by decide)) (pk_un (by decide)) ⟨lW s, hI.2.2.2.1.2.1, hI.2.2.2.1.2.2, by rw [pk_un (by decide)]; exact hI.2.2.2.1.1⟩ (fun g _ j hj => gO_upd (by omega)) (fun i hi => by
    have := hI.1.2
    rw [sO_upd (by omega), sO_upd (by omega), sO_upd (by omega)]
    exact hI.2.2.2.2.2.2.1 i hi) (fun j hj => by
    rw [pk_un (by omega)]
    exact hI.2.2.2.2.2.2.2 j hj)
theorem Inv.law (hI : Inv s) {l : Nat} (l1 : 1 ≤ l) (l2 : l ≤ 3) : Inv (upd s 3 (nI l)) :=
  hI.cong (pk_un (by decide)) (pk_un (by decide)) (pk_un (by decide)) ⟨l, l1, l2, pk_us⟩ (fun g _ j hj => gO_upd (by omega)) (fun i hi => by
    have := hI.1.2
    rw [sO_upd (by omega), sO_upd (by omega), sO_upd (by omega)]
    exact hI.2.2.2.2.2.2.1 i hi) (fun j hj => by
    rw [pk_un (by omega)]
    exact hI.2.2.2.2.2.2.2 j hj)
def zA (s : Nat → Int32) : Int32 := s 4 * 1103515245 + 12345
def drA (s : Nat → Int32) : Int32 := ((zA s).toUInt32 >>> ((8 : Int32).toUInt32 &&& Int32.toUInt32 31)).toInt32
/-- whose a drawn game is, and the row behind it -/
def dwA (s : Nat → Int32) (T : Int32 × Int32 × Int32) : Int32 := if chA (upd s 4 (zA s)) (nP s) (effA s T (nP s) (fI s (nP s))) (effA s T (nP s) (oI s (nP s))) ≤ drA s - drA s / 10 * 10 then gO s (nP s) 1 else gO s (nP s) 0
def drwA (s : Nat → Int32) (T : Int32 × Int32 × Int32) : Nat → Int32 := winA (upd s 4 (zA s)) (dwA s T) (effA s T (nP s) (fI s (nP s))) (effA s T (nP s) (oI s (nP s)))
theorem X1_playDrawn (h : LG M b s T) (hI : Inv s) (hg : nP s < nG s) : ∃ M', f_X1_playDrawn M b = some (M', givA (upd s 4 (zA s)) (nP s) (dwA s T)) ∧ LG M' b (drwA s T) T ∧ FR b M M' := by
  obtain ⟨hb, hX, hL⟩ := id h
  have h8 := hI.2.1.2
  obtain ⟨q0, q1, q2, q3, q4, -⟩ := hI.2.2.2.2.1 _ hg
  obtain ⟨w0, w1, w2⟩ := hL.2.2.1 _ hg
  obtain ⟨-, r1, r2⟩ := hX.2.2.1 (nP s) (by omega)
  obtain ⟨hz, hFz⟩ := LG_own h hI 4 (Or.inr rfl) (zA s)
  have hIz := hI.z (zA s)
  have nP' : nP (upd s 4 (zA s)) = nP s := nP_upd (by decide)
  have nG' : nG (upd s 4 (zA s)) = nG s := nG_upd (by decide)
  have fI' : fI (upd s 4 (zA s)) (nP s) = fI s (nP s) := by unfold fI; rw [gO_upd (by omega)]
  have oI' : oI (upd s 4 (zA s)) (nP s) = oI s (nP s) := by unfold oI; rw [gO_upd (by omega)]
  have key : ∀ i, fI s (nP s) = i ∨ oI s (nP s) = i → ∃ M', f_X1_playDrawn_b86 (sI M b 7 (zA s)) (effA s T (nP s) (fI s (nP s))) (effA s T (nP s) (oI s (nP s))) b (nI i) = some (M', givA (upd s 4 (zA s)) (nP s) (nI i)) ∧ LG M' b (winA (upd s 4 (zA s)) (nI i) (effA s T (nP s) (fI s (nP s))) (effA s T (nP s) (oI s (nP s)))) T ∧ FR b M M' := by
    intro i him
    obtain ⟨M', e1, e2, e3⟩ := X1_settle hz hIz (by rw [nP', nG']; exact hg) (i := i) (by rw [nP', fI', oI']; exact him) (effA s T (nP s) (fI s (nP s))) (effA s T (nP s) (oI s (nP s)))
    rw [nP'] at e1
    refine ⟨M', ?_, e2, fr_tr hFz e3⟩
    unfold f_X1_playDrawn_b86
    rw [gd_t (okB hb), e1, Option.bind_some]
  have hch := X1_chanceOfFirst hz hIz (by rw [nP', nG']; exact hg) (effA s T (nP s) (fI s (nP s))) (effA s T (nP s) (oI s (nP s)))
  rw [nP'] at hch
  unfold f_X1_playDrawn
  rw [gd_t (okB hb), hX.1.2.1, Option.bind_some, hL.1.2.2.1, hI.2.2.1.1, gd_t (okGr hb (by omega)), hX.gm (by omega), Option.bind_some, gd_t (hX.go hb (by omega)), w0, q0, X1_effortOf h hI q2 hg (Or.inl rfl), Option.bind_some]
  dsimp only
  rw [w1, q1, X1_effortOf h hI q3 hg (Or.inr rfl), Option.bind_some]
  simp only [lt]
  rw [hL.1.2.2.2.2.1, show s 4 * (1103515245 : Int32) + 12345 = zA s from rfl, hch, Option.bind_some, rdE]
  dsimp only
  unfold drwA dwA
  have rq : ∀ z, (sI M b 7 (zA s)).1 (gq M b (nP s)) z = M.1 (gq M b (nP s)) z := fun z => rdN (by omega)
  by_cases c : chA (upd s 4 (zA s)) (nP s) (effA s T (nP s) (fI s (nP s))) (effA s T (nP s) (oI s (nP s))) ≤ drA s - drA s / 10 * 10
  · rw [if_pos c, show ((zA s).toUInt32 >>> ((8 : Int32).toUInt32 &&& Int32.toUInt32 31)).toInt32 = drA s from rfl, if_pos c, q1]
    unfold f_X1_playDrawn_b67
    rw [if_pos rfl, gd_t (hX.go hb (by omega)), rq, w1, q1]
    exact key _ (Or.inr rfl)
  · rw [if_neg c, show ((zA s).toUInt32 >>> ((8 : Int32).toUInt32 &&& Int32.toUInt32 31)).toInt32 = drA s from rfl, if_neg c, q0]
    unfold f_X1_playDrawn_b67
    rw [if_neg (by decide), gd_t (hX.go hb (by omega)), rq, w0, q0]
    exact key _ (Or.inl rfl)
end LL

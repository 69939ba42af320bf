section LL
variable {M : Mm} {b : Nat} {s : Nat → Int32} {T : Int32 × Int32 × Int32}
theorem X1_eff49 (h : LG M b s T) (hI : Inv s) {i : Nat} (hi : i < nS s) (hg : nP s < nG s) (him : fI s (nP s) = i ∨ oI s (nP s) = i) (bb sp : Int32) (hbb : bb = if barA s (nP s) (nI i) then 1 else 0) (hsp : sp = if barA s (nP s) (nI i) then 1 else 2) (hT : ¬ (T.1 = nI (nP s) ∧ T.2.1 = nI i)) : f_X1_effortOf_b49 M b (nI i) (gq M b (nP s)) bb sp = some (M, effA s T (nP s) i) := by
  obtain ⟨hb, hX, hL⟩ := id h
  have h6 := hI.1.2
  have h8 := hI.2.1.2
  obtain ⟨q0, q1, q2, q3, q4, -⟩ := hI.2.2.2.2.1 _ hg
  obtain ⟨w0, w1, w2⟩ := hL.2.2.1 _ hg
  obtain ⟨v0, v1, v2, -⟩ := hL.2.1 i hi
  subst hbb
  subst hsp
  unfold f_X1_effortOf_b49 effA
  rw [if_neg hT, gd_t (okB hb), hX.1.1, Option.bind_some, gd_t (okSr hb (by omega)), hX.sd (by omega), Option.bind_some, gd_t (okSo hb (by omega)), v0]
  by_cases k1 : sO s i 0 = 1
  · rw [if_pos k1, if_pos k1]
  rw [if_neg k1, if_neg k1]
  by_cases k2 : sO s i 0 = 2
  · rw [if_pos k2, if_pos k2]
  rw [if_neg k2, if_neg k2]
  by_cases k3 : sO s i 0 = 3
  · rw [if_pos k3, if_pos k3]
    by_cases c : barA s (nP s) (nI i)
    · simp only [if_pos c]
      rw [if_neg (by decide)]
    · simp only [if_neg c]
      rw [if_pos trivial, gd_t (hX.go hb (by omega)), w0, w1]
      have key : ∀ j, j < nS s → f_X1_effortOf_b131 M 2 b (nI j) = some (M, if barA s (nP s) (nI j) then 3 else 2) := by
        intro j hj
        unfold f_X1_effortOf_b131
        rw [gd_t (okB hb), X1_isBarred h hI hj, Option.bind_some]
        dsimp only
        by_cases c2 : barA s (nP s) (nI j)
        · rw [if_pos c2, if_neg (by decide), if_pos c2]
        · rw [if_neg c2, if_pos rfl, if_neg c2]
      by_cases c2 : nI i = gO s (nP s) 0
      · rw [if_pos c2, show otA s (nP s) (nI i) = gO s (nP s) 1 from if_pos c2.symm, q1]
        exact key _ q3
      · rw [if_neg c2, show otA s (nP s) (nI i) = gO s (nP s) 0 from if_neg (fun z => c2 z.symm), q0]
        exact key _ q2
  rw [if_neg k3, if_neg k3]
  by_cases k4 : sO s i 0 = 4
  · rw [if_pos k4, if_pos k4]
    by_cases c : barA s (nP s) (nI i)
    · simp only [if_pos c]
      rw [if_neg (by decide)]
    · simp only [if_neg c]
      rw [if_pos trivial, X1_nextWorthOf h hI hg, Option.bind_some]
      dsimp only
      rw [gd_t (hX.go hb (by omega)), w2]
      by_cases c2 : nwA s (nI i) (nG s - (nP s + 1)) (nP s + 1) ≤ gO s (nP s) 2
      · rw [if_pos c2, if_neg (Int32.not_lt.mpr c2)]
      · rw [if_neg c2, if_pos (Int32.not_le.mp c2)]
  rw [if_neg k4, if_neg k4]
  by_cases k5 : sO s i 0 = 5
  · rw [if_pos k5, if_pos k5, gd_t (hX.go hb (by omega)), Option.bind_some, gd_t (okSr hb (by omega)), hX.sd (by omega), Option.bind_some, gd_t (okSo hb (by omega)), v2, w2]
    by_cases c : sO s i 2 ≤ gO s (nP s) 2
    · rw [if_pos c, if_neg (Int32.not_lt.mpr c)]
    · rw [if_neg c, if_pos (Int32.not_le.mp c)]
  rw [if_neg k5, if_neg k5]
  by_cases k6 : sO s i 0 = 6
  · rw [if_pos k6, if_pos k6, Option.bind_some, gd_t (okSr hb (by omega)), hX.sd (by omega), Option.bind_some, gd_t (okSo hb (by omega)), v2]
  rw [if_neg k6, if_neg k6]
theorem X1_effortOf (h : LG M b s T) (hI : Inv s) {i : Nat} (hi : i < nS s) (hg : nP s < nG s) (him : fI s (nP s) = i ∨ oI s (nP s) = i) : f_X1_effortOf M b (nI i) = some (M, effA s T (nP s) i) := by
  obtain ⟨hb, hX, hL⟩ := id h
  have h8 := hI.2.1.2
  have key : ∀ _ : ¬ (T.1 = nI (nP s) ∧ T.2.1 = nI i), f_X1_effortOf_b24 M b (nI i) = some (M, effA s T (nP s) i) := by
    intro hT
    unfold f_X1_effortOf_b24
    rw [gd_t (okB hb), hX.1.2.1, Option.bind_some, hL.1.2.2.1, hI.2.2.1.1, gd_t (okGr hb (by omega)), hX.gm (by omega), Option.bind_some, X1_isBarred h hI hi, Option.bind_some]
    dsimp only
    by_cases c : barA s (nP s) (nI i)
    · rw [if_pos c, if_neg (by decide)]
      exact X1_eff49 h hI hi hg him 1 1 (by rw [if_pos c]) (by rw [if_pos c]) hT
    · rw [if_neg c, if_pos rfl]
      exact X1_eff49 h hI hi hg him 0 2 (by rw [if_neg c]) (by rw [if_neg c]) hT
  unfold f_X1_effortOf
  rw [gd_t (okB hb), hL.1.2.2.2.2.2.1, hL.1.2.2.1, hL.1.2.2.2.2.2.2.1, hL.1.2.2.2.2.2.2.2, hI.2.2.1.1]
  by_cases c1 : T.1 = nI (nP s)
  · rw [if_pos c1]
    by_cases c2 : T.2.1 = nI i
    · rw [if_pos c2]
      unfold effA
      rw [if_pos ⟨c1, c2⟩]
    · rw [if_neg c2]
      exact key (fun z => c2 z.2)
  · rw [if_neg c1]
    exact key (fun z => c1 z.1)
theorem X1_forceOf (h : LG M b s T) (hI : Inv s) {i : Nat} (hi : i < nS s) (e : Int32) : f_X1_forceOf M b (nI i) e = some (M, forA s (nP s) i e) := by
  obtain ⟨hb, hX, hL⟩ := id h
  have h6 := hI.1.2
  obtain ⟨-, v1, -, -, -, v5⟩ := hL.2.1 i hi
  have key : ∀ t : Int32, f_X1_forceOf_b26 M e (sO s i 1) t = some (M, (if 1 ≤ sO s i 1 - t then sO s i 1 - t else 1) * e) := by
    intro t
    unfold f_X1_forceOf_b26
    by_cases c : 1 ≤ sO s i 1 - t
    · rw [if_neg (Int32.not_lt.mpr c), if_pos c]
    · rw [if_pos (Int32.not_le.mp c), if_neg c]
  unfold f_X1_forceOf forA
  rw [gd_t (okB hb), hX.1.1, Option.bind_some, gd_t (okSr hb (by omega)), hX.sd (by omega), Option.bind_some, gd_t (okSo hb (by omega)), Option.bind_some, gd_t (okSr hb (by omega)), hX.sd (by omega), Option.bind_some, gd_t (okSo hb (by omega)), v5, v1]
  by_cases c : tirA s (nP s) (nI i) = 0
  · simp only [if_pos c]
    exact key 0
  · simp only [if_neg c]
    exact key 1
theorem X1_chanceOfFirst (h : LG M b s T) (hI : Inv s) (hg : nP s < nG s) (e1 e2 : Int32) : f_X1_chanceOfFirst M b e1 e2 = some (M, chA s (nP s) e1 e2) := by
  obtain ⟨hb, hX, hL⟩ := id h
  have h8 := hI.2.1.2
  obtain ⟨q0, q1, q2, q3, q4, -⟩ := hI.2.2.2.2.1 _ hg
  obtain ⟨w0, w1, w2⟩ := hL.2.2.1 _ hg
  unfold f_X1_chanceOfFirst chA
  rw [gd_t (okB hb), hX.1.2.1, Option.bind_some, hL.1.2.2.1, hI.2.2.1.1, gd_t (okGr hb (by omega)), hX.gm (by omega), Option.bind_some, gd_t (hX.go hb (by omega)), w0, q0, X1_forceOf h hI q2, Option.bind_some]
  dsimp only
  rw [hX.1.2.1, Option.bind_some, hL.1.2.2.1, hI.2.2.1.1, gd_t (okGr hb (by omega)), hX.gm (by omega), Option.bind_some, gd_t (hX.go hb (by omega)), w1, q1, X1_forceOf h hI q3, Option.bind_some]
  dsimp only
  by_cases c : forA s (nP s) (fI s (nP s)) e1 + forA s (nP s) (oI s (nP s)) e2 = 0
  · rw [if_pos c, if_pos c]
  · rw [if_neg c, if_neg c, gd_t c]
theorem X1_given (h : LG M b s T) (hI : Inv s) (hg : nP s < nG s) {i : Nat} (him : fI s (nP s) = i ∨ oI s (nP s) = i) : f_X1_givenIfWonBy M b (nI i) = some (M, givA s (nP s) (nI i)) := by
  obtain ⟨hb, hX, hL⟩ := id h
  have h6 := hI.1.2
  have h8 := hI.2.1.2
  obtain ⟨q0, q1, q2, q3, q4, -⟩ := hI.2.2.2.2.1 _ hg
  obtain ⟨w0, w1, w2⟩ := hL.2.2.1 _ hg
  have hi : i < nS s := by rcases him with e | e <;> omega
  have key : ∀ j, j < nS s → j ≠ i → barA s (nP s) (nI i) → f_X1_givenIfWonBy_b39 M b (nI i) (nI j) = some (M, if barA s (nP s) (nI j) then (if ptsA s (nP s) (nI i) - ptsA s (nP s) (nI j) < 0 ∨ (ptsA s (nP s) (nI i) - ptsA s (nP s) (nI j) = 0 ∧ nI i < nI j) then nI i else nI j) else nI j) := by
    intro j hj hji hbi
    unfold f_X1_givenIfWonBy_b39
    rw [gd_t (okB hb), X1_isBarred h hI hj, Option.bind_some]
    dsimp only
    by_cases c2 : barA s (nP s) (nI j)
    · rw [if_pos c2, if_neg (by decide), if_pos c2, hX.1.1, Option.bind_some, gd_t (okSr hb (by omega)), hX.sd (by omega), Option.bind_some, gd_t (okSo hb (by omega)), Option.bind_some, gd_t (okSr hb (by omega)), hX.sd (by omega), Option.bind_some, gd_t (okSo hb (by omega)), (hL.2.1 i hi).2.2.2.1, (hL.2.1 j hj).2.2.2.1]
      generalize ptsA s (nP s) (nI i) - ptsA s (nP s) (nI j) = off
      by_cases c4 : off = 0
      · rw [if_pos c4]
        by_cases c5 : nI j < nI i
        · rw [if_pos c5, if_neg (fun z => z.elim (fun z => by rw [c4] at z; exact absurd z (by decide)) (fun z => absurd z.2 (Int32.not_lt.mpr (Int32.le_of_lt c5))))]
        · have c6 : nI i < nI j := by
            rcases Nat.lt_or_ge i j with z | z
            · exact nI_lt z (by omega)
            · exact absurd (nI_lt (by omega) (by omega)) c5
          rw [if_neg c5, if_pos (Or.inr ⟨c4, c6⟩)]
      · rw [if_neg c4]
        by_cases c3 : 0 ≤ off
        · rw [if_pos c3, if_neg (fun z => z.elim (fun z => absurd z (Int32.not_lt.mpr c3)) (fun z => c4 z.1))]
        · rw [if_neg c3, if_pos (Or.inl (Int32.not_le.mp c3))]
    · rw [if_neg c2, if_pos rfl, if_neg c2]
  unfold f_X1_givenIfWonBy givA
  rw [gd_t (okB hb), hX.1.2.1, Option.bind_some, hL.1.2.2.1, hI.2.2.1.1, gd_t (okGr hb (by omega)), hX.gm (by omega), Option.bind_some, X1_isBarred h hI hi, Option.bind_some]
  dsimp only
  by_cases c1 : barA s (nP s) (nI i)
  · rw [if_pos c1, if_neg (by decide), if_pos c1, gd_t (hX.go hb (by omega)), w0, w1]
    by_cases c : nI i = gO s (nP s) 0
    · rw [if_pos c, show otA s (nP s) (nI i) = gO s (nP s) 1 from if_pos c.symm, q1]
      refine key _ q3 (fun z => ?_) c1
      rw [q0] at c
      have := (nI_eq (by omega) (by omega)).mp c
      omega
    · rw [if_neg c, show otA s (nP s) (nI i) = gO s (nP s) 0 from if_neg (fun z => c z.symm), q0]
      refine key _ q2 (fun z => ?_) c1
      rw [q0, z] at c
      exact c rfl
  · rw [if_neg c1, if_pos rfl, if_neg c1]
end LL

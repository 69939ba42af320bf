section LL
variable {M : Mm} {b : Nat} {s : Nat → Int32} {T : Int32 × Int32 × Int32}
theorem LG_chainA (h : LG M b s T) (hI : Inv s) (hg : nP s < nG s) {i fi oi q : Nat} {gv e1 e2 : Int32} (efi : fi = fI s (nP s)) (eoi : oi = oI s (nP s)) (eq : q = gq M b (nP s)) (egv : gv = givA s (nP s) (nI i)) (hgv : gv = gO s (nP s) 0) : LG (sI (sI (sI (sI (sI (sI (sI (sI (sI (sI (sI (sI (M) q 3 (nI i)) q 4 gv) q 5 (nI (stkA s (nP s) (nI fi)))) q 6 (nI (stkA s (nP s) (nI oi)))) q 7 (tirA s (nP s) (nI fi))) q 8 (tirA s (nP s) (nI oi))) (b + 4 + fi) 3 (ptsA s (nP s) (nI fi) + gO s (nP s) 2)) (b + 4 + fi) 4 (nI (stkA s (nP s) (nI fi)) + 1)) (b + 4 + fi) 5 (if e1 = 3 then (1 : Int32) else 0)) (b + 4 + oi) 4 (0 : Int32)) (b + 4 + oi) 5 (if e2 = 3 then (1 : Int32) else 0)) b 5 (nI (nP s) + 1)) b (winA s (nI i) e1 e2) T ∧ FR b M (sI (sI (sI (sI (sI (sI (sI (sI (sI (sI (sI (sI (M) q 3 (nI i)) q 4 gv) q 5 (nI (stkA s (nP s) (nI fi)))) q 6 (nI (stkA s (nP s) (nI oi)))) q 7 (tirA s (nP s) (nI fi))) q 8 (tirA s (nP s) (nI oi))) (b + 4 + fi) 3 (ptsA s (nP s) (nI fi) + gO s (nP s) 2)) (b + 4 + fi) 4 (nI (stkA s (nP s) (nI fi)) + 1)) (b + 4 + fi) 5 (if e1 = 3 then (1 : Int32) else 0)) (b + 4 + oi) 4 (0 : Int32)) (b + 4 + oi) 5 (if e2 = 3 then (1 : Int32) else 0)) b 5 (nI (nP s) + 1)) := by
  obtain ⟨hb, hX, hL⟩ := h
  have h6 := hI.1.2
  have h8 := hI.2.1.2
  obtain ⟨q0, q1, q2, q3, q4, -⟩ := hI.2.2.2.2.1 _ hg
  obtain ⟨w0, w1, w2⟩ := hL.2.2.1 _ hg
  rw [← efi] at q0 q2 q4
  rw [← eoi] at q1 q3 q4
  obtain ⟨-, r1, r2⟩ := hX.2.2.1 (nP s) (by omega)
  rw [← eq] at r1 r2
  have hF : FR b M (sI (sI (sI (sI (sI (sI (sI (sI (sI (sI (sI (sI (M) q 3 (nI i)) q 4 gv) q 5 (nI (stkA s (nP s) (nI fi)))) q 6 (nI (stkA s (nP s) (nI oi)))) q 7 (tirA s (nP s) (nI fi))) q 8 (tirA s (nP s) (nI oi))) (b + 4 + fi) 3 (ptsA s (nP s) (nI fi) + gO s (nP s) 2)) (b + 4 + fi) 4 (nI (stkA s (nP s) (nI fi)) + 1)) (b + 4 + fi) 5 (if e1 = 3 then (1 : Int32) else 0)) (b + 4 + oi) 4 (0 : Int32)) (b + 4 + oi) 5 (if e2 = 3 then (1 : Int32) else 0)) b 5 (nI (nP s) + 1)) := by
    repeat (first | exact fr_rf | refine fr_sI ?_ (by omega) (by omega))
  refine ⟨⟨hb, fr_XL hF hX, LD.of_win hI hg hX hL hF ?_ ?_ ?_ ?_ ?_ ?_ ?_⟩, hF⟩
  · intro k hk
    rw [rdK hk, rdN (by omega), rdN (by omega), rdN (by omega), rdN (by omega), rdN (by omega), rdN (by omega), rdN (by omega), rdN (by omega), rdN (by omega), rdN (by omega), rdN (by omega)]
  · rw [rdE]
  · intro k
    rw [rdN (by omega), rdN (by omega), rdN (by omega), rdN (by omega), rdN (by omega), rdN (by omega), rdN (by omega), rdN (by omega), rdN (by omega), rdN (by omega), rdN (by omega), rdN (by omega)]
  · intro j hj k hk
    by_cases c1 : j = fi
    · subst c1
      rw [rdN (by omega), rdN (by omega), rdN (by omega), rdK (by omega), rdK (by omega), rdK (by omega), rdN (by omega), rdN (by omega), rdN (by omega), rdN (by omega), rdN (by omega), rdN (by omega)]
    · by_cases c2 : j = oi
      · subst c2
        rw [rdN (by omega), rdK (by omega), rdK (by omega), rdN (by omega), rdN (by omega), rdN (by omega), rdN (by omega), rdN (by omega), rdN (by omega), rdN (by omega), rdN (by omega), rdN (by omega)]
      · rw [rdN (by omega), rdN (by omega), rdN (by omega), rdN (by omega), rdN (by omega), rdN (by omega), rdN (by omega), rdN (by omega), rdN (by omega), rdN (by omega), rdN (by omega), rdN (by omega)]
  · intro j hj
    rw [ptsA_win, stkA_win, tirA_win, ← egv, hgv]
    by_cases c1 : j = fi
    · subst c1
      have cp : plA s (nI j) (nP s) := Or.inl q0
      have c0 : gO s (nP s) 0 = nI j := q0
      rw [rdN (by omega), rdN (by omega), rdN (by omega), rdK (by decide), rdK (by decide), rdE, rdN (by omega), rdN (by omega), rdN (by omega), rdK (by decide), rdE, rdN (by omega), rdN (by omega), rdN (by omega), rdE, if_pos c0, if_pos cp, if_pos c0, if_pos cp, if_pos c0, nI_1]
      exact ⟨rfl, rfl, rfl⟩
    · by_cases c2 : j = oi
      · subst c2
        have cp : plA s (nI j) (nP s) := Or.inr q1
        have c0 : ¬ gO s (nP s) 0 = nI j := fun z => by rw [q0] at z; exact absurd ((nI_eq (by omega) (by omega)).mp z) (by omega)
        rw [rdN (by omega), rdK (by decide), rdK (by decide), rdN (by omega), rdN (by omega), rdN (by omega), rdN (by omega), rdN (by omega), rdN (by omega), rdN (by omega), rdN (by omega), rdN (by omega), rdN (by omega), rdK (by decide), rdE, rdN (by omega), rdE, if_neg c0, if_pos cp, if_neg c0, if_pos cp, if_neg c0, (hL.2.1 j hj).2.2.2.1]
        exact ⟨(Int32.add_zero _).symm, rfl, rfl⟩
      · have d0 : ¬ gO s (nP s) 0 = nI j := fun z => by rw [q0] at z; exact absurd ((nI_eq (by omega) (by omega)).mp z) (by omega)
        have d1 : ¬ gO s (nP s) 1 = nI j := fun z => by rw [q1] at z; exact absurd ((nI_eq (by omega) (by omega)).mp z) (by omega)
        have cp : ¬ plA s (nI j) (nP s) := fun z => z.elim d0 d1
        rw [rdN (by omega), rdN (by omega), rdN (by omega), rdN (by omega), rdN (by omega), rdN (by omega), rdN (by omega), rdN (by omega), rdN (by omega), rdN (by omega), rdN (by omega), rdN (by omega), rdN (by omega), rdN (by omega), rdN (by omega), rdN (by omega), rdN (by omega), rdN (by omega), rdN (by omega), rdN (by omega), rdN (by omega), rdN (by omega), rdN (by omega), rdN (by omega), rdN (by omega), rdN (by omega), rdN (by omega), rdN (by omega), rdN (by omega), rdN (by omega), rdN (by omega), rdN (by omega), rdN (by omega), rdN (by omega), rdN (by omega), rdN (by omega), if_neg d0, if_neg cp, if_neg cp, (hL.2.1 j hj).2.2.2.1, (hL.2.1 j hj).2.2.2.2.1, (hL.2.1 j hj).2.2.2.2.2]
        exact ⟨(Int32.add_zero _).symm, rfl, rfl⟩
  · intro g hg8 _ k hk hgk
    obtain ⟨-, t1, t2⟩ := hX.2.2.1 g hg8
    by_cases c1 : g = nP s
    · rw [c1, ← eq]
      have hk3 : k < 3 := hgk.elim (fun z => absurd c1 z) id
      rw [rdN (by omega), rdN (by omega), rdN (by omega), rdN (by omega), rdN (by omega), rdN (by omega), rdK (by omega), rdK (by omega), rdK (by omega), rdK (by omega), rdK (by omega), rdK (by omega)]
    · have cq : gq M b g ≠ q := fun z => c1 (hX.2.2.2 g (nP s) hg8 (by omega) (z.trans eq))
      rw [rdN (by omega), rdN (by omega), rdN (by omega), rdN (by omega), rdN (by omega), rdN (by omega), rdN (by omega), rdN (by omega), rdN (by omega), rdN (by omega), rdN (by omega), rdN (by omega)]
  · rw [← eq, q0, q1, ← egv]
    rw [rdN (by omega), rdN (by omega), rdN (by omega), rdN (by omega), rdN (by omega), rdN (by omega), rdK (by decide), rdK (by decide), rdK (by decide), rdK (by decide), rdK (by decide), rdE, rdN (by omega), rdN (by omega), rdN (by omega), rdN (by omega), rdN (by omega), rdN (by omega), rdK (by decide), rdK (by decide), rdK (by decide), rdK (by decide), rdE, rdN (by omega), rdN (by omega), rdN (by omega), rdN (by omega), rdN (by omega), rdN (by omega), rdK (by decide), rdK (by decide), rdK (by decide), rdE, rdN (by omega), rdN (by omega), rdN (by omega), rdN (by omega), rdN (by omega), rdN (by omega), rdK (by decide), rdK (by decide), rdE, rdN (by omega), rdN (by omega), rdN (by omega), rdN (by omega), rdN (by omega), rdN (by omega), rdK (by decide), rdE, rdN (by omega), rdN (by omega), rdN (by omega), rdN (by omega), rdN (by omega), rdN (by omega), rdE]
    exact ⟨rfl, rfl, rfl, rfl, rfl, rfl⟩
theorem LG_chainB (h : LG M b s T) (hI : Inv s) (hg : nP s < nG s) {i fi oi q : Nat} {gv e1 e2 : Int32} (efi : fi = fI s (nP s)) (eoi : oi = oI s (nP s)) (eq : q = gq M b (nP s)) (egv : gv = givA s (nP s) (nI i)) (hgv : gv = gO s (nP s) 1) : LG (sI (sI (sI (sI (sI (sI (sI (sI (sI (sI (sI (sI (M) q 3 (nI i)) q 4 gv) q 5 (nI (stkA s (nP s) (nI fi)))) q 6 (nI (stkA s (nP s) (nI oi)))) q 7 (tirA s (nP s) (nI fi))) q 8 (tirA s (nP s) (nI oi))) (b + 4 + fi) 4 (0 : Int32)) (b + 4 + fi) 5 (if e1 = 3 then (1 : Int32) else 0)) (b + 4 + oi) 3 (ptsA s (nP s) (nI oi) + gO s (nP s) 2)) (b + 4 + oi) 4 (nI (stkA s (nP s) (nI oi)) + 1)) (b + 4 + oi) 5 (if e2 = 3 then (1 : Int32) else 0)) b 5 (nI (nP s) + 1)) b (winA s (nI i) e1 e2) T ∧ FR b M (sI (sI (sI (sI (sI (sI (sI (sI (sI (sI (sI (sI (M) q 3 (nI i)) q 4 gv) q 5 (nI (stkA s (nP s) (nI fi)))) q 6 (nI (stkA s (nP s) (nI oi)))) q 7 (tirA s (nP s) (nI fi))) q 8 (tirA s (nP s) (nI oi))) (b + 4 + fi) 4 (0 : Int32)) (b + 4 + fi) 5 (if e1 = 3 then (1 : Int32) else 0)) (b + 4 + oi) 3 (ptsA s (nP s) (nI oi) + gO s (nP s) 2)) (b + 4 + oi) 4 (nI (stkA s (nP s) (nI oi)) + 1)) (b + 4 + oi) 5 (if e2 = 3 then (1 : Int32) else 0)) b 5 (nI (nP s) + 1)) := by
  obtain ⟨hb, hX, hL⟩ := h
  have h6 := hI.1.2
  have h8 := hI.2.1.2
  obtain ⟨q0, q1, q2, q3, q4, -⟩ := hI.2.2.2.2.1 _ hg
  obtain ⟨w0, w1, w2⟩ := hL.2.2.1 _ hg
  rw [← efi] at q0 q2 q4
  rw [← eoi] at q1 q3 q4
  obtain ⟨-, r1, r2⟩ := hX.2.2.1 (nP s) (by omega)
  rw [← eq] at r1 r2
  have hF : FR b M (sI (sI (sI (sI (sI (sI (sI (sI (sI (sI (sI (sI (M) q 3 (nI i)) q 4 gv) q 5 (nI (stkA s (nP s) (nI fi)))) q 6 (nI (stkA s (nP s) (nI oi)))) q 7 (tirA s (nP s) (nI fi))) q 8 (tirA s (nP s) (nI oi))) (b + 4 + fi) 4 (0 : Int32)) (b + 4 + fi) 5 (if e1 = 3 then (1 : Int32) else 0)) (b + 4 + oi) 3 (ptsA s (nP s) (nI oi) + gO s (nP s) 2)) (b + 4 + oi) 4 (nI (stkA s (nP s) (nI oi)) + 1)) (b + 4 + oi) 5 (if e2 = 3 then (1 : Int32) else 0)) b 5 (nI (nP s) + 1)) := by
    repeat (first | exact fr_rf | refine fr_sI ?_ (by omega) (by omega))
  refine ⟨⟨hb, fr_XL hF hX, LD.of_win hI hg hX hL hF ?_ ?_ ?_ ?_ ?_ ?_ ?_⟩, hF⟩
  · intro k hk
    rw [rdK hk, rdN (by omega), rdN (by omega), rdN (by omega), rdN (by omega), rdN (by omega), rdN (by omega), rdN (by omega), rdN (by omega), rdN (by omega), rdN (by omega), rdN (by omega)]
  · rw [rdE]
  · intro k
    rw [rdN (by omega), rdN (by omega), rdN (by omega), rdN (by omega), rdN (by omega), rdN (by omega), rdN (by omega), rdN (by omega), rdN (by omega), rdN (by omega), rdN (by omega), rdN (by omega)]
  · intro j hj k hk
    by_cases c1 : j = fi
    · subst c1
      rw [rdN (by omega), rdN (by omega), rdN (by omega), rdN (by omega), rdK (by omega), rdK (by omega), rdN (by omega), rdN (by omega), rdN (by omega), rdN (by omega), rdN (by omega), rdN (by omega)]
    · by_cases c2 : j = oi
      · subst c2
        rw [rdN (by omega), rdK (by omega), rdK (by omega), rdK (by omega), rdN (by omega), rdN (by omega), rdN (by omega), rdN (by omega), rdN (by omega), rdN (by omega), rdN (by omega), rdN (by omega)]
      · rw [rdN (by omega), rdN (by omega), rdN (by omega), rdN (by omega), rdN (by omega), rdN (by omega), rdN (by omega), rdN (by omega), rdN (by omega), rdN (by omega), rdN (by omega), rdN (by omega)]
  · intro j hj
    rw [ptsA_win, stkA_win, tirA_win, ← egv, hgv]
    by_cases c1 : j = fi
    · subst c1
      have cp : plA s (nI j) (nP s) := Or.inl q0
      have c0 : gO s (nP s) 0 = nI j := q0
      have c9 : ¬ gO s (nP s) 1 = nI j := fun z => by rw [q1] at z; exact absurd ((nI_eq (by omega) (by omega)).mp z) (by omega)
      rw [rdN (by omega), rdN (by omega), rdN (by omega), rdN (by omega), rdK (by decide), rdK (by decide), rdN (by omega), rdN (by omega), rdN (by omega), rdN (by omega), rdN (by omega), rdN (by omega), rdN (by omega), rdN (by omega), rdN (by omega), rdN (by omega), rdK (by decide), rdE, rdN (by omega), rdN (by omega), rdN (by omega), rdN (by omega), rdE, if_neg c9, if_pos cp, if_neg c9, if_pos cp, if_pos c0, (hL.2.1 j hj).2.2.2.1]
      exact ⟨(Int32.add_zero _).symm, rfl, rfl⟩
    · by_cases c2 : j = oi
      · subst c2
        have cp : plA s (nI j) (nP s) := Or.inr q1
        have c0 : ¬ gO s (nP s) 0 = nI j := fun z => by rw [q0] at z; exact absurd ((nI_eq (by omega) (by omega)).mp z) (by omega)
        rw [rdN (by omega), rdK (by decide), rdK (by decide), rdE, rdN (by omega), rdK (by decide), rdE, rdN (by omega), rdE, if_pos q1, if_pos cp, if_pos q1, if_pos cp, if_neg c0, nI_1]
        exact ⟨rfl, rfl, rfl⟩
      · have d0 : ¬ gO s (nP s) 0 = nI j := fun z => by rw [q0] at z; exact absurd ((nI_eq (by omega) (by omega)).mp z) (by omega)
        have d1 : ¬ gO s (nP s) 1 = nI j := fun z => by rw [q1] at z; exact absurd ((nI_eq (by omega) (by omega)).mp z) (by omega)
        have cp : ¬ plA s (nI j) (nP s) := fun z => z.elim d0 d1
        rw [rdN (by omega), rdN (by omega), rdN (by omega), rdN (by omega), rdN (by omega), rdN (by omega), rdN (by omega), rdN (by omega), rdN (by omega), rdN (by omega), rdN (by omega), rdN (by omega), rdN (by omega), rdN (by omega), rdN (by omega), rdN (by omega), rdN (by omega), rdN (by omega), rdN (by omega), rdN (by omega), rdN (by omega), rdN (by omega), rdN (by omega), rdN (by omega), rdN (by omega), rdN (by omega), rdN (by omega), rdN (by omega), rdN (by omega), rdN (by omega), rdN (by omega), rdN (by omega), rdN (by omega), rdN (by omega), rdN (by omega), rdN (by omega), if_neg d1, if_neg cp, if_neg cp, (hL.2.1 j hj).2.2.2.1, (hL.2.1 j hj).2.2.2.2.1, (hL.2.1 j hj).2.2.2.2.2]
        exact ⟨(Int32.add_zero _).symm, rfl, rfl⟩
  · intro g hg8 _ k hk hgk
    obtain ⟨-, t1, t2⟩ := hX.2.2.1 g hg8
    by_cases c1 : g = nP s
    · rw [c1, ← eq]
      have hk3 : k < 3 := hgk.elim (fun z => absurd c1 z) id
      rw [rdN (by omega), rdN (by omega), rdN (by omega), rdN (by omega), rdN (by omega), rdN (by omega), rdK (by omega), rdK (by omega), rdK (by omega), rdK (by omega), rdK (by omega), rdK (by omega)]
    · have cq : gq M b g ≠ q := fun z => c1 (hX.2.2.2 g (nP s) hg8 (by omega) (z.trans eq))
      rw [rdN (by omega), rdN (by omega), rdN (by omega), rdN (by omega), rdN (by omega), rdN (by omega), rdN (by omega), rdN (by omega), rdN (by omega), rdN (by omega), rdN (by omega), rdN (by omega)]
  · rw [← eq, q0, q1, ← egv]
    rw [rdN (by omega), rdN (by omega), rdN (by omega), rdN (by omega), rdN (by omega), rdN (by omega), rdK (by decide), rdK (by decide), rdK (by decide), rdK (by decide), rdK (by decide), rdE, rdN (by omega), rdN (by omega), rdN (by omega), rdN (by omega), rdN (by omega), rdN (by omega), rdK (by decide), rdK (by decide), rdK (by decide), rdK (by decide), rdE, rdN (by omega), rdN (by omega), rdN (by omega), rdN (by omega), rdN (by omega), rdN (by omega), rdK (by decide), rdK (by decide), rdK (by decide), rdE, rdN (by omega), rdN (by omega), rdN (by omega), rdN (by omega), rdN (by omega), rdN (by omega), rdK (by decide), rdK (by decide), rdE, rdN (by omega), rdN (by omega), rdN (by omega), rdN (by omega), rdN (by omega), rdN (by omega), rdK (by decide), rdE, rdN (by omega), rdN (by omega), rdN (by omega), rdN (by omega), rdN (by omega), rdN (by omega), rdE]
    exact ⟨rfl, rfl, rfl, rfl, rfl, rfl⟩
theorem X1_settle (h : LG M b s T) (hI : Inv s) (hg : nP s < nG s) {i : Nat} (him : fI s (nP s) = i ∨ oI s (nP s) = i) (e1 e2 : Int32) : ∃ M', f_X1_settle M b (nI i) e1 e2 = some (M', givA s (nP s) (nI i)) ∧ LG M' b (winA s (nI i) e1 e2) T ∧ FR b M M' := by
  obtain ⟨hb, hX, hL⟩ := id h
  have h6 := hI.1.2
  have h8 := hI.2.1.2
  obtain ⟨q0, q1, q2, q3, q4, -⟩ := hI.2.2.2.2.1 _ hg
  obtain ⟨w0, w1, w2⟩ := hL.2.2.1 _ hg
  obtain ⟨-, r1, r2⟩ := hX.2.2.1 (nP s) (by omega)
  obtain ⟨-, -, -, af3, af4, af5⟩ := hL.2.1 _ q2
  obtain ⟨-, -, -, ao3, ao4, ao5⟩ := hL.2.1 _ q3
  have hgi := givA_in (s := s) (g := nP s) (w := nI i) (by rw [q0, q1]; rcases him with z | z <;> rw [z] <;> simp)
  have hok := hX.go hb (g := nP s) (by omega)
  have kA := LG_chainA (M := M) (b := b) (T := T) (e1 := e1) (e2 := e2) h hI hg (i := i) rfl rfl rfl rfl
  have kB := LG_chainB (M := M) (b := b) (T := T) (e1 := e1) (e2 := e2) h hI hg (i := i) rfl rfl rfl rfl
  unfold f_X1_settle
  rw [gd_t (okB hb), hX.1.2.1, Option.bind_some, hL.1.2.2.1, hI.2.2.1.1, gd_t (okGr hb (by omega)), hX.gm (by omega), Option.bind_some, hX.1.1, Option.bind_some, gd_t hok, w0, q0, gd_t (okSr hb (by omega)), hX.sd (by omega), Option.bind_some, Option.bind_some, w1, q1, gd_t (okSr hb (by omega)), hX.sd (by omega), Option.bind_some, X1_given h hI hg him, Option.bind_some]
  generalize hfi : fI s (nP s) = fi at *
  generalize hoi : oI s (nP s) = oi at *
  generalize hq : gq M b (nP s) = q at *
  generalize hgv : givA s (nP s) (nI i) = gv at *
  simp only [lt]
  rw [gd_t (okSo hb (by omega)), gd_t (okSo hb (by omega))]
  rw [gd_t (by rw [rdN (by omega), rdN (by omega), rdN (by omega), rdN (by omega), af5]; exact tirA_bz _ _ _)]
  rw [gd_t (by rw [rdN (by omega), rdN (by omega), rdN (by omega), rdN (by omega), rdN (by omega), ao5]; exact tirA_bz _ _ _)]
  have rf : ∀ (M0 : Mm) (k : Nat) (v : Int32) (c : Nat), (sI M0 q k v).1 (b + 4 + fi) c = M0.1 (b + 4 + fi) c := fun _ _ _ _ => rdN (by omega)
  have ro : ∀ (M0 : Mm) (k : Nat) (v : Int32) (c : Nat), (sI M0 q k v).1 (b + 4 + oi) c = M0.1 (b + 4 + oi) c := fun _ _ _ _ => rdN (by omega)
  have rof : ∀ (M0 : Mm) (k : Nat) (v : Int32) (c : Nat), (sI M0 (b + 4 + fi) k v).1 (b + 4 + oi) c = M0.1 (b + 4 + oi) c := fun _ _ _ _ => rdN (by omega)
  have rqf : ∀ (M0 : Mm) (k : Nat) (v : Int32) (c : Nat), (sI M0 (b + 4 + fi) k v).1 q c = M0.1 q c := fun _ _ _ _ => rdN (by omega)
  have rqo : ∀ (M0 : Mm) (k : Nat) (v : Int32) (c : Nat), (sI M0 (b + 4 + oi) k v).1 q c = M0.1 q c := fun _ _ _ _ => rdN (by omega)
  have rbq : ∀ (M0 : Mm) (k : Nat) (v : Int32) (c : Nat), (sI M0 q k v).1 b c = M0.1 b c := fun _ _ _ _ => rdN (by omega)
  have rbf : ∀ (M0 : Mm) (k : Nat) (v : Int32) (c : Nat), (sI M0 (b + 4 + fi) k v).1 b c = M0.1 b c := fun _ _ _ _ => rdN (by omega)
  have rbo : ∀ (M0 : Mm) (k : Nat) (v : Int32) (c : Nat), (sI M0 (b + 4 + oi) k v).1 b c = M0.1 b c := fun _ _ _ _ => rdN (by omega)
  simp only [rf, ro, af4, ao4, af5, ao5]
  rw [rdK (by decide), rdK (by decide), rdK (by decide), rdK (by decide), rdK (by decide), rdK (by decide), w0]
  rcases hgi with hz | hz
  · rw [if_pos (by rw [hz])]
    unfold f_X1_settle_b112
    rw [gd_t hok, gd_t (okSo hb (by omega)), X3_rem1 (okSo hb (by omega)), Option.bind_some]
    simp only [rf, rqf, af3, af4]
    rw [rdK (o := q) (c := 2) (by decide), rdK (o := q) (c := 2) (by decide), rdK (o := q) (c := 2) (by decide), rdK (o := q) (c := 2) (by decide), rdK (o := q) (c := 2) (by decide), rdK (o := q) (c := 2) (by decide), w2]
    rw [rdK (o := q) (c := 1) (by decide), rdK (o := q) (c := 1) (by decide), rdK (o := q) (c := 1) (by decide), rdK (o := q) (c := 1) (by decide), rdK (o := q) (c := 1) (by decide), rdK (o := q) (c := 1) (by decide), w1]
    rw [if_neg (by rw [hz, q0, q1]; intro z; exact absurd ((nI_eq (by omega) (by omega)).mp z) (by omega))]
    unfold f_X1_settle_b138
    rw [gd_t hok, gd_t (okSo hb (by omega)), X3_rem0 (okSo hb (by omega)), Option.bind_some]
    simp only [lt]
    rw [gd_t (okB hb)]
    simp only [rbo, rbf, rbq, hL.1.2.2.1, hI.2.2.1.1]
    exact ⟨_, rfl, kA hz⟩
  · rw [if_neg (by rw [hz, q0, q1]; intro z; exact absurd ((nI_eq (by omega) (by omega)).mp z) (by omega))]
    unfold f_X1_settle_b112
    rw [gd_t hok, gd_t (okSo hb (by omega)), X3_rem0 (okSo hb (by omega)), Option.bind_some]
    simp only [rqf]
    rw [rdK (o := q) (c := 1) (by decide), rdK (o := q) (c := 1) (by decide), rdK (o := q) (c := 1) (by decide), rdK (o := q) (c := 1) (by decide), rdK (o := q) (c := 1) (by decide), rdK (o := q) (c := 1) (by decide), w1]
    rw [if_pos hz]
    unfold f_X1_settle_b138
    rw [gd_t hok, gd_t (okSo hb (by omega)), X3_rem1 (okSo hb (by omega)), Option.bind_some]
    simp only [lt, rqf, rof, ro, ao3, ao4]
    rw [gd_t (okB hb)]
    rw [rdK (o := q) (c := 2) (by decide), rdK (o := q) (c := 2) (by decide), rdK (o := q) (c := 2) (by decide), rdK (o := q) (c := 2) (by decide), rdK (o := q) (c := 2) (by decide), rdK (o := q) (c := 2) (by decide), w2]
    simp only [rbo, rbf, rbq, hL.1.2.2.1, hI.2.2.1.1]
    exact ⟨_, rfl, kB hz⟩
end LL

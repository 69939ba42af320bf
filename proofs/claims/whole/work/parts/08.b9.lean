theorem sI_r {M : Mm} {o k : Nat} {v : Int32} : (sI M o k v).2.2 = M.2.2 := rfl
/-- a game is taken back: the row -/
def bkA (s : Nat → Int32) : Nat → Int32 := upd s 2 (nI (nP s - 1))
theorem bkA_ne {s : Nat → Int32} {k : Nat} (h : k ≠ 2) : bkA s k = s k := pk_un h
theorem bkA_gO {s : Nat → Int32} {g j : Nat} : gO (bkA s) g j = gO s g j := bkA_ne (by omega)
theorem bkA_sO {s : Nat → Int32} {g j : Nat} : sO (bkA s) g j = sO s g j := bkA_ne (by omega)
theorem bkA_nS {s : Nat → Int32} : nS (bkA s) = nS s := by unfold nS; rw [bkA_ne (by decide)]
theorem bkA_nG {s : Nat → Int32} : nG (bkA s) = nG s := by unfold nG; rw [bkA_ne (by decide)]
theorem bkA_lW {s : Nat → Int32} : lW (bkA s) = lW s := by unfold lW; rw [bkA_ne (by decide)]
theorem bkA_fI {s : Nat → Int32} {g : Nat} : fI (bkA s) g = fI s g := by unfold fI; rw [bkA_gO]
theorem bkA_oI {s : Nat → Int32} {g : Nat} : oI (bkA s) g = oI s g := by unfold oI; rw [bkA_gO]
theorem bkA_2 {s : Nat → Int32} : bkA s 2 = nI (nP s - 1) := pk_us
theorem bkA_nP {s : Nat → Int32} (hI : Inv s) : nP (bkA s) = nP s - 1 := by
  have h8 := hI.np8
  show (bkA s 2).toNatClampNeg = nP s - 1
  rw [bkA_2, nI_clamp (by omega)]
theorem Inv.bk {s : Nat → Int32} (hI : Inv s) : Inv (bkA s) := by
  unfold Inv
  simp only [bkA_nS, bkA_nG, bkA_lW, bkA_nP hI, bkA_fI, bkA_oI, bkA_gO, bkA_sO, bkA_2]
  refine ⟨⟨?_, hI.1.2⟩, ⟨?_, hI.2.1.2⟩, ⟨trivial, by have := hI.2.2.1.2; omega⟩, ⟨?_, hI.2.2.2.1.2⟩, hI.2.2.2.2.1, fun g hg => hI.2.2.2.2.2.1 g (by omega), hI.2.2.2.2.2.2.1, ?_⟩
  · rw [bkA_ne (by decide)]
    exact hI.1.1
  · rw [bkA_ne (by decide)]
    exact hI.2.1.1
  · rw [bkA_ne (by decide)]
    exact hI.2.2.2.1.1
  · intro j hj
    rw [bkA_ne (by omega)]
    exact hI.2.2.2.2.2.2.2 j hj
theorem LD.of_back {M M' : Mm} {b p : Nat} {s : Nat → Int32} {T : Int32 × Int32 × Int32} (hI : Inv s) (hp : nP s = p + 1) (hX : XL M b) (hL : LD M b s T) (hF : FR b M M')
    (hb : ∀ k, k ≠ 5 → M'.1 b k = M.1 b k) (hb5 : M'.1 b 5 = nI p) (hsp : ∀ k, M'.1 (b + 3) k = M.1 (b + 3) k)
    (hs0 : ∀ i, i < 6 → ∀ k, k < 3 → M'.1 (b + 4 + i) k = M.1 (b + 4 + i) k)
    (hs : ∀ i, i < nS s → M'.1 (b + 4 + i) 3 = ptsA s p (nI i) ∧ M'.1 (b + 4 + i) 4 = nI (stkA s p (nI i)) ∧ M'.1 (b + 4 + i) 5 = tirA s p (nI i))
    (hg0 : ∀ g, g < 8 → ∀ k, M'.1 (gq M b g) k = M.1 (gq M b g) k) : LD M' b (bkA s) T := by
  have h6 := hI.1.2
  have h8 := hI.2.1.2
  have e1 : ∀ g k, ptsA (bkA s) g k = ptsA s g k := fun g k => ptsA_cong g (fun _ _ _ _ => bkA_gO)
  have e2 : ∀ g k, stkA (bkA s) g k = stkA s g k := fun g k => stkA_cong g (fun _ _ _ _ => bkA_gO)
  have e3 : ∀ g k, tirA (bkA s) g k = tirA s g k := fun g k => tirA_cong g (fun _ _ _ _ => bkA_gO)
  have ep : nP s - 1 = p := by omega
  unfold LD
  simp only [bkA_nS, bkA_nG, bkA_nP hI, fr_gq hF, bkA_gO, bkA_sO, e1, e2, e3, bkA_2, ep]
  refine ⟨⟨?_, ?_, hb5, ?_, ?_, ?_, ?_, ?_⟩, ?_, ?_, ?_, ?_, ?_⟩
  · rw [hb 3 (by decide), bkA_ne (by decide)]; exact hL.1.1
  · rw [hb 4 (by decide), bkA_ne (by decide)]; exact hL.1.2.1
  · rw [hb 6 (by decide), bkA_ne (by decide)]; exact hL.1.2.2.2.1
  · rw [hb 7 (by decide), bkA_ne (by decide)]; exact hL.1.2.2.2.2.1
  · rw [hb 8 (by decide)]; exact hL.1.2.2.2.2.2.1
  · rw [hb 9 (by decide)]; exact hL.1.2.2.2.2.2.2.1
  · rw [hb 10 (by decide)]; exact hL.1.2.2.2.2.2.2.2
  · intro i hi
    rw [hs0 i (by omega) 0 (by decide), hs0 i (by omega) 1 (by decide), hs0 i (by omega) 2 (by decide)]
    obtain ⟨a0, a1, a2, -⟩ := hL.2.1 i hi
    exact ⟨a0, a1, a2, hs i hi⟩
  · intro g hgg
    rw [hg0 g (by omega), hg0 g (by omega), hg0 g (by omega)]
    exact hL.2.2.1 g hgg
  · intro g hgg
    have := hI.2.2.1.2
    rw [hg0 g (by omega), hg0 g (by omega), hg0 g (by omega), hg0 g (by omega), hg0 g (by omega), hg0 g (by omega)]
    exact hL.2.2.2.1 g (by omega)
  · intro j hj
    rw [hsp, bkA_ne (by omega)]
    exact hL.2.2.2.2.1 j hj
  · intro g hgg
    rw [hg0 g hgg, hg0 g hgg]
    exact hL.2.2.2.2.2 g hgg
section LL
variable {M : Mm} {b : Nat} {s : Nat → Int32} {T : Int32 × Int32 × Int32}
theorem LG_backA (h : LG M b s T) (hI : Inv s) {p fi oi : Nat} (hp : nP s = p + 1) (efi : fi = fI s p) (eoi : oi = oI s p) (hgv : gO s p 4 = gO s p 0) : LG (sI (sI (sI (sI (sI (sI (M) b 5 (nI p)) (b + 4 + fi) 3 (ptsA s (p + 1) (nI fi) - gO s p 2)) (b + 4 + fi) 4 (nI (stkA s p (nI fi)))) (b + 4 + fi) 5 (tirA s p (nI fi))) (b + 4 + oi) 4 (nI (stkA s p (nI oi)))) (b + 4 + oi) 5 (tirA s p (nI oi))) b (bkA s) T ∧ FR b M (sI (sI (sI (sI (sI (sI (M) b 5 (nI p)) (b + 4 + fi) 3 (ptsA s (p + 1) (nI fi) - gO s p 2)) (b + 4 + fi) 4 (nI (stkA s p (nI fi)))) (b + 4 + fi) 5 (tirA s p (nI fi))) (b + 4 + oi) 4 (nI (stkA s p (nI oi)))) (b + 4 + oi) 5 (tirA s p (nI oi))) := by
  obtain ⟨hb, hX, hL⟩ := h
  have h6 := hI.1.2
  have h8 := hI.2.1.2
  have hpg := hI.2.2.1.2
  obtain ⟨q0, q1, q2, q3, q4, -⟩ := hI.2.2.2.2.1 p (by omega)
  rw [← efi] at q0 q2 q4
  rw [← eoi] at q1 q3 q4
  have hF : FR b M (sI (sI (sI (sI (sI (sI (M) b 5 (nI p)) (b + 4 + fi) 3 (ptsA s (p + 1) (nI fi) - gO s p 2)) (b + 4 + fi) 4 (nI (stkA s p (nI fi)))) (b + 4 + fi) 5 (tirA s p (nI fi))) (b + 4 + oi) 4 (nI (stkA s p (nI oi)))) (b + 4 + oi) 5 (tirA s p (nI oi))) := by
    repeat (first | exact fr_rf | refine fr_sI ?_ (by omega) (by omega))
  refine ⟨⟨hb, fr_XL hF hX, LD.of_back hI hp hX hL hF ?_ ?_ ?_ ?_ ?_ ?_⟩, hF⟩
  · intro k hk
    rw [rdN (by omega), rdN (by omega), rdN (by omega), rdN (by omega), rdN (by omega), rdK hk]
  · rw [rdN (by omega), rdN (by omega), rdN (by omega), rdN (by omega), rdN (by omega), rdE]
  · intro k
    rw [rdN (by omega), rdN (by omega), rdN (by omega), rdN (by omega), rdN (by omega), rdN (by omega)]
  · intro j hj k hk
    by_cases c1 : j = fi
    · subst c1
      rw [rdN (by omega), rdN (by omega), rdK (by omega), rdK (by omega), rdK (by omega), rdN (by omega)]
    · by_cases c2 : j = oi
      · subst c2
        rw [rdK (by omega), rdK (by omega), rdN (by omega), rdN (by omega), rdN (by omega), rdN (by omega)]
      · rw [rdN (by omega), rdN (by omega), rdN (by omega), rdN (by omega), rdN (by omega), rdN (by omega)]
  · intro j hj
    have a3 := (hL.2.1 j hj).2.2.2.1
    have a4 := (hL.2.1 j hj).2.2.2.2.1
    have a5 := (hL.2.1 j hj).2.2.2.2.2
    rw [hp] at a3 a4 a5
    by_cases c1 : j = fi
    · subst c1
      rw [rdN (by omega), rdN (by omega), rdK (by decide), rdK (by decide), rdE, rdN (by omega), rdN (by omega), rdK (by decide), rdE, rdN (by omega), rdN (by omega), rdE]
      refine ⟨?_, rfl, rfl⟩
      simp only [ptsA, hgv, if_pos q0]
      rw [Int32.add_sub_cancel]
    · by_cases c2 : j = oi
      · subst c2
        have c9 : ¬ gO s p 0 = nI j := fun z => by rw [q0] at z; exact absurd ((nI_eq (by omega) (by omega)).mp z) (by omega)
        rw [rdK (by decide), rdK (by decide), rdN (by omega), rdN (by omega), rdN (by omega), rdN (by omega), rdK (by decide), rdE, rdE, a3]
        refine ⟨?_, rfl, rfl⟩
        simp only [ptsA, hgv, if_neg c9]
        rw [Int32.add_zero]
      · have d0 : ¬ gO s p 0 = nI j := fun z => by rw [q0] at z; exact absurd ((nI_eq (by omega) (by omega)).mp z) (by omega)
        have d1 : ¬ gO s p 1 = nI j := fun z => by rw [q1] at z; exact absurd ((nI_eq (by omega) (by omega)).mp z) (by omega)
        have cp : ¬ plA s (nI j) p := fun z => z.elim d0 d1
        rw [rdN (by omega), rdN (by omega), rdN (by omega), rdN (by omega), rdN (by omega), rdN (by omega), rdN (by omega), rdN (by omega), rdN (by omega), rdN (by omega), rdN (by omega), rdN (by omega), rdN (by omega), rdN (by omega), rdN (by omega), rdN (by omega), rdN (by omega), rdN (by omega), a3, a4, a5]
        refine ⟨?_, ?_, ?_⟩
        · simp only [ptsA, hgv, if_neg d0]
          rw [Int32.add_zero]
        · simp only [stkA, if_neg cp]
        · simp only [tirA, if_neg cp]
  · intro g hg8 k
    obtain ⟨-, t1, t2⟩ := hX.2.2.1 g hg8
    rw [rdN (by omega), rdN (by omega), rdN (by omega), rdN (by omega), rdN (by omega), rdN (by omega)]
theorem LG_backB (h : LG M b s T) (hI : Inv s) {p fi oi : Nat} (hp : nP s = p + 1) (efi : fi = fI s p) (eoi : oi = oI s p) (hgv : gO s p 4 = gO s p 1) : LG (sI (sI (sI (sI (sI (sI (M) b 5 (nI p)) (b + 4 + oi) 3 (ptsA s (p + 1) (nI oi) - gO s p 2)) (b + 4 + fi) 4 (nI (stkA s p (nI fi)))) (b + 4 + fi) 5 (tirA s p (nI fi))) (b + 4 + oi) 4 (nI (stkA s p (nI oi)))) (b + 4 + oi) 5 (tirA s p (nI oi))) b (bkA s) T ∧ FR b M (sI (sI (sI (sI (sI (sI (M) b 5 (nI p)) (b + 4 + oi) 3 (ptsA s (p + 1) (nI oi) - gO s p 2)) (b + 4 + fi) 4 (nI (stkA s p (nI fi)))) (b + 4 + fi) 5 (tirA s p (nI fi))) (b + 4 + oi) 4 (nI (stkA s p (nI oi)))) (b + 4 + oi) 5 (tirA s p (nI oi))) := by
  obtain ⟨hb, hX, hL⟩ := h
  have h6 := hI.1.2
  have h8 := hI.2.1.2
  have hpg := hI.2.2.1.2
  obtain ⟨q0, q1, q2, q3, q4, -⟩ := hI.2.2.2.2.1 p (by omega)
  rw [← efi] at q0 q2 q4
  rw [← eoi] at q1 q3 q4
  have hF : FR b M (sI (sI (sI (sI (sI (sI (M) b 5 (nI p)) (b + 4 + oi) 3 (ptsA s (p + 1) (nI oi) - gO s p 2)) (b + 4 + fi) 4 (nI (stkA s p (nI fi)))) (b + 4 + fi) 5 (tirA s p (nI fi))) (b + 4 + oi) 4 (nI (stkA s p (nI oi)))) (b + 4 + oi) 5 (tirA s p (nI oi))) := by
    repeat (first | exact fr_rf | refine fr_sI ?_ (by omega) (by omega))
  refine ⟨⟨hb, fr_XL hF hX, LD.of_back hI hp hX hL hF ?_ ?_ ?_ ?_ ?_ ?_⟩, hF⟩
  · intro k hk
    rw [rdN (by omega), rdN (by omega), rdN (by omega), rdN (by omega), rdN (by omega), rdK hk]
  · rw [rdN (by omega), rdN (by omega), rdN (by omega), rdN (by omega), rdN (by omega), rdE]
  · intro k
    rw [rdN (by omega), rdN (by omega), rdN (by omega), rdN (by omega), rdN (by omega), rdN (by omega)]
  · intro j hj k hk
    by_cases c1 : j = fi
    · subst c1
      rw [rdN (by omega), rdN (by omega), rdK (by omega), rdK (by omega), rdN (by omega), rdN (by omega)]
    · by_cases c2 : j = oi
      · subst c2
        rw [rdK (by omega), rdK (by omega), rdN (by omega), rdN (by omega), rdK (by omega), rdN (by omega)]
      · rw [rdN (by omega), rdN (by omega), rdN (by omega), rdN (by omega), rdN (by omega), rdN (by omega)]
  · intro j hj
    have a3 := (hL.2.1 j hj).2.2.2.1
    have a4 := (hL.2.1 j hj).2.2.2.2.1
    have a5 := (hL.2.1 j hj).2.2.2.2.2
    rw [hp] at a3 a4 a5
    by_cases c1 : j = fi
    · subst c1
      have c9 : ¬ gO s p 1 = nI j := fun z => by rw [q1] at z; exact absurd ((nI_eq (by omega) (by omega)).mp z) (by omega)
      rw [rdN (by omega), rdN (by omega), rdK (by decide), rdK (by decide), rdN (by omega), rdN (by omega), rdN (by omega), rdN (by omega), rdK (by decide), rdE, rdN (by omega), rdN (by omega), rdE, a3]
      refine ⟨?_, rfl, rfl⟩
      simp only [ptsA, hgv, if_neg c9]
      rw [Int32.add_zero]
    · by_cases c2 : j = oi
      · subst c2
        rw [rdK (by decide), rdK (by decide), rdN (by omega), rdN (by omega), rdE, rdK (by decide), rdE, rdE]
        refine ⟨?_, rfl, rfl⟩
        simp only [ptsA, hgv, if_pos q1]
        rw [Int32.add_sub_cancel]
      · have d0 : ¬ gO s p 0 = nI j := fun z => by rw [q0] at z; exact absurd ((nI_eq (by omega) (by omega)).mp z) (by omega)
        have d1 : ¬ gO s p 1 = nI j := fun z => by rw [q1] at z; exact absurd ((nI_eq (by omega) (by omega)).mp z) (by omega)
        have cp : ¬ plA s (nI j) p := fun z => z.elim d0 d1
        rw [rdN (by omega), rdN (by omega), rdN (by omega), rdN (by omega), rdN (by omega), rdN (by omega), rdN (by omega), rdN (by omega), rdN (by omega), rdN (by omega), rdN (by omega), rdN (by omega), rdN (by omega), rdN (by omega), rdN (by omega), rdN (by omega), rdN (by omega), rdN (by omega), a3, a4, a5]
        refine ⟨?_, ?_, ?_⟩
        · simp only [ptsA, hgv, if_neg d1]
          rw [Int32.add_zero]
        · simp only [stkA, if_neg cp]
        · simp only [tirA, if_neg cp]
  · intro g hg8 k
    obtain ⟨-, t1, t2⟩ := hX.2.2.1 g hg8
    rw [rdN (by omega), rdN (by omega), rdN (by omega), rdN (by omega), rdN (by omega), rdN (by omega)]
theorem X1_takeBack (h : LG M b s T) (hI : Inv s) {p : Nat} (hp : nP s = p + 1) : ∃ M', f_X1_takeBack M b = some (M', ()) ∧ LG M' b (bkA s) T ∧ FR b M M' := by
  obtain ⟨hb, hX, hL⟩ := id h
  have h6 := hI.1.2
  have h8 := hI.2.1.2
  have hpg := hI.2.2.1.2
  obtain ⟨q0, q1, q2, q3, q4, -⟩ := hI.2.2.2.2.1 p (by omega)
  obtain ⟨w0, w1, w2⟩ := hL.2.2.1 p (by omega)
  obtain ⟨-, w4, w5, w6, w7, w8⟩ := hL.2.2.2.1 p (by omega)
  obtain ⟨-, r1, r2⟩ := hX.2.2.1 p (by omega)
  have hgi := (hI.2.2.2.2.2.1 p (by omega)).2
  have hok := hX.go hb (g := p) (by omega)
  have kA := LG_backA (M := M) (b := b) (T := T) h hI hp rfl rfl
  have kB := LG_backB (M := M) (b := b) (T := T) h hI hp rfl rfl
  have af3 := (hL.2.1 _ q2).2.2.2.1
  have ao3 := (hL.2.1 _ q3).2.2.2.1
  rw [hp] at af3 ao3
  have h5 : M.1 b 5 = nI (p + 1) := by rw [hL.1.2.2.1, hI.2.2.1.1, hp]
  unfold f_X1_takeBack
  rw [gd_t (okB hb), h5, if_neg (nI_ne0 (by omega) (by omega)), nI_pred]
  simp only [lt, sI_r]
  rw [hX.1.2.1, Option.bind_some, rdE, gd_t (okGr hb (by omega)), hX.gm (by omega), Option.bind_some, hX.1.1, Option.bind_some, gd_t hok]
  rw [q0] at w5 w7
  rw [q1] at w6 w8
  generalize hfi : fI s p = fi at *
  generalize hoi : oI s p = oi at *
  generalize hq : gq M b p = q at *
  have rqb : ∀ (M0 : Mm) (k : Nat) (v : Int32) (c : Nat), (sI M0 b k v).1 q c = M0.1 q c := fun _ _ _ _ => rdN (by omega)
  have rqf : ∀ (M0 : Mm) (k : Nat) (v : Int32) (c : Nat), (sI M0 (b + 4 + fi) k v).1 q c = M0.1 q c := fun _ _ _ _ => rdN (by omega)
  have rqo : ∀ (M0 : Mm) (k : Nat) (v : Int32) (c : Nat), (sI M0 (b + 4 + oi) k v).1 q c = M0.1 q c := fun _ _ _ _ => rdN (by omega)
  have rfb : ∀ (M0 : Mm) (k : Nat) (v : Int32) (c : Nat), (sI M0 b k v).1 (b + 4 + fi) c = M0.1 (b + 4 + fi) c := fun _ _ _ _ => rdN (by omega)
  have rob : ∀ (M0 : Mm) (k : Nat) (v : Int32) (c : Nat), (sI M0 b k v).1 (b + 4 + oi) c = M0.1 (b + 4 + oi) c := fun _ _ _ _ => rdN (by omega)
  simp only [rqb, w4]
  rcases hgi with hz | hz
  · rw [hz, q0, gd_t (okSr hb (by omega)), hX.sd (by omega), Option.bind_some, gd_t (okSo hb (by omega)), Option.bind_some]
    try simp only [rqb, rqf, rfb, w0, w1, w2, w5, w6, w7, w8, q0, q1, af3]
    rw [gd_t (okSr hb (by omega)), hX.sd (by omega), Option.bind_some, gd_t (okSo hb (by omega)), Option.bind_some]
    try simp only [rqb, rqf, rfb, w0, w1, w2, w5, w6, w7, w8, q0, q1]
    rw [gd_t (okSr hb (by omega)), hX.sd (by omega), Option.bind_some, gd_t (okSo hb (by omega))]
    try simp only [rqb, rqf, rfb, w0, w1, w2, w5, w6, w7, w8, q0, q1]
    rw [gd_t (tirA_bz _ _ _), Option.bind_some]
    try simp only [rqb, rqf, rfb, w0, w1, w2, w5, w6, w7, w8, q0, q1]
    rw [gd_t (okSr hb (by omega)), hX.sd (by omega), Option.bind_some, gd_t (okSo hb (by omega)), Option.bind_some]
    try simp only [rqb, rqf, rqo, rfb, w0, w1, w2, w5, w6, w7, w8, q0, q1]
    rw [gd_t (okSr hb (by omega)), hX.sd (by omega), Option.bind_some, gd_t (okSo hb (by omega))]
    try simp only [rqb, rqf, rqo, rfb, w0, w1, w2, w5, w6, w7, w8, q0, q1]
    rw [gd_t (tirA_bz _ _ _)]
    exact ⟨_, rfl, kA hz⟩
  · rw [hz, q1, gd_t (okSr hb (by omega)), hX.sd (by omega), Option.bind_some, gd_t (okSo hb (by omega)), Option.bind_some]
    try simp only [rqb, rqf, rqo, rob, w0, w1, w2, w5, w6, w7, w8, q0, q1, ao3]
    rw [gd_t (okSr hb (by omega)), hX.sd (by omega), Option.bind_some, gd_t (okSo hb (by omega)), Option.bind_some]
    try simp only [rqb, rqf, rqo, w0, w1, w2, w5, w6, w7, w8, q0, q1]
    rw [gd_t (okSr hb (by omega)), hX.sd (by omega), Option.bind_some, gd_t (okSo hb (by omega))]
    try simp only [rqb, rqf, rqo, w0, w1, w2, w5, w6, w7, w8, q0, q1]
    rw [gd_t (tirA_bz _ _ _), Option.bind_some]
    try simp only [rqb, rqf, rqo, w0, w1, w2, w5, w6, w7, w8, q0, q1]
    rw [gd_t (okSr hb (by omega)), hX.sd (by omega), Option.bind_some, gd_t (okSo hb (by omega)), Option.bind_some]
    try simp only [rqb, rqf, rqo, w0, w1, w2, w5, w6, w7, w8, q0, q1]
    rw [gd_t (okSr hb (by omega)), hX.sd (by omega), Option.bind_some, gd_t (okSo hb (by omega))]
    try simp only [rqb, rqf, rqo, w0, w1, w2, w5, w6, w7, w8, q0, q1]
    rw [gd_t (tirA_bz _ _ _)]
    exact ⟨_, rfl, kB hz⟩
end LL

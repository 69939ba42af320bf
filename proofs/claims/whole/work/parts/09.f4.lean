/-! ===== text: games, laws, an item ===== -/
theorem nsH {n : Nat} (h : n ≤ 6) : nI n - 1 < (1000 : Int32) := by
  match n, h with
  | 0, _ => decide
  | n + 1, h => rw [nI_pred]; exact nI_lt (b := 1000) (by omega) (by decide)
theorem nmA_ns {n t v : Nat} (h : n ≤ 6) (hv : v ≤ 9999) (hn : nmA t v 0 (nI n - 1)) : v < n := by
  match n, h with
  | 0, _ =>
    have := Int32.le_trans hn.2.1 hn.2.2
    exact absurd this (by decide)
  | n + 1, h =>
    have h2 := hn.2.2
    rw [nI_pred] at h2
    have := (nI_leI (by omega) (by omega)).mp h2
    omega
def yG (Y : Mm) : Option (Mm × Int32) := Option.bind (Y.2.2 0 0) (fun q28 => gd (okA nM shM q28 8 (1 : Int32)) (if Y.1 q28 (1 : Int32).toNatClampNeg = (8 : Int32) then (some (Y, (0 : Int32))) else (Option.bind (f_X7_nextToken Y 0) (fun r31 => Option.bind (f_X7_takesGame r31.1 0) (fun r32 => gd (bz r32.2) (some (r32.1, r32.2)))))))
section II
variable {B : Nat → Nat} {N p t b e v : Nat} {X Y X' Y' X2 Y2 : Mm}
theorem TK.vle (h : TK N p X Y t b e v) (ht : t = 2) : v ≤ 9999 := by
  obtain ⟨k1, k2, k3, k4, k5, k6, k7, k8, k9, k10, k11⟩ := h
  exact (k11 ht).2.2
theorem TK.pe (h : TK N p X Y t b e v) : p ≤ e := by
  obtain ⟨k1, k2, k3, k4, k5, k6, k7, k8, k9, k10, k11⟩ := h
  omega
theorem gameItem (hP : PS B N X Y) (hK : TK N p X Y t b e v) : IR B N e X Y (Option.bind (f_X4_readGame X 61 38) (fun r => gd (bz r.2) (some (r.1, r.2)))) (yG Y) := by
  obtain ⟨hT, hL, hI⟩ := id hP
  have h6 := hI.1.2
  have h8 := hI.2.1.2
  have e3 : X.1 38 3 = nI (nS (Y.1 1)) := hL.2.2.1.1.trans hI.1.1
  have e4 : X.1 38 4 = nI (nG (Y.1 1)) := hL.2.2.1.2.1.trans hI.2.1.1
  have g0 : ∀ {Z : Mm}, gd (bz (0 : Int32)) (some (Z, (0 : Int32))) = some (Z, 0) := fun {Z} => gd_t (show bz (0 : Int32) from Or.inl rfl)
  unfold f_X4_readGame yG
  rw [gd_t gX38', e4, hT.2.1.at 0 rfl, Option.bind_some, gd_t gA1, cl1, hI.2.1.1]
  by_cases c : nG (Y.1 1) < 8
  · rw [if_pos (show nI (nG (Y.1 1)) < (8 : Int32) from nI_lt (b := 8) c (by decide)), if_neg (show ¬ nI (nG (Y.1 1)) = (8 : Int32) from fun z => by have := (nI_eq (b := 8) (by omega) (by decide)).mp z; omega), gd_t gX61]
    obtain ⟨X1, Y1, t1, b1, e1, v1, a1, a2, a3, a4, a5, a6⟩ := go2 hP hK
    have y1 : Y1.1 1 = Y.1 1 := a3.2.2.2.2.1 1 (by decide)
    have x1 : X1.1 38 3 = nI (nS (Y.1 1)) := by rw [a3.2.2.1 38 (by decide)]; exact e3
    have he1 := a6.pe
    rw [a1, Option.bind_some, a2, Option.bind_some]
    unfold f_X7_takesGame
    dsimp only
    rw [x1, gd_t gM0, a5.1.2.1.at 0 rfl, Option.bind_some, gd_t gA0, show Y1.1 1 (0 : Int32).toNatClampNeg = nI (nS (Y.1 1)) by rw [cl0, y1]; exact hI.1.1]
    obtain ⟨n0, n1⟩ := num (lo := 0) (hi := nI (nS (Y.1 1)) - 1) a5 a6 (by decide) (nsH h6)
    by_cases d : nmA t1 v1 0 (nI (nS (Y.1 1)) - 1)
    · obtain ⟨q1, q2, X2, Y2, t2, b2, e2, v2, q3, q4, q5, q6, q7, q8⟩ := n1 d
      have hv1 := nmA_ns h6 (a6.vle d.1) d
      have y2 : Y2.1 1 = Y.1 1 := (q6.2.2.2.2.1 1 (by decide)).trans y1
      have x2 : X2.1 38 3 = nI (nS (Y.1 1)) := by rw [q6.2.2.1 38 (by decide)]; exact x1
      have he2 := q8.pe
      rw [q1, Option.bind_some, if_neg n10, q3, Option.bind_some, q4, Option.bind_some, if_neg n10, q2]
      dsimp only
      rw [q5, x2]
      obtain ⟨s1, s0⟩ := isNumber (lo := nI v1) (hi := nI v1) q8 (show nI v1 ≤ nI 1000 from nI_le (by omega) (by decide)) (show nI v1 < nI 1000 from nI_lt (by omega) (by decide))
      obtain ⟨m0, m1⟩ := num (lo := 0) (hi := nI (nS (Y.1 1)) - 1) q7 q8 (by decide) (nsH h6)
      by_cases f : nmA t2 v2 (nI v1) (nI v1)
      · obtain ⟨-, u2, -, -⟩ := s1 f
        have hv2 := q8.vle f.1
        have e21 : v2 = v1 := by
          have i1 := (nI_leI (by omega) (by omega)).mp f.2.1
          have i2 := (nI_leI (by omega) (by omega)).mp f.2.2
          omega
        have d2 : nmA t2 v2 0 (nI (nS (Y.1 1)) - 1) := ⟨f.1, by rw [e21]; exact d.2.1, by rw [e21]; exact d.2.2⟩
        obtain ⟨p1, p2, -⟩ := m1 d2
        rw [u2, Option.bind_some, if_neg n10, Option.bind_some, g0, p1, Option.bind_some, if_neg n10, if_pos (show X2.1 61 5 = nI v1 by rw [p2, e21]), Option.bind_some, g0]
        exact IR.no q7 q8 (a3.tr q6).fi
      · obtain ⟨-, u2⟩ := s0 f
        rw [u2, Option.bind_some, if_pos rfl]
        dsimp only
        rw [q7.1.2.1.at 0 rfl, Option.bind_some, gd_t gA0, show Y2.1 1 (0 : Int32).toNatClampNeg = nI (nS (Y.1 1)) by rw [cl0, y2]; exact hI.1.1]
        by_cases d2 : nmA t2 v2 0 (nI (nS (Y.1 1)) - 1)
        · obtain ⟨p1, p2, X3, Y3, t3, b3, e3', v3, r3, r4, r5, r6, r7, r8⟩ := m1 d2
          have hv2 := nmA_ns h6 (q8.vle d2.1) d2
          have hne : v1 ≠ v2 := fun z => f ⟨d2.1, by rw [z]; exact Int32.le_refl _, by rw [z]; exact Int32.le_refl _⟩
          have y3 : Y3.1 1 = Y.1 1 := (r6.2.2.2.2.1 1 (by decide)).trans y2
          have he3 := r8.pe
          rw [p1, Option.bind_some, if_neg n10, if_neg (show ¬ X2.1 61 5 = nI v1 by rw [p2]; exact fun z => hne ((nI_eq (by omega) (by omega)).mp z).symm), r3, Option.bind_some, r4, Option.bind_some, if_neg n10, p2]
          dsimp only
          rw [r5]
          rcases perhaps (lo := 1) (hi := 9) (df := 1) r7 r8 (i := 9) (by decide) (by decide) (by decide) with ⟨w1, w2⟩ | ⟨X4, Y4, Y5, t4, b4, e4', v4, w1, w2, w3, w4, ⟨w5, w6⟩ | ⟨u, u1, u2', w5, w6, w7⟩⟩
          · have w1' : f_X4_readPerhaps X3 61 9 1 9 1 = some (X3, 1) := w1
            rw [w1', Option.bind_some, if_pos (show (0 : Int32) ≤ 1 by decide), w2, Option.bind_some, if_pos rfl]
            obtain ⟨X', Y', r, z1, z2, z3, z4, z5, z6⟩ := r7.addG (w := 1) r8 (by rw [y3]; exact c) (by rw [y3]; exact hv1) (by rw [y3]; exact hv2) hne (by decide) (by decide) ((a3.tr q6).tr r6).fi (show e ≤ e2 by omega)
            have hr : bz r := z3
            refine ⟨X', Y', r, ?_, ?_, z3, z4, z5, z6⟩
            · rw [show (Option.bind (f_X1_addGame X3 38 (nI v1) (nI v2) 1) (fun r14 => some (r14.1, (1 : Int32)))) = _ from z1, Option.bind_some, gd_t hr]
            · rw [show f_X7_takesGame_b83 Y3 0 (nI v1) (nI v2) 1 = _ from z2, Option.bind_some, gd_t hr]
          · have w5' : f_X4_readPerhaps X3 61 9 1 9 1 = _ := w5
            have w6' : f_X7_takesNumber Y4 0 1 9 = _ := w6
            rw [w5', Option.bind_some, if_neg n01, Option.bind_some, g0, w1, Option.bind_some, if_neg n10, w6', Option.bind_some, if_pos rfl, Option.bind_some, g0]
            exact IR.no w3 w4 (((a3.tr q6).tr r6).tr w2).fi
          · have w5' : f_X4_readPerhaps X3 61 9 1 9 1 = _ := w5
            have w6' : f_X7_takesNumber Y4 0 1 9 = _ := w6
            rw [w5', Option.bind_some, if_pos (show (0 : Int32) ≤ nI u from Int32.not_lt.mp (nI_pos (by omega))), w1, Option.bind_some, if_neg n10, w6', Option.bind_some, if_neg n10]
            dsimp only
            rw [w7]
            have y5 : Y5.1 1 = Y.1 1 := (w2.2.2.2.2.1 1 (by decide)).trans y3
            obtain ⟨X', Y', r, z1, z2, z3, z4, z5, z6⟩ := w3.addG (w := u) w4 (by rw [y5]; exact c) (by rw [y5]; exact hv1) (by rw [y5]; exact hv2) hne u1 u2' (((a3.tr q6).tr r6).tr w2).fi (show e ≤ e3' by omega)
            have hr : bz r := z3
            refine ⟨X', Y', r, ?_, ?_, z3, z4, z5, z6⟩
            · rw [z1, Option.bind_some, gd_t hr]
            · rw [z2, Option.bind_some, gd_t hr]
        · obtain ⟨p1, p2⟩ := m0 d2
          rw [p1, Option.bind_some, if_pos rfl, Option.bind_some, g0, p2, Option.bind_some, if_pos rfl, Option.bind_some, g0]
          exact IR.no q7 q8 (a3.tr q6).fi
    · obtain ⟨q1, q2⟩ := n0 d
      rw [q1, Option.bind_some, if_pos rfl, Option.bind_some, g0, q2, Option.bind_some, if_pos rfl, Option.bind_some, g0]
      exact IR.no a5 a6 a3.fi
  · rw [if_neg (show ¬ nI (nG (Y.1 1)) < (8 : Int32) from nI_nlt (b := 8) (by omega) (by omega)), if_pos (show nI (nG (Y.1 1)) = (8 : Int32) by rw [show nG (Y.1 1) = 8 by omega]; rfl), Option.bind_some, g0]
    exact IR.no hP hK FI.rf
/-- a law, after its word -/
theorem lawItem (hP : PS B N X Y) (hK : TK N p X Y t b e v) {X1 Y1 : Mm} {t1 b1 e1 v1 : Nat} (a1 : f_X4_goOn X 61 = some (X1, ())) (a3 : FS X Y X1 Y1) (a5 : PS B N X1 Y1) (a6 : TK N e X1 Y1 t1 b1 e1 v1) : IR B N e X Y (f_X4_readLaw X 61 38) (Option.bind (f_X7_takesNumber Y1 0 (1 : Int32) (3 : Int32)) (fun r34 => if r34.2 = 0 then (some (r34.1, (0 : Int32))) else (Option.bind (r34.1.2.2 0 0) (fun q36 => gd (okA nM shM q36 8 (3 : Int32)) (lt (sI r34.1 q36 (3 : Int32).toNatClampNeg (r34.1.1 0 14)) (fun M38 => some (M38, (1 : Int32)))))))) := by
  obtain ⟨hT, hL, hI⟩ := id a5
  obtain ⟨hy, hn⟩ := isNumber (lo := 1) (hi := 3) a6 (by decide) (by decide)
  unfold f_X4_readLaw f_X7_takesNumber
  rw [gd_t gX61, a1, Option.bind_some, gd_t gM0]
  by_cases d : nmA t1 v1 1 3
  · obtain ⟨q1, q2, q3, q4⟩ := hy d
    have hv := a6.vle d.1
    have l1 : 1 ≤ v1 := (nI_leI (a := 1) (by decide) (by omega)).mp d.2.1
    have l3 : v1 ≤ 3 := (nI_leI (b := 3) (by omega) (by decide)).mp d.2.2
    obtain ⟨g1, g2⟩ := LG_own hL hI 3 (Or.inl rfl) (nI v1)
    have hF1 : FI X1 Y1 (sI X1 38 6 (nI v1)) (sI Y1 0 14 (nI v1)) := ⟨rfl, rfl, fun o h1 _ => sI_obj (by omega), by rw [sI_obj (by decide)], fun o h1 _ => sI_obj h1, fun k hk => rdK (by omega)⟩
    have hT1 := hT.fi hF1
    obtain ⟨k1, k2, k3, k4, k5, k6, k7, k8, k9, k10, k11⟩ := id a6
    obtain ⟨X', Y', t', b', e', v', z1, z2, z3, z4⟩ := goOn hT1 k10 (by rw [sI_obj (by decide)]; exact k6) (by rw [rdK (by decide)]; exact k7)
    have yr : Y'.1 1 = Y1.1 1 := (z3.2.2.2.2.1 1 (by decide)).trans (sI_obj (by decide))
    have y14 : Y'.1 0 14 = nI v1 := (z3.2.2.2.2.2 14 (by decide)).trans rdE
    have hI' : Inv (upd (Y1.1 1) 3 (nI v1)) := hI.law l1 l3
    have hFY : FI X' Y' X' (sI Y' 1 3 (nI v1)) := ⟨rfl, rfl, fun _ _ _ => rfl, rfl, fun o _ h => sI_obj h, fun k _ => by rw [sI_obj (by decide)]⟩
    have hT2 := (hT1.mv z3).fi hFY
    have r' : X'.2.2 = (sI X1 38 (3 + 3) (nI v1)).2.2 := by rw [z3.1]
    have hL' : LG X' 38 (upd (Y1.1 1) 3 (nI v1)) T0 := g1.at hI' r' (fun o h1 h2 => z3.2.2.1 o (by omega))
    have M' : RM Y' := (hT1.mv z3).2.1
    refine ⟨X', sI Y' 1 3 (nI v1), 1, ?_, ?_, Or.inr rfl, (a3.fi.tr hF1).tr (z3.fs.fi.tr hFY), ⟨hT2, by rw [sI_fun, yr]; exact hL', by rw [sI_fun, yr]; exact hI'⟩, e1, t', b', e', v', ?_, fun _ => a6.pe⟩
    · rw [q1, Option.bind_some, if_neg n10, gd_t gX38', lt, q3]
      rw [show f_X4_goOn (sI X1 38 6 (nI v1)) 61 = _ from z1, Option.bind_some]
    · rw [q2, Option.bind_some, if_neg n10, lt, q4, z2, Option.bind_some, Option.bind_some, if_neg n10]
      dsimp only
      rw [M'.at 0 rfl, Option.bind_some, gd_t gA3, cl3, y14, lt]
    · obtain ⟨k1, k2, k3, k4, k5, k6, k7, k8, k9, k10, k11⟩ := z4
      have y0 : (sI Y' 1 3 (nI v1)).1 0 = Y'.1 0 := sI_obj (by decide)
      unfold TK
      rw [y0]
      exact ⟨k1, k2, k3, k4, k5, k6, k7, k8, k9, k10, k11⟩
  · obtain ⟨q1, q2⟩ := hn d
    rw [q1, Option.bind_some, if_pos rfl, q2, Option.bind_some, if_pos rfl, Option.bind_some, if_pos rfl]
    exact IR.no a5 a6 a3.fi
end II

/-! ===== text: items ===== -/
/-- only the token and what was taken have changed -/
def FS (X Y X' Y' : Mm) : Prop := X'.2 = X.2 ∧ Y'.2 = Y.2 ∧ (∀ o, o ≠ 61 → X'.1 o = X.1 o) ∧ X'.1 61 1 = X.1 61 1 ∧ (∀ o, o ≠ 0 → Y'.1 o = Y.1 o) ∧ ∀ k, (k < 10 ∨ 14 < k) → Y'.1 0 k = Y.1 0 k
/-- what an item leaves as it was -/
def FI (X Y X' Y' : Mm) : Prop := X'.2 = X.2 ∧ Y'.2 = Y.2 ∧ (∀ o, (o < 38 ∨ 56 ≤ o) → o ≠ 61 → X'.1 o = X.1 o) ∧ X'.1 61 1 = X.1 61 1 ∧ (∀ o, o ≠ 0 → o ≠ 1 → Y'.1 o = Y.1 o) ∧ ∀ k, (k < 10 ∨ 14 < k) → Y'.1 0 k = Y.1 0 k
/-- the tapes are alike, and the trial league is the reference's row -/
def PS (B : Nat → Nat) (N : Nat) (X Y : Mm) : Prop := TC B N X Y ∧ LG X 38 (Y.1 1) T0 ∧ Inv (Y.1 1)
section II
variable {B : Nat → Nat} {N p t b e v : Nat} {X Y X' Y' X2 Y2 : Mm}
theorem FT.fs (h : FT X Y X' Y') : FS X Y X' Y' := ⟨h.1, h.2.1, h.2.2.1, h.2.2.2.1, h.2.2.2.2.1, fun k hk => h.2.2.2.2.2 k (by omega)⟩
theorem FS.rf : FS X Y X Y := FT.rf.fs
theorem FS.tr (h : FS X Y X' Y') (h2 : FS X' Y' X2 Y2) : FS X Y X2 Y2 := ⟨h2.1.trans h.1, h2.2.1.trans h.2.1, fun o a => (h2.2.2.1 o a).trans (h.2.2.1 o a), h2.2.2.2.1.trans h.2.2.2.1, fun o a => (h2.2.2.2.2.1 o a).trans (h.2.2.2.2.1 o a), fun o a => (h2.2.2.2.2.2 o a).trans (h.2.2.2.2.2 o a)⟩
theorem FS.fi (h : FS X Y X' Y') : FI X Y X' Y' := ⟨h.1, h.2.1, fun o _ a => h.2.2.1 o a, h.2.2.2.1, fun o a _ => h.2.2.2.2.1 o a, h.2.2.2.2.2⟩
theorem FI.rf : FI X Y X Y := FS.rf.fi
theorem FI.tr (h : FI X Y X' Y') (h2 : FI X' Y' X2 Y2) : FI X Y X2 Y2 := ⟨h2.1.trans h.1, h2.2.1.trans h.2.1, fun o a c => (h2.2.2.1 o a c).trans (h.2.2.1 o a c), h2.2.2.2.1.trans h.2.2.2.1, fun o a c => (h2.2.2.2.2.1 o a c).trans (h.2.2.2.2.1 o a c), fun o a => (h2.2.2.2.2.2 o a).trans (h.2.2.2.2.2 o a)⟩
theorem TC.fi (h : TC B N X Y) (hF : FI X Y X' Y') : TC B N X' Y' := ⟨by rw [hF.1]; exact h.1, by unfold RM; rw [hF.2.1]; exact h.2.1, h.2.2.1, hF.2.2.2.1.trans h.2.2.2.1, (hF.2.2.2.2.2 9 (by decide)).trans h.2.2.2.2.1, by rw [hF.2.2.1 62 (by decide) (by decide), hF.2.2.2.2.1 5 (by decide) (by decide)]; exact h.2.2.2.2.2⟩
theorem PS.fs (h : PS B N X Y) (hF : FS X Y X' Y') : PS B N X' Y' := by
  have e := hF.2.2.2.2.1 1 (by decide)
  refine ⟨h.1.fi hF.fi, ?_, by rw [e]; exact h.2.2⟩
  rw [e]
  exact h.2.1.at h.2.2 (by rw [hF.1]) (fun o _ _ => hF.2.2.1 o (by omega))
theorem TK.le {q : Nat} (h : TK N p X Y t b e v) (hq : q ≤ p) : TK N q X Y t b e v := by
  obtain ⟨k1, k2, k3, k4, k5, k6, k7, k8, k9⟩ := h
  exact ⟨k1, k2, k3, k4, k5, k6, k7, by omega, k9⟩
theorem go2 (hP : PS B N X Y) (hK : TK N p X Y t b e v) : ∃ X' Y' t' b' e' v', f_X4_goOn X 61 = some (X', ()) ∧ f_X7_nextToken Y 0 = some (Y', ()) ∧ FS X Y X' Y' ∧ Y'.1 0 14 = Y.1 0 14 ∧ PS B N X' Y' ∧ TK N e X' Y' t' b' e' v' := by
  obtain ⟨k1, k2, k3, k4, k5, k6, k7, k8, k9, k10, k11⟩ := hK
  obtain ⟨X', Y', t', b', e', v', e1, e2, e3, e4⟩ := goOn hP.1 k10 k6 k7
  exact ⟨X', Y', t', b', e', v', e1, e2, e3.fs, e3.2.2.2.2.2 14 (by decide), hP.fs e3.fs, e4⟩
theorem n10 : ¬ (1 : Int32) = 0 := by decide
theorem z00 : (0 : Int32) ≤ 0 := by decide
theorem n01 : ¬ (0 : Int32) ≤ -1 := by decide
theorem num (hP : PS B N X Y) (hK : TK N p X Y t b e v) {lo hi : Int32} (hl : lo ≤ 1000) (hh : hi < 1000) :
    (¬ nmA t v lo hi → f_X4_isNumber X 61 lo hi = some (X, 0) ∧ f_X7_takesNumber Y 0 lo hi = some (Y, 0)) ∧
    (nmA t v lo hi → f_X4_isNumber X 61 lo hi = some (X, 1) ∧ X.1 61 5 = nI v ∧ ∃ X' Y' t' b' e' v', f_X4_goOn X 61 = some (X', ()) ∧ f_X7_takesNumber Y 0 lo hi = some (Y', 1) ∧ Y'.1 0 14 = nI v ∧ FS X Y X' Y' ∧ PS B N X' Y' ∧ TK N e X' Y' t' b' e' v') := by
  obtain ⟨hy, hn⟩ := isNumber hK hl hh
  refine ⟨fun h => ?_, fun h => ?_⟩
  · obtain ⟨a1, a2⟩ := hn h
    refine ⟨a1, ?_⟩
    unfold f_X7_takesNumber
    rw [gd_t gM0, a2, Option.bind_some, if_pos rfl]
  · obtain ⟨a1, a2, a3, a4⟩ := hy h
    have hF : FS X Y X (sI Y 0 14 (nI v)) := ⟨rfl, rfl, fun _ _ => rfl, rfl, fun o ho => sI_obj ho, fun k hk => rdK (by omega)⟩
    have hK' : TK N p X (sI Y 0 14 (nI v)) t b e v := by
      obtain ⟨k1, k2, k3, k4, k5, k6, k7, k8, k9, k10, k11⟩ := hK
      exact ⟨k1, k2, by rw [rdK (by decide)]; exact k3, k4, by rw [rdK (by decide)]; exact k5, k6, by rw [rdK (by decide)]; exact k7, k8, k9, k10, fun z => by rw [rdK (by decide)]; exact k11 z⟩
    obtain ⟨X', Y', t', b', e', v', e1, e2, e3, e4, e5, e6⟩ := go2 (hP.fs hF) hK'
    refine ⟨a1, a3, X', Y', t', b', e', v', e1, ?_, e4.trans rdE, hF.tr e3, e5, e6⟩
    unfold f_X7_takesNumber
    rw [gd_t gM0, a2, Option.bind_some, if_neg n10, lt, a4, e2, Option.bind_some]
theorem wrd (hP : PS B N X Y) (hK : TK N p X Y t b e v) {i : Nat} (hi : i < 11) :
    (¬ wdA B t b e i = true → f_X4_isWord X 61 i = some (X, 0) ∧ f_X7_takes Y 0 i = some (Y, 0)) ∧
    (wdA B t b e i = true → f_X4_isWord X 61 i = some (X, 1) ∧ ∃ X' Y' t' b' e' v', f_X4_goOn X 61 = some (X', ()) ∧ f_X7_takes Y 0 i = some (Y', 1) ∧ Y'.1 0 14 = Y.1 0 14 ∧ FS X Y X' Y' ∧ PS B N X' Y' ∧ TK N e X' Y' t' b' e' v') := by
  obtain ⟨a1, a2⟩ := isWord hP.1 hK hi
  refine ⟨fun h => ?_, fun h => ?_⟩
  · rw [if_neg h] at a1 a2
    refine ⟨a1, ?_⟩
    unfold f_X7_takes
    rw [gd_t gM0, a2, Option.bind_some, if_pos rfl]
  · rw [if_pos h] at a1 a2
    obtain ⟨X', Y', t', b', e', v', e1, e2, e3, e4, e5, e6⟩ := go2 hP hK
    refine ⟨a1, X', Y', t', b', e', v', e1, ?_, e4, e3, e5, e6⟩
    unfold f_X7_takes
    rw [gd_t gM0, a2, Option.bind_some, if_neg n10, e2, Option.bind_some]
/-- a number that may follow a word -/
theorem perhaps (hP : PS B N X Y) (hK : TK N p X Y t b e v) {i lo hi df : Nat} (hi11 : i < 11) (hh : hi ≤ 9) (hl : lo ≤ 9) :
    (f_X4_readPerhaps X 61 i (nI lo) (nI hi) (nI df) = some (X, nI df) ∧ f_X7_takes Y 0 i = some (Y, 0)) ∨
    ∃ X' Y1 Y' t' b' e' v', f_X7_takes Y 0 i = some (Y1, 1) ∧ FS X Y X' Y' ∧ PS B N X' Y' ∧ TK N e X' Y' t' b' e' v' ∧
      ((f_X4_readPerhaps X 61 i (nI lo) (nI hi) (nI df) = some (X', -1) ∧ f_X7_takesNumber Y1 0 (nI lo) (nI hi) = some (Y', 0)) ∨
      ∃ u, lo ≤ u ∧ u ≤ hi ∧ f_X4_readPerhaps X 61 i (nI lo) (nI hi) (nI df) = some (X', nI u) ∧ f_X7_takesNumber Y1 0 (nI lo) (nI hi) = some (Y', 1) ∧ Y'.1 0 14 = nI u) := by
  obtain ⟨w0, w1⟩ := wrd hP hK hi11
  by_cases c : wdA B t b e i = true
  · obtain ⟨a1, X1, Y1, t1, b1, e1, v1, a2, a3, a4, a5, a6, a7⟩ := w1 c
    right
    obtain ⟨n0, n1⟩ := num (lo := nI lo) (hi := nI hi) a6 a7 (show nI lo ≤ nI 1000 from nI_le (by omega) (by decide)) (show nI hi < nI 1000 from nI_lt (by omega) (by decide))
    have he : e ≤ e1 := by
      obtain ⟨k1, k2, k3, k4, k5, k6, k7, k8, k9, k10, k11⟩ := a7
      omega
    by_cases d : nmA t1 v1 (nI lo) (nI hi)
    · obtain ⟨q1, q2, X', Y', t', b', e', v', q3, q4, q5, q6, q7, q8⟩ := n1 d
      have hv1 : v1 ≤ 9999 := by
        obtain ⟨k1, k2, k3, k4, k5, k6, k7, k8, k9, k10, k11⟩ := a7
        exact (k11 d.1).2.2
      refine ⟨X', Y1, Y', t', b', e', v', a3, a5.tr q6, q7, q8.le he, Or.inr ⟨v1, (nI_leI (by omega) (by omega)).mp d.2.1, (nI_leI (by omega) (by omega)).mp d.2.2, ?_, q4, q5⟩⟩
      unfold f_X4_readPerhaps
      rw [gd_t gX61, a1, Option.bind_some, if_neg n10, a2, Option.bind_some, q1, Option.bind_some, if_neg n10, q3, Option.bind_some, q2]
    · obtain ⟨q1, q2⟩ := n0 d
      refine ⟨X1, Y1, Y1, t1, b1, e1, v1, a3, a5, a6, a7, Or.inl ⟨?_, q2⟩⟩
      unfold f_X4_readPerhaps
      rw [gd_t gX61, a1, Option.bind_some, if_neg n10, a2, Option.bind_some, q1, Option.bind_some, if_pos rfl]
  · obtain ⟨a1, a2⟩ := w0 c
    left
    refine ⟨?_, a2⟩
    unfold f_X4_readPerhaps
    rw [gd_t gX61, a1, Option.bind_some, if_pos rfl]
/-- what an item gives -/
def IR (B : Nat → Nat) (N e : Nat) (X Y : Mm) (x y : Option (Mm × Int32)) : Prop := ∃ X' Y' r, x = some (X', r) ∧ y = some (Y', r) ∧ (r = 0 ∨ r = 1) ∧ FI X Y X' Y' ∧ PS B N X' Y' ∧ ∃ q t b e' v, TK N q X' Y' t b e' v ∧ (r = 1 → e ≤ q)
theorem IR.no (hP : PS B N X Y) (hK : TK N p X Y t b e v) {e0 : Nat} {X0 Y0 : Mm} (hF : FI X0 Y0 X Y) : IR B N e0 X0 Y0 (some (X, 0)) (some (Y, 0)) := ⟨X, Y, 0, rfl, rfl, Or.inl rfl, hF, hP, p, t, b, e, v, hK, fun z => absurd z (by decide)⟩
theorem PS.addS (hP : PS B N X Y) (hK : TK N p X Y t b e v) (h6 : nS (Y.1 1) < 6) {k st te : Nat} (hk : k ≤ 6) (hs1 : 1 ≤ st) (hs2 : st ≤ 9) (ht : te ≤ 9) {e0 : Nat} {X0 Y0 : Mm} (hF : FI X0 Y0 X Y) (he : e0 ≤ p) : IR B N e0 X0 Y0 (Option.bind (f_X1_addSide X 38 (nI k) (nI st) (nI te)) (fun r => some (r.1, 1))) (f_X7_takesSide_b45 Y 0 (nI k) (nI st) (nI te)) := by
  obtain ⟨hT, hL, hI⟩ := hP
  obtain ⟨X', a1, a2, a3⟩ := X1_addSide hL hI h6 (nI k) (nI st) (nI te)
  have hI' : Inv (adS (Y.1 1) (nI k) (nI st) (nI te)) := hI.addS h6 ⟨k, hk, rfl⟩ ⟨st, hs1, hs2, rfl⟩ ⟨te, ht, rfl⟩
  have hf : FI X Y X' (sA Y 1 (adS (Y.1 1) (nI k) (nI st) (nI te))) := ⟨a3.1, rfl, fun o h1 _ => a3.2 o (by omega), by rw [a3.2 61 (by decide)], fun o _ h => sA_ne h, fun k _ => by rw [sA_ne (by decide)]⟩
  refine ⟨X', sA Y 1 (adS (Y.1 1) (nI k) (nI st) (nI te)), 1, by rw [a1]; rfl, ?_, Or.inr rfl, hF.tr hf, ⟨hT.fi hf, by rw [sA_at]; exact a2, by rw [sA_at]; exact hI'⟩, p, t, b, e, v, ?_, fun _ => he⟩
  · unfold f_X7_takesSide_b45
    rw [gd_t gM0, X7_addSide hT.2.1 hI.1.1 h6, Option.bind_some]
  · obtain ⟨k1, k2, k3, k4, k5, k6, k7, k8, k9, k10, k11⟩ := hK
    have x61 : X'.1 61 = X.1 61 := a3.2 61 (by decide)
    have y0 : (sA Y 1 (adS (Y.1 1) (nI k) (nI st) (nI te))).1 0 = Y.1 0 := sA_ne (by decide)
    unfold TK
    rw [x61, y0]
    exact ⟨k1, k2, k3, k4, k5, k6, k7, k8, k9, k10, k11⟩
theorem PS.addG (hP : PS B N X Y) (hK : TK N p X Y t b e v) (h8 : nG (Y.1 1) < 8) {i j w : Nat} (hi : i < nS (Y.1 1)) (hj : j < nS (Y.1 1)) (hij : i ≠ j) (h1 : 1 ≤ w) (h9 : w ≤ 9) {e0 : Nat} {X0 Y0 : Mm} (hF : FI X0 Y0 X Y) (he : e0 ≤ p) : IR B N e0 X0 Y0 (Option.bind (f_X1_addGame X 38 (nI i) (nI j) (nI w)) (fun r => some (r.1, 1))) (f_X7_takesGame_b83 Y 0 (nI i) (nI j) (nI w)) := by
  obtain ⟨hT, hL, hI⟩ := hP
  obtain ⟨X', a1, a2, a3⟩ := X1_addGame hL hI h8 (nI i) (nI j) (nI w)
  have hI' : Inv (adG (Y.1 1) (nI i) (nI j) (nI w)) := hI.addG h8 rfl rfl hi hj hij ⟨w, h1, h9, rfl⟩
  have hf : FI X Y X' (sA Y 1 (adG (Y.1 1) (nI i) (nI j) (nI w))) := ⟨a3.1, rfl, fun o h1 _ => a3.2 o (by omega), by rw [a3.2 61 (by decide)], fun o _ h => sA_ne h, fun k _ => by rw [sA_ne (by decide)]⟩
  refine ⟨X', sA Y 1 (adG (Y.1 1) (nI i) (nI j) (nI w)), 1, by rw [a1]; rfl, ?_, Or.inr rfl, hF.tr hf, ⟨hT.fi hf, by rw [sA_at]; exact a2, by rw [sA_at]; exact hI'⟩, p, t, b, e, v, ?_, fun _ => he⟩
  · unfold f_X7_takesGame_b83
    rw [gd_t gM0, X7_addGame hT.2.1 hI.2.1.1 h8, Option.bind_some]
  · obtain ⟨k1, k2, k3, k4, k5, k6, k7, k8, k9, k10, k11⟩ := hK
    have x61 : X'.1 61 = X.1 61 := a3.2 61 (by decide)
    have y0 : (sA Y 1 (adG (Y.1 1) (nI i) (nI j) (nI w))).1 0 = Y.1 0 := sA_ne (by decide)
    unfold TK
    rw [x61, y0]
    exact ⟨k1, k2, k3, k4, k5, k6, k7, k8, k9, k10, k11⟩
theorem gX38' : ok nX shX 38 1 := by decide
theorem sideItem (hP : PS B N X Y) (hK : TK N p X Y t b e v) {k : Nat} (hk : k ≤ 6) : IR B N e X Y (f_X4_readSide X 61 38 (nI k)) (f_X7_takesItem_b156 Y 0 (nI k)) := by
  obtain ⟨hT, hL, hI⟩ := id hP
  have h6 := hI.1.2
  have e3 : X.1 38 3 = nI (nS (Y.1 1)) := hL.2.2.1.1.trans hI.1.1
  unfold f_X4_readSide f_X7_takesItem_b156
  rw [gd_t gX38', e3, if_neg (show ¬ nI k = (-1 : Int32) from fun z => absurd (show nI k < 0 by rw [z]; decide) (nI_pos (by omega))), gd_t gM0, hT.2.1.at 0 rfl, Option.bind_some, gd_t gA0, cl0, hI.1.1]
  by_cases c : nS (Y.1 1) < 6
  · rw [if_pos (show nI (nS (Y.1 1)) < (6 : Int32) from nI_lt (b := 6) c (by decide)), if_neg (show ¬ nI (nS (Y.1 1)) = (6 : Int32) from fun z => by have := (nI_eq (b := 6) (by omega) (by decide)).mp z; omega), gd_t gX61]
    obtain ⟨X1, Y1, t1, b1, e1, v1, a1, a2, a3, a4, a5, a6⟩ := go2 hP hK
    have y1 : Y1.1 1 = Y.1 1 := a3.2.2.2.2.1 1 (by decide)
    have he1 : e ≤ e1 := by
      obtain ⟨k1, k2, k3, k4, k5, k6, k7, k8, k9, k10, k11⟩ := a6
      omega
    rw [a1, Option.bind_some, a2, Option.bind_some]
    unfold f_X7_takesSide
    obtain ⟨n0, n1⟩ := num (lo := 1) (hi := 9) a5 a6 (by decide) (by decide)
    by_cases d : nmA t1 v1 1 9
    · obtain ⟨q1, q2, X2, Y2, t2, b2, e2, v2, q3, q4, q5, q6, q7, q8⟩ := n1 d
      have hv1 : v1 ≤ 9999 := by
        obtain ⟨k1, k2, k3, k4, k5, k6, k7, k8, k9, k10, k11⟩ := a6
        exact (k11 d.1).2.2
      have d1 : 1 ≤ v1 := (nI_leI (a := 1) (by decide) (by omega)).mp d.2.1
      have d9 : v1 ≤ 9 := (nI_leI (b := 9) (by omega) (by decide)).mp d.2.2
      have y2 : Y2.1 1 = Y.1 1 := (q6.2.2.2.2.1 1 (by decide)).trans y1
      have he2 : e1 ≤ e2 := by
        obtain ⟨k1, k2, k3, k4, k5, k6, k7, k8, k9, k10, k11⟩ := q8
        omega
      rw [q1, Option.bind_some, if_neg n10, q3, Option.bind_some, gd_t gM0, q4, Option.bind_some, if_neg n10, q2]
      dsimp only
      rw [q5]
      rcases perhaps (lo := 0) (hi := 9) (df := 0) q7 q8 (i := 7) (by decide) (by decide) (by decide) with ⟨w1, w2⟩ | ⟨X3, Y3, Y4, t4, b4, e4, v4, w1, w2, w3, w4, ⟨w5, w6⟩ | ⟨u, u1, u2, w5, w6, w7⟩⟩
      · have w1' : f_X4_readPerhaps X2 61 7 0 9 0 = some (X2, 0) := w1
        rw [w1', Option.bind_some, if_pos z00, w2, Option.bind_some, if_pos rfl]
        obtain ⟨X', Y', r, z1, z2, z3, z4, z5, z6⟩ := q7.addS (k := k) (st := v1) (te := 0) q8 (by rw [y2]; exact c) hk d1 d9 (by decide) (a3.tr q6).fi (show e ≤ e1 from he1)
        have hr : r = 0 ∨ r = 1 := z3
        refine ⟨X', Y', r, z1, ?_, z3, z4, z5, z6⟩
        rw [show f_X7_takesSide_b45 Y2 0 (nI k) (nI v1) 0 = _ from z2, Option.bind_some, gd_t hr]
      · have w5' : f_X4_readPerhaps X2 61 7 0 9 0 = _ := w5
        have w6' : f_X7_takesNumber Y3 0 0 9 = _ := w6
        rw [w5', Option.bind_some, if_neg n01, w1, Option.bind_some, if_neg n10, w6', Option.bind_some, if_pos rfl, Option.bind_some, gd_t (show bz (0 : Int32) from Or.inl rfl)]
        exact IR.no w3 w4 ((a3.tr q6).tr w2).fi
      · have w5' : f_X4_readPerhaps X2 61 7 0 9 0 = _ := w5
        have w6' : f_X7_takesNumber Y3 0 0 9 = _ := w6
        rw [w5', Option.bind_some, if_pos (show (0 : Int32) ≤ nI u from Int32.not_lt.mp (nI_pos (by omega))), w1, Option.bind_some, if_neg n10, w6', Option.bind_some, if_neg n10, w7]
        have y4 : Y4.1 1 = Y.1 1 := (w2.2.2.2.2.1 1 (by decide)).trans y2
        obtain ⟨X', Y', r, z1, z2, z3, z4, z5, z6⟩ := w3.addS (k := k) (st := v1) (te := u) w4 (by rw [y4]; exact c) hk d1 d9 u2 ((a3.tr q6).tr w2).fi (show e ≤ e2 by omega)
        have hr : r = 0 ∨ r = 1 := z3
        refine ⟨X', Y', r, z1, ?_, z3, z4, z5, z6⟩
        rw [z2, Option.bind_some, gd_t hr]
    · obtain ⟨q1, q2⟩ := n0 d
      rw [q1, Option.bind_some, if_pos rfl, gd_t gM0, q2, Option.bind_some, if_pos rfl, Option.bind_some, gd_t (show bz (0 : Int32) from Or.inl rfl)]
      exact IR.no a5 a6 a3.fi
  · rw [if_neg (show ¬ nI (nS (Y.1 1)) < (6 : Int32) from nI_nlt (b := 6) (by omega) (by omega)), if_pos (show nI (nS (Y.1 1)) = (6 : Int32) by rw [show nS (Y.1 1) = 6 by omega]; rfl)]
    exact IR.no hP hK FI.rf
end II

/-! ===== text: the whole method ===== -/
/-- the kind that the word tells, or -1 -/
def kdI (B : Nat → Nat) (t b e : Nat) : Int32 := if wdA B t b e 0 = true then 0 else if wdA B t b e 1 = true then 1 else if wdA B t b e 2 = true then 2 else if wdA B t b e 3 = true then 3 else if wdA B t b e 4 = true then 4 else if wdA B t b e 5 = true then 5 else if wdA B t b e 6 = true then 6 else -1
def kdY (Y : Mm) : Option (Mm × Int32) := Option.bind (f_X7_isWord Y 0 0) (fun r14 => if r14.2 = 0 then (Option.bind (f_X7_isWord r14.1 0 1) (fun r16 => if r16.2 = 0 then (Option.bind (f_X7_isWord r16.1 0 2) (fun r18 => if r18.2 = 0 then (Option.bind (f_X7_isWord r18.1 0 3) (fun r20 => if r20.2 = 0 then (Option.bind (f_X7_isWord r20.1 0 4) (fun r22 => if r22.2 = 0 then (Option.bind (f_X7_isWord r22.1 0 5) (fun r24 => if r24.2 = 0 then (Option.bind (f_X7_isWord r24.1 0 6) (fun r26 => if r26.2 = 0 then (f_X7_takesItem_b156 r26.1 0 (-1 : Int32)) else (f_X7_takesItem_b156 r26.1 0 (6 : Int32)))) else (f_X7_takesItem_b156 r24.1 0 (5 : Int32)))) else (f_X7_takesItem_b156 r22.1 0 (4 : Int32)))) else (f_X7_takesItem_b156 r20.1 0 (3 : Int32)))) else (f_X7_takesItem_b156 r18.1 0 (2 : Int32)))) else (f_X7_takesItem_b156 r16.1 0 (1 : Int32)))) else (f_X7_takesItem_b156 r14.1 0 (0 : Int32)))
section II
variable {B : Nat → Nat} {N p t b e v : Nat} {X Y X' Y' X2 Y2 : Mm}
theorem kdI_ok : kdI B t b e = -1 ∨ ∃ k, k ≤ 6 ∧ kdI B t b e = nI k ∧ wdA B t b e k = true := by
  unfold kdI
  by_cases c0 : wdA B t b e 0 = true
  · exact Or.inr ⟨0, by decide, by rw [if_pos c0]; rfl, c0⟩
  by_cases c1 : wdA B t b e 1 = true
  · exact Or.inr ⟨1, by decide, by rw [if_neg c0, if_pos c1]; rfl, c1⟩
  by_cases c2 : wdA B t b e 2 = true
  · exact Or.inr ⟨2, by decide, by rw [if_neg c0, if_neg c1, if_pos c2]; rfl, c2⟩
  by_cases c3 : wdA B t b e 3 = true
  · exact Or.inr ⟨3, by decide, by rw [if_neg c0, if_neg c1, if_neg c2, if_pos c3]; rfl, c3⟩
  by_cases c4 : wdA B t b e 4 = true
  · exact Or.inr ⟨4, by decide, by rw [if_neg c0, if_neg c1, if_neg c2, if_neg c3, if_pos c4]; rfl, c4⟩
  by_cases c5 : wdA B t b e 5 = true
  · exact Or.inr ⟨5, by decide, by rw [if_neg c0, if_neg c1, if_neg c2, if_neg c3, if_neg c4, if_pos c5]; rfl, c5⟩
  by_cases c6 : wdA B t b e 6 = true
  · exact Or.inr ⟨6, by decide, by rw [if_neg c0, if_neg c1, if_neg c2, if_neg c3, if_neg c4, if_neg c5, if_pos c6]; rfl, c6⟩
  exact Or.inl (by rw [if_neg c0, if_neg c1, if_neg c2, if_neg c3, if_neg c4, if_neg c5, if_neg c6])
theorem kdI_no {j : Nat} (hj : 6 < j) (h11 : j < 11) (h : wdA B t b e j = true) : kdI B t b e = -1 := by
  rcases kdI_ok (B := B) (t := t) (b := b) (e := e) with z | ⟨k, hk, -, z⟩
  · exact z
  · rw [wdA_one (i := j) (j := k) h11 (by omega) (by omega) h] at z
    cases z
theorem kind_x (hT : TC B N X Y) (hK : TK N p X Y t b e v) : f_X4_kindOfWord X 61 = some (X, kdI B t b e) := by
  unfold f_X4_kindOfWord kdI
  rw [gd_t gX61, (isWord hT hK (i := 0) (by decide)).1, Option.bind_some]
  dsimp only
  rw [iteB]
  by_cases c0 : wdA B t b e 0 = true
  · rw [if_pos c0, if_pos c0]
  rw [if_neg c0, if_neg c0, (isWord hT hK (i := 1) (by decide)).1, Option.bind_some]
  dsimp only
  rw [iteB]
  by_cases c1 : wdA B t b e 1 = true
  · rw [if_pos c1, if_pos c1]
  rw [if_neg c1, if_neg c1, (isWord hT hK (i := 2) (by decide)).1, Option.bind_some]
  dsimp only
  rw [iteB]
  by_cases c2 : wdA B t b e 2 = true
  · rw [if_pos c2, if_pos c2]
  rw [if_neg c2, if_neg c2, (isWord hT hK (i := 3) (by decide)).1, Option.bind_some]
  dsimp only
  rw [iteB]
  by_cases c3 : wdA B t b e 3 = true
  · rw [if_pos c3, if_pos c3]
  rw [if_neg c3, if_neg c3, (isWord hT hK (i := 4) (by decide)).1, Option.bind_some]
  dsimp only
  rw [iteB]
  by_cases c4 : wdA B t b e 4 = true
  · rw [if_pos c4, if_pos c4]
  rw [if_neg c4, if_neg c4, (isWord hT hK (i := 5) (by decide)).1, Option.bind_some]
  dsimp only
  rw [iteB]
  by_cases c5 : wdA B t b e 5 = true
  · rw [if_pos c5, if_pos c5]
  rw [if_neg c5, if_neg c5, (isWord hT hK (i := 6) (by decide)).1, Option.bind_some]
  dsimp only
  rw [iteB]
  by_cases c6 : wdA B t b e 6 = true
  · rw [if_pos c6, if_pos c6]
  rw [if_neg c6, if_neg c6]
theorem kind_y (hT : TC B N X Y) (hK : TK N p X Y t b e v) : kdY Y = f_X7_takesItem_b156 Y 0 (kdI B t b e) := by
  unfold kdY kdI
  rw [(isWord hT hK (i := 0) (by decide)).2, Option.bind_some]
  dsimp only
  rw [iteB]
  by_cases c0 : wdA B t b e 0 = true
  · rw [if_pos c0, if_pos c0]
  rw [if_neg c0, if_neg c0, (isWord hT hK (i := 1) (by decide)).2, Option.bind_some]
  dsimp only
  rw [iteB]
  by_cases c1 : wdA B t b e 1 = true
  · rw [if_pos c1, if_pos c1]
  rw [if_neg c1, if_neg c1, (isWord hT hK (i := 2) (by decide)).2, Option.bind_some]
  dsimp only
  rw [iteB]
  by_cases c2 : wdA B t b e 2 = true
  · rw [if_pos c2, if_pos c2]
  rw [if_neg c2, if_neg c2, (isWord hT hK (i := 3) (by decide)).2, Option.bind_some]
  dsimp only
  rw [iteB]
  by_cases c3 : wdA B t b e 3 = true
  · rw [if_pos c3, if_pos c3]
  rw [if_neg c3, if_neg c3, (isWord hT hK (i := 4) (by decide)).2, Option.bind_some]
  dsimp only
  rw [iteB]
  by_cases c4 : wdA B t b e 4 = true
  · rw [if_pos c4, if_pos c4]
  rw [if_neg c4, if_neg c4, (isWord hT hK (i := 5) (by decide)).2, Option.bind_some]
  dsimp only
  rw [iteB]
  by_cases c5 : wdA B t b e 5 = true
  · rw [if_pos c5, if_pos c5]
  rw [if_neg c5, if_neg c5, (isWord hT hK (i := 6) (by decide)).2, Option.bind_some]
  dsimp only
  rw [iteB]
  by_cases c6 : wdA B t b e 6 = true
  · rw [if_pos c6, if_pos c6]
  rw [if_neg c6, if_neg c6]
theorem IR.le {e0 e1 : Nat} {x y : Option (Mm × Int32)} (h : IR B N e1 X Y x y) (he : e0 ≤ e1) : IR B N e0 X Y x y := by
  obtain ⟨X', Y', r, a1, a2, a3, a4, a5, q, t, b, e, v, a6, a7⟩ := h
  exact ⟨X', Y', r, a1, a2, a3, a4, a5, q, t, b, e, v, a6, fun z => Nat.le_trans he (a7 z)⟩
theorem n_1 : (-1 : Int32) < 0 := by decide
theorem readItem (hP : PS B N X Y) (hK : TK N p X Y t b e v) : IR B N (p + 3) X Y (f_X4_readItem X 61 38) (f_X7_takesItem Y 0) := by
  have hpb : p ≤ b := by
    obtain ⟨k1, k2, k3, k4, k5, k6, k7, k8, k9, k10, k11⟩ := hK
    exact k8
  have ky : f_X7_takesItem Y 0 = gd (ok nM shM 0 7) (Option.bind (f_X7_takes Y 0 10) (fun r9 => if r9.2 = 0 then (Option.bind (f_X7_isWord r9.1 0 8) (fun r12 => if r12.2 = 0 then kdY r12.1 else yG r12.1)) else (Option.bind (f_X7_takesNumber r9.1 0 (1 : Int32) (3 : Int32)) (fun r34 => if r34.2 = 0 then (some (r34.1, (0 : Int32))) else (Option.bind (r34.1.2.2 0 0) (fun q36 => gd (okA nM shM q36 8 (3 : Int32)) (lt (sI r34.1 q36 (3 : Int32).toNatClampNeg (r34.1.1 0 14)) (fun M38 => some (M38, (1 : Int32)))))))))) := rfl
  rw [ky, gd_t gM0]
  unfold f_X4_readItem
  rw [gd_t gX61, kind_x hP.1 hK, Option.bind_some]
  obtain ⟨l0, l1⟩ := wrd hP hK (i := 10) (by decide)
  have w8 := isWord hP.1 hK (i := 8) (by decide)
  by_cases c10 : wdA B t b e 10 = true
  · obtain ⟨a1, X1, Y1, t1, b1, e1, v1, a2, a3, a4, a5, a6, a7⟩ := l1 c10
    have h8 := wdA_one (i := 10) (j := 8) (by decide) (by decide) (by decide) c10
    have hl := (wdA_len (by decide) c10).2
    rw [h8, if_neg (by decide)] at w8
    rw [kdI_no (j := 10) (by decide) (by decide) c10, if_pos n_1, w8.1, Option.bind_some, if_pos rfl, a1, Option.bind_some, if_neg n10, a3, Option.bind_some, if_neg n10]
    obtain ⟨X', Y', r, z1, z2, z3, z4, z5, z6⟩ := (lawItem hP hK a2 a5 a6 a7).le (show p + 3 ≤ e by omega)
    refine ⟨X', Y', r, ?_, z2, z3, z4, z5, z6⟩
    rw [z1, Option.bind_some]
    rcases z3 with rfl | rfl
    · rw [if_pos rfl]
    · rw [if_neg n10]
  · obtain ⟨a1, a2⟩ := l0 c10
    rw [a2, Option.bind_some, if_pos rfl]
    by_cases c8 : wdA B t b e 8 = true
    · have hl := (wdA_len (by decide) c8).2
      rw [if_pos c8] at w8
      rw [kdI_no (j := 8) (by decide) (by decide) c8, if_pos n_1, w8.1, Option.bind_some, if_neg n10, w8.2, Option.bind_some, if_neg n10]
      exact (gameItem hP hK).le (show p + 3 ≤ e by omega)
    · rw [if_neg c8] at w8
      rw [w8.2, Option.bind_some, if_pos rfl]
      dsimp only
      rw [kind_y hP.1 hK]
      rcases kdI_ok (B := B) (t := t) (b := b) (e := e) with z | ⟨k, hk, z, zw⟩
      · rw [z, if_pos n_1, w8.1, Option.bind_some, if_pos rfl, a1, Option.bind_some, if_pos rfl]
        unfold f_X7_takesItem_b156
        rw [if_pos rfl]
        exact IR.no hP hK FI.rf
      · have hl := (wdA_len (by omega) zw).2
        rw [z, if_neg (nI_pos (by omega))]
        obtain ⟨X', Y', r, z1, z2, z3, z4, z5, z6⟩ := (sideItem hP hK hk).le (show p + 3 ≤ e by omega)
        refine ⟨X', Y', r, ?_, z2, z3, z4, z5, z6⟩
        rw [z1, Option.bind_some, gd_t (show bz r from z3)]
/-- what the whole reading leaves as it was -/
def FJ (X Y X' Y' : Mm) : Prop := X'.2 = X.2 ∧ Y'.2 = Y.2 ∧ (∀ o, (o < 38 ∨ 56 ≤ o) → o ≠ 61 → X'.1 o = X.1 o) ∧ (∀ o, o ≠ 0 → o ≠ 1 → Y'.1 o = Y.1 o) ∧ ∀ k, (k < 10 ∨ 15 < k) → Y'.1 0 k = Y.1 0 k
theorem FI.fj (h : FI X Y X' Y') : FJ X Y X' Y' := ⟨h.1, h.2.1, h.2.2.1, h.2.2.2.2.1, fun k hk => h.2.2.2.2.2 k (by omega)⟩
theorem FJ.tr (h : FJ X Y X' Y') (h2 : FJ X' Y' X2 Y2) : FJ X Y X2 Y2 := ⟨h2.1.trans h.1, h2.2.1.trans h.2.1, fun o a c => (h2.2.2.1 o a c).trans (h.2.2.1 o a c), fun o a c => (h2.2.2.2.1 o a c).trans (h.2.2.2.1 o a c), fun o a => (h2.2.2.2.2 o a).trans (h.2.2.2.2 o a)⟩
theorem items : ∀ (d c n m : Nat) (X Y : Mm) (p : Nat), N + 3 ≤ p + 3 * d → p ≤ N → 3 * c ≤ p → d < n → d + 1 < m → PS B N X Y → X.1 61 4 = nI p → Y.1 0 10 = nI p → Y.1 0 15 = nI c →
    ∃ X' Y' r k, f_X4_readInto_b7 n X 61 38 (nI (c + 1)) = some (X', r) ∧ Option.bind (f_X7_nextToken Y 0) (fun r2 => f_X7_takesAll_b16 m r2.1 0 1) = some (Y', k) ∧ FJ X Y X' Y' ∧ PS B N X' Y' ∧ ((k = 1 ∧ ∃ c', c' < 1000 ∧ r = nI c' ∧ Y'.1 0 15 = nI c') ∨ (k = 0 ∧ ∃ z, z ≤ 120 ∧ r = -1 - nI z ∧ Y'.1 0 12 = nI z)) := by
  intro d
  induction d with
  | zero => intro c n m X Y p h1 h2; omega
  | succ d ih =>
    intro c n m X Y p h1 h2 h3 h4 h5 hP hx hy h15
    obtain ⟨n, rfl⟩ : ∃ z, n = z + 1 := ⟨n - 1, by omega⟩
    obtain ⟨m, rfl⟩ : ∃ z, m = z + 1 := ⟨m - 1, by omega⟩
    have hN := hP.1.2.2.1
    obtain ⟨X1, Y1, t, b, e, v, a1, a2, a3, a4⟩ := goOn hP.1 h2 hx hy
    have hP1 := hP.fs a3.fs
    obtain ⟨X2, Y2, r, b1, b2, b3, b4, b5, q, t2, b2', e2, v2, b6, b7⟩ := readItem hP1 a4
    have y15 : Y2.1 0 15 = nI c := by rw [b4.2.2.2.2.2 15 (by decide), a3.2.2.2.2.2 15 (by decide)]; exact h15
    obtain ⟨k1, k2, k3, k4, k5, k6, k7, k8, k9, k10, k11⟩ := id b6
    have hF2 : FJ X Y X2 Y2 := (a3.fs.fi.tr b4).fj
    simp only [f_X4_readInto_b7, f_X7_takesAll_b16]
    rw [if_neg (show ¬ (120 : Int32) < nI (c + 1) from nI_nlt (a := 120) (by omega) (by decide)), gd_t gX61, a1, Option.bind_some, b1, Option.bind_some, a2, Option.bind_some, if_neg n10, gd_t gM0, b2, Option.bind_some]
    rcases b3 with rfl | rfl
    · rw [if_pos rfl, if_pos rfl]
      exact ⟨X2, Y2, _, 0, rfl, rfl, hF2, b5, Or.inr ⟨rfl, b2', by omega, by rw [k4], k5⟩⟩
    · have hq := b7 rfl
      have hF3 : FJ X2 Y2 X2 (sI Y2 0 15 (nI (c + 1))) := ⟨rfl, rfl, fun _ _ _ => rfl, fun o h _ => sI_obj h, fun k hk => rdK (by omega)⟩
      have y1 : (sI Y2 0 15 (nI (c + 1))).1 1 = Y2.1 1 := sI_obj (by decide)
      have hP3 : PS B N X2 (sI Y2 0 15 (nI (c + 1))) := by
        obtain ⟨⟨u1, u2, u3, u4, u5, u6⟩, u7, u8⟩ := b5
        exact ⟨⟨u1, u2, u3, u4, by rw [rdK (by decide)]; exact u5, by rw [sI_obj (by decide)]; exact u6⟩, by rw [y1]; exact u7, by rw [y1]; exact u8⟩
      rw [if_neg n10, if_neg n10, lt, y15, show nI c + (1 : Int32) = nI (c + 1) by rw [nI_1]]
      dsimp only
      rw [k2, rdK (show 11 ≠ 15 by decide), k3]
      have stop : ∀ Z : Mm, f_X7_takesAll_b52 (f_X7_takesAll_b16 m) Z 0 0 = if Z.1 0 11 = 0 then some (Z, 1) else some (Z, 0) := fun Z => by
        obtain ⟨m, rfl⟩ : ∃ z, m = z + 1 := ⟨m - 1, by omega⟩
        unfold f_X7_takesAll_b52
        simp only [f_X7_takesAll_b16]
        rw [if_pos trivial, if_pos trivial, gd_t gM0]
      by_cases c0 : t2 = 0
      · subst c0
        rw [if_pos (show nI 0 = (0 : Int32) from rfl), if_neg (show ¬ nI 0 = (3 : Int32) by decide), stop, rdK (show 11 ≠ 15 by decide), k3, if_pos (show nI 0 = (0 : Int32) from rfl)]
        exact ⟨X2, _, _, 1, rfl, rfl, hF2.tr hF3, hP3, Or.inl ⟨rfl, c + 1, by omega, rfl, rdE⟩⟩
      · rw [if_neg (show ¬ nI t2 = (0 : Int32) from fun z => c0 ((nI_eq (b := 0) (by omega) (by decide)).mp z))]
        by_cases c3 : t2 = 3
        · subst c3
          rw [if_pos (show nI 3 = (3 : Int32) from rfl), if_pos (show nI 3 = (3 : Int32) from rfl)]
          obtain ⟨X', Y', r', k, e1, e2', e3, e4, e5⟩ := ih (c + 1) n m X2 (sI Y2 0 15 (nI (c + 1))) e2 (by omega) (by omega) (by omega) (by omega) (by omega) hP3 k6 (by rw [rdK (by decide)]; exact k7) rdE
          refine ⟨X', Y', r', k, by rw [nI_1]; exact e1, ?_, (hF2.tr hF3).tr e3, e4, e5⟩
          unfold f_X7_takesAll_b52
          rw [if_neg n10, gd_t gM0]
          exact e2'
        · have c3' : ¬ nI t2 = (3 : Int32) := fun z => c3 ((nI_eq (b := 3) (by omega) (by decide)).mp z)
          rw [if_neg c3', if_neg c3', stop, rdK (show 11 ≠ 15 by decide), k3, if_neg (show ¬ nI t2 = (0 : Int32) from fun z => c0 ((nI_eq (b := 0) (by omega) (by decide)).mp z))]
          exact ⟨X2, _, _, 0, rfl, rfl, hF2.tr hF3, hP3, Or.inr ⟨rfl, b2', by omega, by rw [k4], by rw [rdK (by decide)]; exact k5⟩⟩
end II
section MM
variable {X Y X' Y' : Mm}
theorem Rel.text (h : Rel X Y) (hx : X'.2 = X.2) (hy : Y'.2 = Y.2) (ho : ∀ o, (o < 1 ∨ 19 ≤ o) → (o < 38 ∨ 56 ≤ o) → o ≠ 61 → X'.1 o = X.1 o) (y : ∀ o, o ≠ 0 → o ≠ 1 → o ≠ 3 → Y'.1 o = Y.1 o) (y0 : ∀ k, (k < 9 ∨ 15 < k) → Y'.1 0 k = Y.1 0 k) (hI : Inv (Y'.1 1)) (hL : LD X' 1 (Y'.1 1) T0) (hG : GB X' 38) (hT : TP X' Y') : Rel X' Y' := by
  obtain ⟨r1, r2, r3, r4, r5, r6, r7, r8, r9, r10, r11⟩ := h
  have hx' : X'.2.2 = X.2.2 := by rw [hx]
  exact ⟨r1.at hx', by unfold RM; rw [hy]; exact r2, hI, hL, r5.at r1.2.2.1 hx' (fun o h1 h2 => ho o (by omega) (by omega) (by omega)), hG, r7.at r1.2.2.1 hx' (fun o h1 h2 => ho o (by omega) (by omega) (by omega)) (by rw [ho 0 (by decide) (by decide) (by decide)]) (y0 3 (by decide)) (y 2 (by decide) (by decide) (by decide)), r8.at (ho 64 (by decide) (by decide) (by decide)) (y 4 (by decide) (by decide) (by decide)), hT, r10.at (fun o h1 h2 => ho o (by omega) (by omega) (by omega)) (y 14 (by decide) (by decide) (by decide)) (y 15 (by decide) (by decide) (by decide)) (y 16 (by decide) (by decide) (by decide)), by rw [y0 5 (by decide)]; exact r11⟩
theorem neg_z : ∀ z, z < 121 → (-1 : Int32) - nI z < 0 := by decide +kernel
theorem B_text (h : Rel X Y) : Both (f_X6_text X 0) (f_X7_text Y 0) := by
  have hI := h.inv
  have x0 := h.xq.1.1
  have x4 := h.xq.1.2.2.2.1
  have x5 := h.xq.1.2.2.2.2.1
  obtain ⟨N, hN, t1, t2, t3⟩ := h.2.2.2.2.2.2.2.2.1
  obtain ⟨X1, a1, a2, a3⟩ := become38 h
  have hF1 : XF X1 := h.1.at a3.out
  -- the tapes
  obtain ⟨Y1, hY1⟩ : ∃ Y1, Y1 = sA Y 3 (cpA (Y.1 1) (Y.1 3)) := ⟨_, rfl⟩
  obtain ⟨Xs, hXs⟩ : ∃ Xs, Xs = sI X1 61 4 0 := ⟨_, rfl⟩
  obtain ⟨Ys, hYs⟩ : ∃ Ys, Ys = sI (sI Y1 0 10 0) 0 15 0 := ⟨_, rfl⟩
  have ys1 : Ys.1 1 = Y.1 1 := by rw [hYs, sI_obj (by decide), sI_obj (by decide), hY1, sA_ne (by decide)]
  have ysr : Ys.2 = Y.2 := by rw [hYs, hY1]; rfl
  have yso : ∀ o, o ≠ 0 → o ≠ 3 → Ys.1 o = Y.1 o := fun o h1 h2 => by rw [hYs, sI_obj h1, sI_obj h1, hY1, sA_ne h2]
  have ys0 : ∀ k, k ≠ 10 → k ≠ 15 → Ys.1 0 k = Y.1 0 k := fun k h1 h2 => by rw [hYs, rdK h2, rdK h1, hY1, sA_ne (by decide)]
  have xso : ∀ o, (o < 38 ∨ 56 ≤ o) → o ≠ 61 → Xs.1 o = X.1 o := fun o h1 h2 => by rw [hXs, sI_obj h2, a3.2 o (by omega)]
  have xsr : Xs.2 = X.2 := by rw [hXs]; exact a3.1
  have hP : PS (fun k => (X.1 62 k).toNatClampNeg) N Xs Ys := by
    refine ⟨⟨by rw [show Xs.2.2 = X.2.2 by rw [xsr]]; exact h.xq.2.2.1, by unfold RM; rw [ysr]; exact h.rm, hN, by rw [hXs, rdK (by decide), a3.2 61 (by decide)]; exact t1, (ys0 9 (by decide) (by decide)).trans t2, fun k hk => ?_⟩, ?_, by rw [ys1]; exact hI⟩
    · obtain ⟨u1, c, u2, u3⟩ := t3 k hk
      have ec : (X.1 62 k).toNatClampNeg = c := by rw [u3, nI_clamp (by omega)]
      dsimp only
      rw [ec, xso 62 (by decide) (by decide), yso 5 (by decide) (by decide), ← u1, u3]
      exact ⟨rfl, rfl, u2⟩
    · rw [ys1]
      exact a2.at hI (by rw [hXs]; rfl) (fun o h1 h2 => by rw [hXs, sI_obj (by omega)])
  obtain ⟨X2, Y2, r, k, e1, e2, e3, e4, e5⟩ := items (N + 3) 0 1000 1000 Xs Ys 0 (by omega) (Nat.zero_le _) (by decide) (by omega) (by omega) hP (by rw [hXs, rdE]; rfl) (by rw [hYs, rdK (by decide), rdE]; rfl) (by rw [hYs, rdE]; rfl)
  have y2r : Y2.2 = Y.2 := e3.2.1.trans ysr
  have x2r : X2.2 = X.2 := e3.1.trans xsr
  have hM2 : RM Y2 := by unfold RM; rw [y2r]; exact h.rm
  have hF2 : XF X2 := h.1.at (by rw [x2r])
  have y2o : ∀ o, o ≠ 0 → o ≠ 1 → o ≠ 3 → Y2.1 o = Y.1 o := fun o h1 h2 h3 => by rw [e3.2.2.2.1 o h1 h2, yso o h1 h3]
  have y23 : Y2.1 3 = cpA (Y.1 1) (Y.1 3) := by rw [e3.2.2.2.1 3 (by decide) (by decide), hYs, sI_obj (by decide), sI_obj (by decide), hY1, sA_at]
  have y20 : ∀ k, (k < 9 ∨ 15 < k) → Y2.1 0 k = Y.1 0 k := fun k hk => by rw [e3.2.2.2.2 k (by omega), ys0 k (by omega) (by omega)]
  have x2o : ∀ o, (o < 38 ∨ 56 ≤ o) → o ≠ 61 → X2.1 o = X.1 o := fun o h1 h2 => by rw [e3.2.2.1 o h1 h2, xso o h1 h2]
  obtain ⟨p1, p2, p3⟩ := e4
  have gx : f_X6_text X 0 = if r < 0 then f_X6_text_b38 X2 0 r else Option.bind (f_X1_become X2 1 38) (fun r17 => f_X6_text_b38 r17.1 0 r) := by
    unfold f_X6_text f_X4_readInto
    rw [gd_t gX0, x4, Option.bind_some, x0, Option.bind_some, gd_t gX38, a1, Option.bind_some]
    dsimp only
    rw [hF1.1.1.2.2.2.2.1, Option.bind_some, hF1.1.1.2.2.2.1, Option.bind_some, gd_t gX61, gd_t gX61, lt, ← hXs, show f_X4_readInto_b7 1000 Xs 61 38 1 = _ from e1, Option.bind_some]
    dsimp only
    rw [hF2.1.1.1, hF2.1.1.2.2.2.1, Option.bind_some, Option.bind_some, gd_t gX1]
  have gy : f_X7_text Y 0 = if k = 0 then some (sA (sI Y2 0 9 0) 1 (cpA (Y2.1 3) (Y2.1 1)), (-1 : Int32) - Y2.1 0 12) else some (sI Y2 0 9 0, Y2.1 0 15) := by
    unfold f_X7_text f_X7_takesAll
    rw [gd_t gM0, h.m0, Option.bind_some, h.rm.at 2 rfl, Option.bind_some, X7_carry (by decide) (by decide) (by decide), Option.bind_some]
    dsimp only
    rw [← hY1, gd_t gM0, lt, lt, ← hYs, e2, Option.bind_some]
    dsimp only
    rw [lt]
    have M9 : RM (sI Y2 0 9 0) := hM2
    by_cases c : k = 0
    · rw [if_pos c, if_pos c, M9.at 2 rfl, Option.bind_some, M9.at 0 rfl, Option.bind_some, X7_carry (by decide) (by decide) (by decide), Option.bind_some]
      dsimp only
      rw [sA_ne (show 0 ≠ 1 by decide), rdK (by decide), sI_obj (by decide), sI_obj (by decide)]
    · rw [if_neg c, if_neg c, rdK (by decide)]
  rw [gx, gy]
  rcases e5 with ⟨rfl, c', q1, rfl, q3⟩ | ⟨rfl, z, q1, rfl, q3⟩
  · rw [if_neg (nI_pos (by omega)), if_neg n10]
    have hGB0 : GB X 1 := h.2.2.2.1.2.2.2.2.2
    have hGB1 : GB X2 1 := hGB0.at h.1.2.1 (by rw [x2r]) (fun o h1 h2 => x2o o (by omega) (by omega))
    obtain ⟨X3, b1, b2, b3⟩ := X1_become (a := 1) p2 p3 (Or.inl rfl) (by decide) hF2.2.1 hGB1
    have hF3 : XF X3 := hF2.at b3.out
    refine ⟨sI X3 61 1 0, sI Y2 0 9 0, nI c', ?_, by rw [q3], ?_⟩
    · rw [b1, Option.bind_some]
      unfold f_X6_text_b38
      dsimp only
      rw [gd_t gX0, hF3.1.1.2.2.2.2.1, Option.bind_some, gd_t gX61, lt]
    · have y1 : (sI Y2 0 9 0).1 1 = Y2.1 1 := sI_obj (by decide)
      refine h.text (by rw [show (sI X3 61 1 0).2 = X3.2 from rfl, b3.1]; exact x2r) y2r (fun o h1 h2 h3 => by rw [sI_obj h3, b3.2 o (by omega), x2o o h2 h3]) (fun o h1 h2 h3 => by rw [sI_obj h1, y2o o h1 h2 h3]) (fun k hk => by rw [rdK (by omega), y20 k hk]) (by rw [y1]; exact p3) ?_ ?_ ⟨0, by decide, rdE, rdE, fun k hk => absurd hk (by omega)⟩
      · rw [y1]
        exact b2.2.2.at p3 b2.2.1 rfl (fun o h1 h2 => sI_obj (by omega))
      · have hG : GB X2 38 := p2.2.2.2.2.2.2.2
        exact hG.at p2.2.1 (show (sI X3 61 1 0).2.2 = X2.2.2 from b3.out) (fun o h1 h2 => by rw [sI_obj (by omega), b3.2 o (by omega)])
  · rw [if_pos (neg_z z (by omega)), if_pos rfl]
    have sm : Sim (Y.1 1) ((sA (sI Y2 0 9 0) 1 (cpA (Y2.1 3) (Y2.1 1))).1 1) := by
      rw [sA_at]
      refine Sim.of89 (fun k hk => ?_)
      rw [cpA_in hk, y23, cpA_in hk]
    have hG : GB X2 38 := p2.2.2.2.2.2.2.2
    have hL0 : LD X 1 (Y.1 1) T0 := h.2.2.2.1
    have hLX : LD (sI X2 61 1 0) 1 (Y.1 1) T0 := hL0.at hI h.1.2.1 (show (sI X2 61 1 0).2.2 = X.2.2 by rw [sI_r, x2r]) (fun o h1 h2 => by rw [sI_obj (by omega), x2o o (by omega) (by omega)])
    refine ⟨sI X2 61 1 0, sA (sI Y2 0 9 0) 1 (cpA (Y2.1 3) (Y2.1 1)), (-1 : Int32) - nI z, ?_, by rw [q3], ?_⟩
    · unfold f_X6_text_b38
      rw [gd_t gX0, hF2.1.1.2.2.2.2.1, Option.bind_some, gd_t gX61, lt]
    · exact h.text (by rw [show (sI X2 61 1 0).2 = X2.2 from rfl]; exact x2r) y2r (fun o h1 h2 h3 => by rw [sI_obj h3, x2o o h2 h3]) (fun o h1 h2 h3 => by rw [sA_ne h2, sI_obj h1, y2o o h1 h2 h3]) (fun k hk => by rw [sA_ne (by decide), rdK (by omega), y20 k hk]) (sm.inv hI) (hLX.sim hI sm) (hG.at p2.2.1 rfl (fun o h1 h2 => sI_obj (by omega))) ⟨0, by decide, rdE, by rw [sA_ne (by decide), rdE]; rfl, fun k hk => absurd hk (by omega)⟩
end MM

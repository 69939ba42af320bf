/-! ===== text: the tokens ===== -/
/-- both tapes hold the bytes B -/
def TC (B : Nat → Nat) (N : Nat) (X Y : Mm) : Prop := X.2.2 61 0 = some 62 ∧ RM Y ∧ N ≤ 120 ∧ X.1 61 1 = nI N ∧ Y.1 0 9 = nI N ∧ ∀ k, k < N → X.1 62 k = nI (B k) ∧ Y.1 5 k = nI (B k) ∧ B k < 256
/-- only the token has changed -/
def FT (X Y X' Y' : Mm) : Prop := X'.2 = X.2 ∧ Y'.2 = Y.2 ∧ (∀ o, o ≠ 61 → X'.1 o = X.1 o) ∧ X'.1 61 1 = X.1 61 1 ∧ (∀ o, o ≠ 0 → Y'.1 o = Y.1 o) ∧ ∀ k, (k < 10 ∨ 13 < k) → Y'.1 0 k = Y.1 0 k
section TT
variable {B : Nat → Nat} {N : Nat} {X Y X' Y' X2 Y2 : Mm}
theorem FT.rf : FT X Y X Y := ⟨rfl, rfl, fun _ _ => rfl, rfl, fun _ _ => rfl, fun _ _ => rfl⟩
theorem FT.tr (h : FT X Y X' Y') (h2 : FT X' Y' X2 Y2) : FT X Y X2 Y2 := ⟨h2.1.trans h.1, h2.2.1.trans h.2.1, fun o a => (h2.2.2.1 o a).trans (h.2.2.1 o a), h2.2.2.2.1.trans h.2.2.2.1, fun o a => (h2.2.2.2.2.1 o a).trans (h.2.2.2.2.1 o a), fun o a => (h2.2.2.2.2.2 o a).trans (h.2.2.2.2.2 o a)⟩
theorem FT.w {a b : Nat} {u v : Int32} (ha : a ≠ 1) (hb : 10 ≤ b ∧ b ≤ 13) : FT X Y (sI X 61 a u) (sI Y 0 b v) := ⟨rfl, rfl, fun _ ho => sI_obj ho, rdK (by omega), fun _ ho => sI_obj ho, fun k hk => rdK (by omega)⟩
theorem FT.wx {a : Nat} {u : Int32} (ha : a ≠ 1) : FT X Y (sI X 61 a u) Y := ⟨rfl, rfl, fun _ ho => sI_obj ho, rdK (by omega), fun _ _ => rfl, fun _ _ => rfl⟩
theorem FT.wy {b : Nat} {v : Int32} (hb : 10 ≤ b ∧ b ≤ 13) : FT X Y X (sI Y 0 b v) := ⟨rfl, rfl, fun _ _ => rfl, rfl, fun _ ho => sI_obj ho, fun k hk => rdK (by omega)⟩
theorem TC.mv (h : TC B N X Y) (hF : FT X Y X' Y') : TC B N X' Y' := ⟨by rw [hF.1]; exact h.1, by unfold RM; rw [hF.2.1]; exact h.2.1, h.2.2.1, hF.2.2.2.1.trans h.2.2.2.1, (hF.2.2.2.2.2 9 (by decide)).trans h.2.2.2.2.1, by rw [hF.2.2.1 62 (by decide), hF.2.2.2.2.1 5 (by decide)]; exact h.2.2.2.2.2⟩
theorem g62 {k : Nat} (hk : k < 120) : okA nX shX 62 8 (nI k) := ⟨by decide, vin_nI (show k < 120 from hk) (by decide)⟩
theorem g5 {k : Nat} (hk : k < 120) : okA nM shM 5 8 (nI k) := ⟨by decide, vin_nI (show k < 120 from hk) (by decide)⟩
theorem TC.byte (h : TC B N X Y) {p : Nat} (hp : p ≤ 120) : f_X7_byteAt Y 0 (nI p) = some (Y, if N ≤ p then -1 else nI (B p)) := by
  obtain ⟨h1, h2, h3, h4, h5, h6⟩ := h
  unfold f_X7_byteAt
  rw [gd_t gM0, h5]
  by_cases c : N ≤ p
  · rw [if_pos c, if_pos (nI_le c (by omega))]
  · rw [if_neg c, if_neg (nI_ge (by omega) (by omega)), h2.at 8 rfl, Option.bind_some, gd_t (g5 (by omega)), nI_clamp (by omega), (h6 p (by omega)).2.1]
theorem X4_isLetter {M : Mm} {a : Int32} : f_X4_isLetter M a = some (M, if 97 ≤ a ∧ a ≤ 122 then 1 else 0) := by
  unfold f_X4_isLetter
  rw [rgA]
  split <;> rfl
theorem X4_isDigit {M : Mm} {a : Int32} : f_X4_isDigit M a = some (M, if 48 ≤ a ∧ a ≤ 57 then 1 else 0) := by
  unfold f_X4_isDigit
  rw [rgA]
  split <;> rfl
theorem no_1 {a b : Int32} (h : (-1 : Int32) < a) : ¬ (a ≤ (-1 : Int32) ∧ (-1 : Int32) ≤ b) := fun z => absurd h (Int32.not_lt.mpr z.1)
theorem letters : ∀ (d p n m : Nat) (X Y : Mm), p + d = N → d < n → d < m → TC B N X Y → X.1 61 4 = nI p → Y.1 0 10 = nI p →
    ∃ X' Y' q, f_X4_goOn_b98 n X 61 = some (X', ()) ∧ f_X7_nextToken_b71 m Y 0 = some (Y', ()) ∧ FT X Y X' Y' ∧ X'.1 61 4 = nI q ∧ Y'.1 0 10 = nI q ∧ p ≤ q ∧ q ≤ N ∧ (∀ k, k ≠ 4 → X'.1 61 k = X.1 61 k) ∧ ∀ k, k ≠ 10 → Y'.1 0 k = Y.1 0 k := by
  intro d
  induction d with
  | zero =>
    intro p n m X Y h1 h2 h3 hT hx hy
    obtain ⟨n, rfl⟩ : ∃ z, n = z + 1 := ⟨n - 1, by omega⟩
    obtain ⟨m, rfl⟩ : ∃ z, m = z + 1 := ⟨m - 1, by omega⟩
    have hN := hT.2.2.1
    refine ⟨X, Y, p, ?_, ?_, FT.rf, hx, hy, Nat.le_refl _, by omega, fun _ _ => rfl, fun _ _ => rfl⟩
    · simp only [f_X4_goOn_b98]
      rw [gd_t gX61, hT.2.2.2.1, hx, if_pos (nI_le (by omega) (by omega))]
    · simp only [f_X7_nextToken_b71]
      rw [gd_t gM0, hy, hT.byte (by omega), Option.bind_some, if_pos (by omega)]
      dsimp only
      rw [X7_in, Option.bind_some, if_neg (no_1 (by decide))]
      exact if_pos rfl
  | succ d ih =>
    intro p n m X Y h1 h2 h3 hT hx hy
    obtain ⟨n, rfl⟩ : ∃ z, n = z + 1 := ⟨n - 1, by omega⟩
    obtain ⟨m, rfl⟩ : ∃ z, m = z + 1 := ⟨m - 1, by omega⟩
    have hN := hT.2.2.1
    obtain ⟨b1, b2, b3⟩ := hT.2.2.2.2.2 p (by omega)
    simp only [f_X4_goOn_b98, f_X7_nextToken_b71]
    rw [gd_t gX61, hT.2.2.2.1, hx, if_neg (nI_ge (by omega) (by omega)), hT.1, Option.bind_some, gd_t (g62 (by omega)), nI_clamp (by omega), b1, X4_isLetter, Option.bind_some, gd_t gM0, hy, hT.byte (by omega), Option.bind_some, if_neg (show ¬ N ≤ p by omega)]
    dsimp only
    rw [X7_in, Option.bind_some]
    dsimp only
    rw [iteB, iteB]
    by_cases c : (97 : Int32) ≤ nI (B p) ∧ nI (B p) ≤ 122
    · rw [if_pos c, if_pos c, lt, lt, hx, hy, nI_1]
      obtain ⟨X', Y', q, e1, e2, e3, e4, e5, e6, e7, e8, e9⟩ := ih (p + 1) n m (sI X 61 4 (nI (p + 1))) (sI Y 0 10 (nI (p + 1))) (by omega) (by omega) (by omega) (hT.mv (FT.w (by decide) (by decide))) rdE rdE
      exact ⟨X', Y', q, e1, e2, (FT.w (by decide) (by decide)).tr e3, e4, e5, by omega, e7, fun k hk => by rw [e8 k hk, rdK hk], fun k hk => by rw [e9 k hk, rdK hk]⟩
    · rw [if_neg c, if_neg c]
      exact ⟨X, Y, p, rfl, rfl, FT.rf, hx, hy, Nat.le_refl _, by omega, fun _ _ => rfl, fun _ _ => rfl⟩
theorem dig_x {v b : Nat} (hv : v ≤ 9999) (hb : 48 ≤ b ∧ b ≤ 57) : nI (min v 1000) * (10 : Int32) + nI b - (48 : Int32) = nI (10 * min v 1000 + (b - 48)) := by
  obtain ⟨e, rfl⟩ : ∃ e, b = e + 48 := ⟨b - 48, by omega⟩
  rw [show (10 : Int32) = nI 10 from rfl, pk_mul, ← nI_add, show (48 : Int32) = nI 48 from rfl, ← Int32.add_assoc, Int32.add_sub_cancel, nI_add]
  congr 1
  omega
theorem dig_y {v b : Nat} (hb : 48 ≤ b ∧ b ≤ 57) : (10 : Int32) * nI v + nI b - (48 : Int32) = nI (10 * v + (b - 48)) := by
  obtain ⟨e, rfl⟩ : ∃ e, b = e + 48 := ⟨b - 48, by omega⟩
  rw [show (10 : Int32) = nI 10 from rfl, pk_mul, ← nI_add, show (48 : Int32) = nI 48 from rfl, ← Int32.add_assoc, Int32.add_sub_cancel, nI_add]
  congr 1
theorem dig_b {b : Nat} (h : b < 256) : ((48 : Int32) ≤ nI b ∧ nI b ≤ 57) ↔ (48 ≤ b ∧ b ≤ 57) := by
  rw [show (48 : Int32) = nI 48 from rfl, show (57 : Int32) = nI 57 from rfl, nI_leI (by decide) (by omega), nI_leI (by omega) (by decide)]
theorem digits : ∀ (d p n m v : Nat) (X Y : Mm), p + d = N → d < n → d < m → TC B N X Y → X.1 61 4 = nI p → Y.1 0 10 = nI p → v ≤ 9999 → X.1 61 5 = nI (min v 1000) → Y.1 0 13 = nI v →
    ∃ X' Y' q w, f_X4_goThroughDigits_b0 n X 61 = some (X', ()) ∧ f_X7_nextToken_b123 m Y 0 = some (Y', ()) ∧ FT X Y X' Y' ∧ X'.1 61 4 = nI q ∧ Y'.1 0 10 = nI q ∧ p ≤ q ∧ q ≤ N ∧ (p < q ∨ ¬ (p < N ∧ 48 ≤ B p ∧ B p ≤ 57)) ∧ w ≤ 9999 ∧ X'.1 61 5 = nI (min w 1000) ∧ Y'.1 0 13 = nI w ∧ (∀ k, k ≠ 4 → k ≠ 5 → X'.1 61 k = X.1 61 k) ∧ ∀ k, k ≠ 10 → k ≠ 13 → Y'.1 0 k = Y.1 0 k := by
  intro d
  induction d with
  | zero =>
    intro p n m v X Y h1 h2 h3 hT hx hy hv hx5 hy13
    obtain ⟨n, rfl⟩ : ∃ z, n = z + 1 := ⟨n - 1, by omega⟩
    obtain ⟨m, rfl⟩ : ∃ z, m = z + 1 := ⟨m - 1, by omega⟩
    have hN := hT.2.2.1
    refine ⟨X, Y, p, v, ?_, ?_, FT.rf, hx, hy, Nat.le_refl _, by omega, Or.inr (fun z => by omega), hv, hx5, hy13, fun _ _ _ => rfl, fun _ _ _ => rfl⟩
    · simp only [f_X4_goThroughDigits_b0]
      rw [gd_t gX61, hT.2.2.2.1, hx, if_pos (nI_le (by omega) (by omega))]
    · simp only [f_X7_nextToken_b123]
      rw [gd_t gM0, hy, hT.byte (by omega), Option.bind_some, if_pos (by omega)]
      dsimp only
      rw [X7_in, Option.bind_some, if_neg (no_1 (by decide))]
      exact if_pos rfl
  | succ d ih =>
    intro p n m v X Y h1 h2 h3 hT hx hy hv hx5 hy13
    obtain ⟨n, rfl⟩ : ∃ z, n = z + 1 := ⟨n - 1, by omega⟩
    obtain ⟨m, rfl⟩ : ∃ z, m = z + 1 := ⟨m - 1, by omega⟩
    have hN := hT.2.2.1
    obtain ⟨b1, b2, b3⟩ := hT.2.2.2.2.2 p (by omega)
    simp only [f_X4_goThroughDigits_b0, f_X7_nextToken_b123]
    have ec : (nI p).toNatClampNeg = p := nI_clamp (by omega)
    rw [gd_t gX61, hT.2.2.2.1, hx, if_neg (nI_ge (by omega) (by omega)), hT.1, Option.bind_some, gd_t (g62 (by omega)), ec, b1, X4_isDigit, Option.bind_some, gd_t gM0, hy, hT.byte (by omega), Option.bind_some, if_neg (show ¬ N ≤ p by omega)]
    dsimp only
    rw [X7_in, Option.bind_some]
    dsimp only
    rw [iteB, iteB]
    by_cases c : (48 : Int32) ≤ nI (B p) ∧ nI (B p) ≤ 57
    · have hb := (dig_b b3).mp c
      rw [if_pos c, if_pos c, hT.1, Option.bind_some, hx, gd_t (g62 (by omega)), lt, lt, hx5, ec, b1, dig_x hv hb]
      have fin : ∀ w, w ≤ 9999 → (if (1000 : Int32) < nI (10 * min v 1000 + (B p - 48)) then (1000 : Int32) else nI (10 * min v 1000 + (B p - 48))) = nI (min w 1000) → ∃ X' Y' q w', f_X4_goThroughDigits_b0 n (sI (sI X 61 5 (if (1000 : Int32) < nI (10 * min v 1000 + (B p - 48)) then (1000 : Int32) else nI (10 * min v 1000 + (B p - 48)))) 61 4 ((sI X 61 5 (if (1000 : Int32) < nI (10 * min v 1000 + (B p - 48)) then (1000 : Int32) else nI (10 * min v 1000 + (B p - 48)))).1 61 4 + 1)) 61 = some (X', ()) ∧ f_X7_nextToken_b178 (f_X7_nextToken_b123 m) Y 0 0 (nI w) = some (Y', ()) ∧ FT X Y X' Y' ∧ X'.1 61 4 = nI q ∧ Y'.1 0 10 = nI q ∧ p ≤ q ∧ q ≤ N ∧ (p < q ∨ ¬ (p < N ∧ 48 ≤ B p ∧ B p ≤ 57)) ∧ w' ≤ 9999 ∧ X'.1 61 5 = nI (min w' 1000) ∧ Y'.1 0 13 = nI w' ∧ (∀ k, k ≠ 4 → k ≠ 5 → X'.1 61 k = X.1 61 k) ∧ ∀ k, k ≠ 10 → k ≠ 13 → Y'.1 0 k = Y.1 0 k := by
        intro w hw e
        rw [e, rdK (by decide), hx, nI_1]
        have hF : FT X Y (sI (sI X 61 5 (nI (min w 1000))) 61 4 (nI (p + 1))) (sI (sI Y 0 13 (nI w)) 0 10 (nI (p + 1))) := (FT.w (by decide) (by decide)).tr (FT.w (by decide) (by decide))
        obtain ⟨X', Y', q, w', e1, e2, e3, e4, e5, e6, e7, -, e8, e9, e10, e11, e12⟩ := ih (p + 1) n m w _ _ (by omega) (by omega) (by omega) (hT.mv hF) rdE rdE hw (by rw [rdK (by decide), rdE]) (by rw [rdK (by decide), rdE])
        refine ⟨X', Y', q, w', e1, ?_, hF.tr e3, e4, e5, by omega, e7, Or.inl (by omega), e8, e9, e10, fun k k1 k2 => by rw [e11 k k1 k2, rdK k1, rdK k2], fun k k1 k2 => by rw [e12 k k1 k2, rdK k1, rdK k2]⟩
        unfold f_X7_nextToken_b178
        rw [gd_t gM0, lt, gd_t gM0, lt, rdK (by decide), hy, nI_1]
        exact e2
      by_cases cv : v ≤ 999
      · rw [if_pos (show Y.1 0 13 ≤ (999 : Int32) by rw [hy13]; exact nI_le (b := 999) cv (by decide)), hy, hT.byte (by omega), Option.bind_some, if_neg (show ¬ N ≤ p by omega)]
        dsimp only
        rw [hy13, dig_y hb]
        rw [if_pos c]
        refine fin _ (by omega) ?_
        by_cases cc : 10 * v + (B p - 48) ≤ 1000
        · rw [show min v 1000 = v by omega, if_neg (show ¬ (1000 : Int32) < nI (10 * v + (B p - 48)) from nI_nlt (a := 1000) cc (by decide)), show min (10 * v + (B p - 48)) 1000 = 10 * v + (B p - 48) by omega]
        · rw [show min v 1000 = v by omega, if_pos (show (1000 : Int32) < nI (10 * v + (B p - 48)) from nI_lt (a := 1000) (by omega) (by omega)), show min (10 * v + (B p - 48)) 1000 = 1000 by omega]
          rfl
      · rw [if_neg (show ¬ Y.1 0 13 ≤ (999 : Int32) by rw [hy13]; exact nI_ge (b := v) (a := 999) (by omega) (by omega)), hy13]
        rw [if_pos c]
        refine fin _ hv ?_
        rw [show min v 1000 = 1000 by omega, if_pos (show (1000 : Int32) < nI (10 * 1000 + (B p - 48)) from nI_lt (a := 1000) (by omega) (by omega))]
        rfl
    · rw [if_neg c, if_neg c]
      exact ⟨X, Y, p, v, rfl, rfl, FT.rf, hx, hy, Nat.le_refl _, by omega, Or.inr (fun z => c ((dig_b b3).mpr z.2)), hv, hx5, hy13, fun _ _ _ => rfl, fun _ _ _ => rfl⟩
/-- both stand at the same token -/
def TK (N p : Nat) (X Y : Mm) (t b e v : Nat) : Prop := t ≤ 4 ∧ X.1 61 2 = nI t ∧ Y.1 0 11 = nI t ∧ X.1 61 3 = nI b ∧ Y.1 0 12 = nI b ∧ X.1 61 4 = nI e ∧ Y.1 0 10 = nI e ∧ p ≤ b ∧ b ≤ e ∧ e ≤ N ∧ (t = 2 → Y.1 0 13 = nI v ∧ X.1 61 5 = nI (min v 1000) ∧ v ≤ 9999)
theorem tok_at {B : Nat → Nat} {N p : Nat} {X Y : Mm} (m : Nat) (hT : TC B N X Y) (hp : p ≤ N) (h32 : p < N → B p ≠ 32) (hx : X.1 61 3 = nI p) (hy : Y.1 0 10 = nI p) : ∃ X' Y' t e v, f_X4_goOn_b46 X 61 = some (X', ()) ∧ f_X7_nextToken_b0 (m + 1) Y 0 = some (Y', ()) ∧ FT X Y X' Y' ∧ TK N p X' Y' t p e v := by
  have hN := hT.2.2.1
  have hw : FT X Y (sI (sI X 61 4 (nI p)) 61 5 0) (sI Y 0 12 (nI p)) := (FT.w (by decide) (by decide)).tr (FT.wx (by decide))
  have hT' := hT.mv hw
  obtain ⟨X0, hX0⟩ : ∃ X0, X0 = sI (sI X 61 4 (nI p)) 61 5 0 := ⟨_, rfl⟩
  obtain ⟨Y0, hY0⟩ : ∃ Y0, Y0 = sI Y 0 12 (nI p) := ⟨_, rfl⟩
  rw [← hX0, ← hY0] at hw hT'
  have x1 := hT'.2.2.2.1
  have x3 : X0.1 61 3 = nI p := by rw [hX0, rdK (by decide), rdK (by decide)]; exact hx
  have x4 : X0.1 61 4 = nI p := by rw [hX0, rdK (by decide), rdE]
  have x5 : X0.1 61 5 = nI 0 := by rw [hX0, rdE]; rfl
  have y10 : Y0.1 0 10 = nI p := by rw [hY0, rdK (by decide)]; exact hy
  have y12 : Y0.1 0 12 = nI p := by rw [hY0, rdE]
  have ec : (nI p).toNatClampNeg = p := nI_clamp (by omega)
  have gx : f_X4_goOn_b46 X 61 = if X0.1 61 3 < X0.1 61 1 then (Option.bind (X0.2.2 61 0) (fun q16 => gd (okA nX shX q16 8 (X0.1 61 3)) (Option.bind (f_X4_isLetter X0 (X0.1 q16 (X0.1 61 3).toNatClampNeg)) (fun r18 => if r18.2 = 0 then (Option.bind (r18.1.2.2 61 0) (fun q20 => gd (okA nX shX q20 8 (r18.1.1 61 3)) (Option.bind (f_X4_isDigit r18.1 (r18.1.1 q20 (r18.1.1 61 3).toNatClampNeg)) (fun r22 => if r22.2 = 0 then (Option.bind (r22.1.2.2 61 0) (fun q24 => gd (okA nX shX q24 8 (r22.1.1 61 3)) (if r22.1.1 q24 (r22.1.1 61 3).toNatClampNeg = (59 : Int32) then (f_X4_goOn_b184 r22.1 61 61 (3 : Int32)) else (f_X4_goOn_b184 r22.1 61 61 (4 : Int32))))) else (lt (sI r22.1 61 2 (2 : Int32)) (fun M27 => Option.bind (f_X4_goThroughDigits M27 61) (fun r28 => some (r28.1, ())))))))) else (lt (sI r18.1 61 2 (1 : Int32)) (fun M29 => f_X4_goOn_b98 1000 M29 61)))))) else (lt (sI X0 61 2 (0 : Int32)) (fun M30 => some (M30, ()))) := by
    unfold f_X4_goOn_b46
    rw [gd_t gX61, lt, lt, hx, ← hX0]
  have hb : ¬ (if N ≤ p then (-1 : Int32) else nI (B p)) = 32 := by
    by_cases c : N ≤ p
    · rw [if_pos c]
      decide
    · rw [if_neg c]
      have := (hT.2.2.2.2.2 p (by omega)).2.2
      exact fun z => h32 (by omega) ((nI_eq (b := 32) (by omega) (by decide)).mp z)
  have gy : f_X7_nextToken_b0 (m + 1) Y 0 = Option.bind (f_X7_byteAt Y0 0 (Y0.1 0 10)) (fun r24 => if 0 ≤ r24.2 then (Option.bind (f_X7_in r24.1 r24.2 (97 : Int32) (122 : Int32)) (fun r26 => if r26.2 = 0 then (Option.bind (f_X7_in r26.1 r24.2 (48 : Int32) (57 : Int32)) (fun r28 => if r28.2 = 0 then (if r24.2 = (59 : Int32) then (f_X7_nextToken_b206 r28.1 0 0 (3 : Int32)) else (f_X7_nextToken_b206 r28.1 0 0 (4 : Int32))) else (lt (sI r28.1 0 11 (2 : Int32)) (fun M31 => lt (sI M31 0 13 (0 : Int32)) (fun M32 => f_X7_nextToken_b123 1000 M32 0))))) else (lt (sI r26.1 0 11 (1 : Int32)) (fun M33 => f_X7_nextToken_b71 1000 M33 0)))) else (lt (sI r24.1 0 11 (0 : Int32)) (fun M34 => some (M34, ())))) := by
    simp only [f_X7_nextToken_b0]
    rw [gd_t gM0, hy, hT.byte (by omega), Option.bind_some]
    dsimp only
    rw [if_neg hb, lt, hy, ← hY0]
  rw [gx, gy, y10, hT'.byte (by omega), Option.bind_some, x1, x3]
  dsimp only
  by_cases c : N ≤ p
  · rw [if_pos c, if_neg (nI_nlt c (by omega)), if_neg (by decide), lt, lt]
    refine ⟨_, _, 0, p, 0, rfl, rfl, hw.tr (FT.w (by decide) (by decide)), by decide, rdE, rdE, by rw [rdK (by decide)]; exact x3, by rw [rdK (by decide)]; exact y12, by rw [rdK (by decide)]; exact x4, by rw [rdK (by decide)]; exact y10, Nat.le_refl _, Nat.le_refl _, hp, fun z => absurd z (by decide)⟩
  · obtain ⟨b1, b2, b3⟩ := hT'.2.2.2.2.2 p (by omega)
    rw [if_neg c, if_pos (nI_lt (by omega) (by omega)), if_pos (Int32.not_lt.mp (nI_pos (by omega))), hT'.1, Option.bind_some, gd_t (g62 (by omega)), ec, b1, X4_isLetter, Option.bind_some, X7_in, Option.bind_some]
    dsimp only
    rw [iteB, iteB]
    by_cases c1 : (97 : Int32) ≤ nI (B p) ∧ nI (B p) ≤ 122
    · rw [if_pos c1, if_pos c1, lt, lt]
      obtain ⟨X', Y', q, e1, e2, e3, e4, e5, e6, e7, e8, e9⟩ := letters (N - p) p 1000 1000 (sI X0 61 2 1) (sI Y0 0 11 1) (by omega) (by omega) (by omega) (hT'.mv (FT.w (by decide) (by decide))) (by rw [rdK (by decide)]; exact x4) (by rw [rdK (by decide)]; exact y10)
      refine ⟨X', Y', 1, q, 0, e1, e2, hw.tr ((FT.w (by decide) (by decide)).tr e3), by decide, ?_, ?_, ?_, ?_, e4, e5, Nat.le_refl _, e6, e7, fun z => absurd z (by decide)⟩
      · rw [e8 2 (by decide), rdE]; rfl
      · rw [e9 11 (by decide), rdE]; rfl
      · rw [e8 3 (by decide), rdK (by decide)]; exact x3
      · rw [e9 12 (by decide), rdK (by decide)]; exact y12
    · rw [if_neg c1, if_neg c1, hT'.1, Option.bind_some, x3, gd_t (g62 (by omega)), ec, b1, X4_isDigit, Option.bind_some, X7_in, Option.bind_some]
      dsimp only
      rw [iteB, iteB]
      by_cases c2 : (48 : Int32) ≤ nI (B p) ∧ nI (B p) ≤ 57
      · rw [if_pos c2, if_neg c1, if_pos c2, lt, lt, lt]
        obtain ⟨X', Y', q, w, e1, e2, e3, e4, e5, e6, e7, -, e8, e9, e10, e11, e12⟩ := digits (N - p) p 1000 1000 0 (sI X0 61 2 2) (sI (sI Y0 0 11 2) 0 13 0) (by omega) (by omega) (by omega) (hT'.mv ((FT.w (by decide) (by decide)).tr (FT.wy (by decide)))) (by rw [rdK (by decide)]; exact x4) (by rw [rdK (by decide), rdK (by decide)]; exact y10) (by decide) (by rw [rdK (by decide)]; exact x5) (by rw [rdE]; rfl)
        refine ⟨X', Y', 2, q, w, ?_, e2, hw.tr (((FT.w (by decide) (by decide)).tr (FT.wy (by decide))).tr e3), by decide, ?_, ?_, ?_, ?_, e4, e5, Nat.le_refl _, e6, e7, fun _ => ⟨e10, e9, e8⟩⟩
        · unfold f_X4_goThroughDigits
          rw [e1]
          rfl
        · rw [e11 2 (by decide) (by decide), rdE]; rfl
        · rw [e12 11 (by decide) (by decide), rdK (by decide), rdE]; rfl
        · rw [e11 3 (by decide) (by decide), rdK (by decide)]; exact x3
        · rw [e12 12 (by decide) (by decide), rdK (by decide), rdK (by decide)]; exact y12
      · rw [if_neg c2, if_neg c2, hT'.1, Option.bind_some, x3, gd_t (g62 (by omega)), ec, b1]
        have fin : ∀ t : Nat, t = 3 ∨ t = 4 → ∃ X' Y' t' e v, f_X4_goOn_b184 X0 61 61 (nI t) = some (X', ()) ∧ f_X7_nextToken_b206 Y0 0 0 (nI t) = some (Y', ()) ∧ FT X Y X' Y' ∧ TK N p X' Y' t' p e v := by
          intro t ht
          unfold f_X4_goOn_b184 f_X7_nextToken_b206
          rw [gd_t gX61, lt, gd_t gX61, lt, gd_t gM0, lt, gd_t gM0, lt, rdK (by decide), x4, rdK (by decide), y10, nI_1]
          refine ⟨_, _, t, p + 1, 0, rfl, rfl, hw.tr ((FT.w (by decide) (by decide)).tr (FT.w (by decide) (by decide))), by omega, by rw [rdK (by decide), rdE], by rw [rdK (by decide), rdE], by rw [rdK (by decide), rdK (by decide)]; exact x3, by rw [rdK (by decide), rdK (by decide)]; exact y12, rdE, rdE, Nat.le_refl _, by omega, by omega, fun z => by omega⟩
        by_cases c3 : nI (B p) = 59
        · rw [if_pos c3, if_neg c1, if_neg c2, if_pos c3]
          exact fin 3 (Or.inl rfl)
        · rw [if_neg c3, if_neg c1, if_neg c2, if_neg c3]
          exact fin 4 (Or.inr rfl)
theorem skip : ∀ (d p n m : Nat) (X Y : Mm), p + d = N → d < n → d < m → TC B N X Y → X.1 61 3 = nI p → Y.1 0 10 = nI p → ∃ X' Y' t b e v, f_X4_goOn_b8 n X 61 = some (X', ()) ∧ f_X7_nextToken_b0 m Y 0 = some (Y', ()) ∧ FT X Y X' Y' ∧ TK N p X' Y' t b e v := by
  intro d
  induction d with
  | zero =>
    intro p n m X Y h1 h2 h3 hT hx hy
    obtain ⟨n, rfl⟩ : ∃ z, n = z + 1 := ⟨n - 1, by omega⟩
    obtain ⟨m, rfl⟩ : ∃ z, m = z + 1 := ⟨m - 1, by omega⟩
    have hN := hT.2.2.1
    obtain ⟨X', Y', t, e, v, e1, e2⟩ := tok_at m hT (show p ≤ N by omega) (fun z => by omega) hx hy
    refine ⟨X', Y', t, p, e, v, ?_, e2⟩
    simp only [f_X4_goOn_b8]
    rw [gd_t gX61, hT.2.2.2.1, hx, if_pos (nI_le (by omega) (by omega)), e1]
  | succ d ih =>
    intro p n m X Y h1 h2 h3 hT hx hy
    obtain ⟨n, rfl⟩ : ∃ z, n = z + 1 := ⟨n - 1, by omega⟩
    obtain ⟨m, rfl⟩ : ∃ z, m = z + 1 := ⟨m - 1, by omega⟩
    have hN := hT.2.2.1
    obtain ⟨b1, b2, b3⟩ := hT.2.2.2.2.2 p (by omega)
    have ec : (nI p).toNatClampNeg = p := nI_clamp (by omega)
    by_cases c : B p = 32
    · have hF : FT X Y (sI X 61 3 (nI (p + 1))) (sI Y 0 10 (nI (p + 1))) := FT.w (by decide) (by decide)
      obtain ⟨X', Y', t, b, e, v, e1, e2, e3, e4⟩ := ih (p + 1) n m _ _ (by omega) (by omega) (by omega) (hT.mv hF) rdE rdE
      have e4' : TK N p X' Y' t b e v := by
        obtain ⟨k1, k2, k3, k4, k5, k6, k7, k8, k9⟩ := e4
        exact ⟨k1, k2, k3, k4, k5, k6, k7, by omega, k9⟩
      refine ⟨X', Y', t, b, e, v, ?_, ?_, hF.tr e3, e4'⟩
      · simp only [f_X4_goOn_b8]
        rw [gd_t gX61, hT.2.2.2.1, hx, if_neg (nI_ge (by omega) (by omega)), hT.1, Option.bind_some, gd_t (g62 (by omega)), ec, b1, c, if_pos (by decide), lt, nI_1]
        exact e1
      · simp only [f_X7_nextToken_b0]
        rw [gd_t gM0, hy, hT.byte (by omega), Option.bind_some, if_neg (show ¬ N ≤ p by omega)]
        dsimp only
        rw [c, if_pos (by decide), lt, hy, nI_1]
        exact e2
    · obtain ⟨X', Y', t, e, v, e1, e2⟩ := tok_at m hT (show p ≤ N by omega) (fun _ => c) hx hy
      refine ⟨X', Y', t, p, e, v, ?_, e2⟩
      simp only [f_X4_goOn_b8]
      rw [gd_t gX61, hT.2.2.2.1, hx, if_neg (nI_ge (by omega) (by omega)), hT.1, Option.bind_some, gd_t (g62 (by omega)), ec, b1, if_neg (show ¬ nI (B p) = (32 : Int32) from fun z => c ((nI_eq (b := 32) (by omega) (by decide)).mp z)), e1]
/-- both go on to the next token -/
theorem goOn (hT : TC B N X Y) {p : Nat} (hp : p ≤ N) (hx : X.1 61 4 = nI p) (hy : Y.1 0 10 = nI p) : ∃ X' Y' t b e v, f_X4_goOn X 61 = some (X', ()) ∧ f_X7_nextToken Y 0 = some (Y', ()) ∧ FT X Y X' Y' ∧ TK N p X' Y' t b e v := by
  have hN := hT.2.2.1
  have hF : FT X Y (sI X 61 3 (nI p)) Y := FT.wx (by decide)
  obtain ⟨X', Y', t, b, e, v, e1, e2, e3, e4⟩ := skip (N - p) p 1000 1000 _ _ (by omega) (by omega) (by omega) (hT.mv hF) rdE hy
  refine ⟨X', Y', t, b, e, v, ?_, e2, hF.tr e3, e4⟩
  unfold f_X4_goOn
  rw [gd_t gX61, lt, hx]
  exact e1
end TT

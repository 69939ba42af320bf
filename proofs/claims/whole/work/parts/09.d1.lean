/-! ===== the two worlds side by side ===== -/
def XQ (M : Mm) : Prop := (M.2.2 0 0 = some 1 ∧ M.2.2 0 1 = some 19 ∧ M.2.2 0 3 = some 37 ∧ M.2.2 0 4 = some 38 ∧ M.2.2 0 5 = some 61 ∧ M.2.2 0 6 = some 63 ∧ M.2.2 0 7 = some 64) ∧ (M.2.2 37 0 = some 38 ∧ M.2.2 37 1 = some 56 ∧ M.2.2 37 2 = some 57 ∧ M.2.2 37 3 = some 58 ∧ M.2.2 37 4 = some 59 ∧ M.2.2 37 5 = some 60) ∧ M.2.2 61 0 = some 62 ∧ (∀ i, i < 4 → M.2.2 63 i = some (65 + 2 * i)) ∧ (∀ i, i < 4 → M.2.2 (65 + 2 * i) 0 = some (66 + 2 * i))
def XF (M : Mm) : Prop := XQ M ∧ XL M 1 ∧ XL M 19 ∧ XL M 38
def T0 : Int32 × Int32 × Int32 := (-1, -1, 0)
def TP (X Y : Mm) : Prop := ∃ n, n ≤ 120 ∧ X.1 61 1 = nI n ∧ Y.1 0 9 = nI n ∧ ∀ k, k < n → X.1 62 k = Y.1 5 k ∧ ∃ c, c < 256 ∧ X.1 62 k = nI c
def SH (X Y : Mm) : Prop := ∀ i, i < 4 → ∃ b z, (b = 0 ∨ b = 8 ∨ b = 16 ∨ b = 32) ∧ z ≤ 40 ∧ X.1 (65 + 2 * i) 1 = nI b ∧ Y.1 14 i = nI b ∧ X.1 (65 + 2 * i) 2 = nI z ∧ Y.1 15 i = nI z ∧ ∀ k, k < 40 → X.1 (66 + 2 * i) k = Y.1 16 (40 * i + k)
def KP (X Y : Mm) : Prop := bz (X.1 0 2) ∧ Y.1 0 3 = X.1 0 2 ∧ (X.1 0 2 = 1 → Inv (Y.1 2) ∧ LD X 19 (Y.1 2) T0)
def FD (X Y : Mm) : Prop := ∀ k, k < 7 → X.1 64 k = Y.1 4 k
def Rel (X Y : Mm) : Prop := XF X ∧ RM Y ∧ Inv (Y.1 1) ∧ LD X 1 (Y.1 1) T0 ∧ GB X 19 ∧ GB X 38 ∧ KP X Y ∧ FD X Y ∧ TP X Y ∧ SH X Y ∧ Y.1 0 5 = -1
def Both {α : Type} (x y : Option (Mm × α)) : Prop := ∃ X' Y' r, x = some (X', r) ∧ y = some (Y', r) ∧ Rel X' Y'
section RR
variable {X Y X' Y' : Mm}
theorem gq_at (hx : X'.2.2 = X.2.2) (b g : Nat) : gq X' b g = gq X b g := by
  unfold gq
  rw [hx]
theorem XL.at {b : Nat} (h : XL X b) (hx : X'.2.2 = X.2.2) : XL X' b := by
  unfold XL gq at *
  rw [hx]
  exact h
theorem XF.at (h : XF X) (hx : X'.2.2 = X.2.2) : XF X' := by
  refine ⟨?_, h.2.1.at hx, h.2.2.1.at hx, h.2.2.2.at hx⟩
  have := h.1
  unfold XQ at *
  rw [hx]
  exact this
theorem LD.at {b : Nat} {s : Nat → Int32} {T : Int32 × Int32 × Int32} (h : LD X b s T) (hI : Inv s) (hX : XL X b) (hx : X'.2.2 = X.2.2) (ho : ∀ o, b ≤ o → o < b + 18 → X'.1 o = X.1 o) : LD X' b s T := by
  have h6 := hI.1.2
  have h8 := hI.2.1.2
  have hpg := hI.2.2.1.2
  have hg : ∀ g, g < 8 → X'.1 (gq X b g) = X.1 (gq X b g) := fun g hg => by
    obtain ⟨-, t1, t2⟩ := hX.2.2.1 g hg
    exact ho _ (by omega) (by omega)
  unfold LD
  simp only [gq_at hx]
  refine ⟨by rw [ho b (by omega) (by omega)]; exact h.1, fun i hi => by rw [ho _ (by omega) (by omega)]; exact h.2.1 i hi, fun g hgg => by rw [hg g (by omega)]; exact h.2.2.1 g hgg, fun g hgg => by rw [hg g (by omega)]; exact h.2.2.2.1 g hgg, fun j hj => by rw [ho _ (by omega) (by omega)]; exact h.2.2.2.2.1 j hj, fun g hgg => by rw [hg g hgg]; exact h.2.2.2.2.2 g hgg⟩
theorem GB.at {b : Nat} (h : GB X b) (hX : XL X b) (hx : X'.2.2 = X.2.2) (ho : ∀ o, b ≤ o → o < b + 18 → X'.1 o = X.1 o) : GB X' b := fun g hg => by
  obtain ⟨-, t1, t2⟩ := hX.2.2.1 g hg
  rw [gq_at hx, ho _ (by omega) (by omega)]
  exact h g hg
theorem KP.at (h : KP X Y) (hX : XL X 19) (hx : X'.2.2 = X.2.2) (ho : ∀ o, 19 ≤ o → o < 37 → X'.1 o = X.1 o) (hf : X'.1 0 2 = X.1 0 2) (hy : Y'.1 0 3 = Y.1 0 3) (hy2 : Y'.1 2 = Y.1 2) : KP X' Y' := by
  unfold KP
  rw [hf, hy, hy2]
  exact ⟨h.1, h.2.1, fun z => ⟨(h.2.2 z).1, (h.2.2 z).2.at (h.2.2 z).1 hX hx ho⟩⟩
theorem FD.at (h : FD X Y) (hx : X'.1 64 = X.1 64) (hy : Y'.1 4 = Y.1 4) : FD X' Y' := by
  unfold FD
  rw [hx, hy]
  exact h
theorem TP.at (h : TP X Y) (h1 : X'.1 61 1 = X.1 61 1) (h2 : X'.1 62 = X.1 62) (h3 : Y'.1 0 9 = Y.1 0 9) (h4 : Y'.1 5 = Y.1 5) : TP X' Y' := by
  unfold TP
  rw [h1, h2, h3, h4]
  exact h
theorem SH.at (h : SH X Y) (hx : ∀ o, 65 ≤ o → o < 73 → X'.1 o = X.1 o) (h4 : Y'.1 14 = Y.1 14) (h5 : Y'.1 15 = Y.1 15) (h6 : Y'.1 16 = Y.1 16) : SH X' Y' := by
  intro i hi
  rw [hx _ (by omega) (by omega), hx _ (by omega) (by omega), h4, h5, h6]
  exact h i hi
theorem Rel.lg1 (h : Rel X Y) : LG X 1 (Y.1 1) T0 := ⟨Or.inl rfl, h.1.2.1, h.2.2.2.1⟩
theorem Rel.inv (h : Rel X Y) : Inv (Y.1 1) := h.2.2.1
theorem Rel.rm (h : Rel X Y) : RM Y := h.2.1
theorem Rel.xq (h : Rel X Y) : XQ X := h.1.1
/-- the league has changed -/
theorem Rel.lg (h : Rel X Y) {s' : Nat → Int32} (hF : FR 1 X X') (hL : LG X' 1 s' T0) (hI : Inv s') : Rel X' (sA Y 1 s') := by
  obtain ⟨r1, r2, r3, r4, r5, r6, r7, r8, r9, r10, r11⟩ := h
  have hx : X'.2.2 = X.2.2 := by rw [hF.1]
  have ho : ∀ o, 19 ≤ o → X'.1 o = X.1 o := fun o ho => hF.2 o (by omega)
  have y : ∀ o, o ≠ 1 → (sA Y 1 s').1 o = Y.1 o := fun o ho => sA_ne ho
  refine ⟨r1.at hx, r2.sA, by rw [sA_at]; exact hI, by rw [sA_at]; exact hL.2.2, r5.at r1.2.2.1 hx (fun o h _ => ho o h), r6.at r1.2.2.2 hx (fun o h _ => ho o (by omega)), r7.at r1.2.2.1 hx (fun o h _ => ho o h) (by rw [hF.2 0 (by omega)]) (by rw [y 0 (by decide)]) (y 2 (by decide)), r8.at (ho 64 (by decide)) (y 4 (by decide)), r9.at (by rw [ho 61 (by decide)]) (ho 62 (by decide)) (by rw [y 0 (by decide)]) (y 5 (by decide)), r10.at (fun o h _ => ho o (by omega)) (y 14 (by decide)) (y 15 (by decide)) (y 16 (by decide)), by rw [y 0 (by decide)]; exact r11⟩
/-- what is only used on the way has changed -/
theorem Rel.aside (h : Rel X Y) (hx : X'.2.2 = X.2.2) (ho : ∀ o, (o < 37 ∨ 60 < o) → X'.1 o = X.1 o) (hz : GB X' 38) (hy : Y'.2.2 = Y.2.2) (hI' : Inv (Y'.1 1)) (hL' : LD X 1 (Y'.1 1) T0) (y : ∀ o, (o = 2 ∨ o = 4 ∨ o = 5 ∨ o = 14 ∨ o = 15 ∨ o = 16) → Y'.1 o = Y.1 o) (y3 : Y'.1 0 3 = Y.1 0 3) (y9 : Y'.1 0 9 = Y.1 0 9) (y5 : Y'.1 0 5 = -1) : Rel X' Y' := by
  obtain ⟨r1, r2, r3, r4, r5, r6, r7, r8, r9, r10, r11⟩ := h
  refine ⟨r1.at hx, ?_, hI', hL'.at hI' r1.2.1 hx (fun o h _ => ho o (by omega)), r5.at r1.2.2.1 hx (fun o h _ => ho o (by omega)), hz, r7.at r1.2.2.1 hx (fun o h _ => ho o (by omega)) (by rw [ho 0 (by omega)]) y3 (y 2 (by decide)), r8.at (ho 64 (by omega)) (y 4 (by decide)), r9.at (by rw [ho 61 (by omega)]) (ho 62 (by omega)) y9 (y 5 (by decide)), r10.at (fun o h _ => ho o (by omega)) (y 14 (by decide)) (y 15 (by decide)) (y 16 (by decide)), y5⟩
  unfold RM at *
  rw [hy]
  exact r2
end RR
/-! the findings -/
theorem gX0 : ok nX shX 0 6 := by decide
theorem gX1 : ok nX shX 1 1 := by decide
theorem gX19 : ok nX shX 19 1 := by decide
theorem gX37 : ok nX shX 37 5 := by decide
theorem gX38 : ok nX shX 38 1 := by decide
theorem gX61 : ok nX shX 61 4 := by decide
theorem gM0 : ok nM shM 0 7 := by decide
def fX (X : Mm) (k : Nat) : Mm := sI X 64 k (X.1 64 k + 1)
def fY (Y : Mm) (k : Nat) : Mm := sI Y 4 k (Y.1 4 k + 1)
theorem X6_finding {X : Mm} (h : XQ X) (k : Nat) (hk : k < 7) (a : Int32) (ha : a = nI k) : f_X6_finding X 0 a = some (fX X k, -1000001 - a) := by
  have g : okA nX shX 64 8 a := by
    rw [ha]
    exact ⟨by decide, vin_nI (show k < 7 from hk) (by decide)⟩
  unfold f_X6_finding
  rw [gd_t gX0, h.1.2.2.2.2.2.2, Option.bind_some, gd_t g, gd_t g, show a.toNatClampNeg = k by rw [ha, nI_clamp (by omega)]]
  rfl
theorem X7_finding {Y : Mm} (h : RM Y) (k : Nat) (hk : k < 7) (a : Int32) (ha : a = nI k) : f_X7_finding Y 0 a = some (fY Y k, -1000001 - a) := by
  have g : okA nM shM 4 8 a := by
    rw [ha]
    exact ⟨by decide, vin_nI (show k < 7 from hk) (by decide)⟩
  unfold f_X7_finding
  rw [gd_t gM0, h.at 4 rfl, Option.bind_some, gd_t g, gd_t g, show a.toNatClampNeg = k by rw [ha, nI_clamp (by omega)]]
  rfl
section FF
variable {X Y : Mm}
theorem Rel.fin (h : Rel X Y) (k : Nat) : Rel (fX X k) (fY Y k) := by
  obtain ⟨r1, r2, r3, r4, r5, r6, r7, r8, r9, r10, r11⟩ := h
  have hx : (fX X k).2.2 = X.2.2 := rfl
  have ho : ∀ o, o ≠ 64 → (fX X k).1 o = X.1 o := fun o ho => sI_obj ho
  have y : ∀ o, o ≠ 4 → (fY Y k).1 o = Y.1 o := fun o ho => sI_obj ho
  refine ⟨r1.at hx, r2, by rw [y 1 (by decide)]; exact r3, by rw [y 1 (by decide)]; exact r4.at r3 r1.2.1 hx (fun o h _ => ho o (by omega)), r5.at r1.2.2.1 hx (fun o h _ => ho o (by omega)), r6.at r1.2.2.2 hx (fun o h _ => ho o (by omega)), r7.at r1.2.2.1 hx (fun o h _ => ho o (by omega)) (by rw [ho 0 (by decide)]) (by rw [y 0 (by decide)]) (y 2 (by decide)), ?_, r9.at (by rw [ho 61 (by decide)]) (ho 62 (by decide)) (by rw [y 0 (by decide)]) (y 5 (by decide)), r10.at (fun o h _ => ho o (by omega)) (y 14 (by decide)) (y 15 (by decide)) (y 16 (by decide)), by rw [y 0 (by decide)]; exact r11⟩
  intro j hj
  unfold fX fY
  by_cases c : j = k
  · subst c
    rw [rdE, rdE, r8 j hj]
  · rw [rdK c, rdK c, r8 j hj]
theorem Both.fin (h : Rel X Y) (k : Nat) (r : Int32) : Both (some (fX X k, r)) (some (fY Y k, r)) := ⟨_, _, _, rfl, rfl, h.fin k⟩
theorem Both.no (h : Rel X Y) (r : Int32) : Both (some (X, r)) (some (Y, r)) := ⟨_, _, _, rfl, rfl, h⟩
end FF
/-! conditions -/
theorem iteB {α : Type} {c : Prop} [Decidable c] {A B : α} : (if (if c then (1 : Int32) else 0) = 0 then A else B) = if c then B else A := by
  by_cases h : c
  · rw [if_pos h, if_pos h, if_neg (by decide)]
  · rw [if_neg h, if_neg h, if_pos rfl]
theorem iteN {α : Type} {c : Prop} [Decidable c] {A B : α} : (if (if c then (0 : Int32) else 1) = 0 then A else B) = if c then A else B := by
  by_cases h : c
  · rw [if_pos h, if_pos h, if_pos rfl]
  · rw [if_neg h, if_neg h, if_neg (by decide)]
theorem bzB {c : Prop} [Decidable c] : bz (if c then (1 : Int32) else 0) := by
  by_cases h : c
  · rw [if_pos h]
    exact Or.inr rfl
  · rw [if_neg h]
    exact Or.inl rfl
theorem rgA {α : Type} {a lo hi : Int32} {A B : α} : (if a < lo then A else if hi < a then A else B) = if lo ≤ a ∧ a ≤ hi then B else A := by
  by_cases h1 : a < lo
  · rw [if_pos h1, if_neg (fun z => absurd h1 (Int32.not_lt.mpr z.1))]
  · rw [if_neg h1]
    by_cases h2 : hi < a
    · rw [if_pos h2, if_neg (fun z => absurd h2 (Int32.not_lt.mpr z.2))]
    · rw [if_neg h2, if_pos ⟨Int32.not_lt.mp h1, Int32.not_lt.mp h2⟩]
theorem rgB {α : Type} {a lo hi : Int32} {A B : α} : (if a < lo then A else if a ≤ hi then B else A) = if lo ≤ a ∧ a ≤ hi then B else A := by
  by_cases h1 : a < lo
  · rw [if_pos h1, if_neg (fun z => absurd h1 (Int32.not_lt.mpr z.1))]
  · rw [if_neg h1]
    by_cases h2 : a ≤ hi
    · rw [if_pos h2, if_pos ⟨Int32.not_lt.mp h1, h2⟩]
    · rw [if_neg h2, if_neg (fun z => h2 z.2)]
theorem nI_at {k : Int32} (h : 0 ≤ k) {n : Nat} (hn : n < 2 ^ 31) (h2 : k < nI n) : ∃ i, i < n ∧ k = nI i := by
  obtain ⟨j, hj, rfl⟩ := nI_of (Int32.not_lt.mpr h)
  exact ⟨j, (nI_ltI hj hn).mp h2, rfl⟩
theorem nI_at' {k : Int32} (h : 0 ≤ k) {n : Nat} (hn : n < 2 ^ 31) (h2 : k ≤ nI n) : ∃ i, i ≤ n ∧ k = nI i := by
  obtain ⟨j, hj, rfl⟩ := nI_of (Int32.not_lt.mpr h)
  exact ⟨j, (nI_leI hj hn).mp h2, rfl⟩
theorem pre_lt {a : Int32} {n : Nat} (hn : n < 2 ^ 31) : (0 ≤ a ∧ a ≤ nI n - 1) ↔ (0 ≤ a ∧ a < nI n) := by
  refine ⟨fun h => ⟨h.1, ?_⟩, fun h => ⟨h.1, ?_⟩⟩
  · obtain ⟨h1, h2⟩ := h
    obtain ⟨j, hj, rfl⟩ := nI_of (Int32.not_lt.mpr h1)
    cases n with
    | zero =>
      exfalso
      have e : nI 0 - 1 = (-1 : Int32) := by decide
      rw [e] at h2
      exact absurd (Int32.le_trans h1 h2) (by decide)
    | succ n =>
      rw [nI_pred] at h2
      have := (nI_leI hj (by omega)).mp h2
      exact nI_lt (by omega) hn
  · obtain ⟨h1, h2⟩ := h
    obtain ⟨j, hj, rfl⟩ := nI_at h1 hn h2
    obtain ⟨n, rfl⟩ : ∃ z, n = z + 1 := ⟨n - 1, by omega⟩
    rw [nI_pred]
    exact nI_le (by omega) (by omega)
theorem if_iff {α : Type} {c d : Prop} [Decidable c] [Decidable d] (h : c ↔ d) {A B : α} : (if c then A else B) = if d then A else B := by
  by_cases hc : c
  · rw [if_pos hc, if_pos (h.mp hc)]
  · rw [if_neg hc, if_neg (fun z => hc (h.mpr z))]
section CC
variable {X Y : Mm}
theorem X7_isSide (h : RM Y) (hI : Inv (Y.1 1)) (a : Int32) : f_X7_isSide Y 0 a = some (Y, if 0 ≤ a ∧ a < nI (nS (Y.1 1)) then 1 else 0) := by
  have h6 := hI.1.2
  unfold f_X7_isSide
  rw [gd_t gM0, h.at 0 rfl, Option.bind_some, gd_t (by decide), X7_in, Option.bind_some, gd_t bzB, cl0, hI.1.1]
  dsimp only
  rw [if_iff (pre_lt (by omega))]
theorem X7_isGame (h : RM Y) (hI : Inv (Y.1 1)) (a : Int32) : f_X7_isGame Y 0 a = some (Y, if 0 ≤ a ∧ a < nI (nG (Y.1 1)) then 1 else 0) := by
  have h6 := hI.2.1.2
  unfold f_X7_isGame
  rw [gd_t gM0, h.at 0 rfl, Option.bind_some, gd_t (by decide), X7_in, Option.bind_some, gd_t bzB, cl1, hI.2.1.1]
  dsimp only
  rw [if_iff (pre_lt (by omega))]
theorem X6_isKind (a : Int32) : f_X6_isKind X a = some (X, if 0 ≤ a ∧ a ≤ 6 then 1 else 0) := by
  unfold f_X6_isKind
  rw [rgA]
  split <;> rfl
theorem X6_isStrength (a : Int32) : f_X6_isStrength X a = some (X, if 1 ≤ a ∧ a ≤ 9 then 1 else 0) := by
  unfold f_X6_isStrength
  rw [rgA]
  split <;> rfl
theorem le_succ' {a : Int32} (n : Nat) (hn : n + 1 < 2 ^ 31) : (¬ nI (n + 1) ≤ a) ↔ a ≤ nI n := by
  by_cases h0 : a < 0
  · exact ⟨fun _ => Int32.le_of_lt (Int32.lt_of_lt_of_le h0 (nI_pos' (by omega))), fun _ z => absurd (Int32.lt_of_le_of_lt z h0) (nI_pos (by omega))⟩
  · obtain ⟨j, hj, rfl⟩ := nI_of h0
    rw [nI_leI (by omega) hj, nI_leI hj (by omega)]
    omega
theorem rgC {α : Type} {a lo : Int32} (n : Nat) (hn : n + 1 < 2 ^ 31) {A B : α} : (if a < lo then A else if nI (n + 1) ≤ a then A else B) = if lo ≤ a ∧ a ≤ nI n then B else A := by
  by_cases h1 : a < lo
  · rw [if_pos h1, if_neg (fun z => absurd h1 (Int32.not_lt.mpr z.1))]
  · rw [if_neg h1]
    by_cases h2 : nI (n + 1) ≤ a
    · rw [if_pos h2, if_neg (fun z => (le_succ' n hn).mpr z.2 h2)]
    · rw [if_neg h2, if_pos ⟨Int32.not_lt.mp h1, (le_succ' n hn).mp h2⟩]
theorem X6_isSpot (a : Int32) : f_X6_isSpot X a = some (X, if 0 ≤ a ∧ a ≤ 9 then 1 else 0) := by
  unfold f_X6_isSpot
  rw [show (10 : Int32) = nI (9 + 1) from rfl, rgC 9 (by decide), show nI 9 = (9 : Int32) from rfl]
  split <;> rfl
theorem X6_isSheet (a : Int32) : f_X6_isSheet X a = some (X, if 0 ≤ a ∧ a ≤ 3 then 1 else 0) := by
  unfold f_X6_isSheet
  rw [show (4 : Int32) = nI (3 + 1) from rfl, rgC 3 (by decide), show nI 3 = (3 : Int32) from rfl]
  split <;> rfl
end CC

/-! ===== all ways, as sums over the rows behind them ===== -/
theorem lN_0 : lN 0 = 0 := rfl
abbrev TOk (T : Int32 × Int32 × Int32) : Prop := T.1 = -1 ∨ ∃ e, e ≤ 3 ∧ T.2.2 = nI e
abbrev Trp : Type := Int32 × Int32 × Int32
abbrev Rw : Type := Nat → Int32
theorem effA_ok {s : Rw} {T : Trp} {g i : Nat} (hI : Inv s) (hT : TOk T) (hg : g < 100) (hi : i < nS s) : ∃ e, e ≤ 3 ∧ effA s T g i = nI e := by
  obtain ⟨kd, st, te, -, -, -, h9, -, -, e2⟩ := hI.2.2.2.2.2.2.1 i hi
  unfold effA
  by_cases c0 : T.1 = nI g ∧ T.2.1 = nI i
  · rw [if_pos c0]
    exact hT.resolve_left (fun z => neZ hg (c0.1.symm.trans z))
  rw [if_neg c0]
  by_cases c1 : sO s i 0 = 1
  · rw [if_pos c1]
    exact ⟨3, by decide, rfl⟩
  rw [if_neg c1]
  by_cases c2 : sO s i 0 = 2
  · rw [if_pos c2]
    split
    · exact ⟨1, by decide, rfl⟩
    · exact ⟨2, by decide, rfl⟩
  rw [if_neg c2]
  by_cases c3 : sO s i 0 = 3
  · rw [if_pos c3]
    split
    · exact ⟨0, by decide, rfl⟩
    · split
      · exact ⟨3, by decide, rfl⟩
      · exact ⟨2, by decide, rfl⟩
  rw [if_neg c3]
  by_cases c4 : sO s i 0 = 4
  · rw [if_pos c4]
    split
    · exact ⟨1, by decide, rfl⟩
    · split
      · exact ⟨0, by decide, rfl⟩
      · exact ⟨2, by decide, rfl⟩
  rw [if_neg c4]
  by_cases c5 : sO s i 0 = 5
  · rw [if_pos c5]
    split
    · exact ⟨0, by decide, rfl⟩
    · exact ⟨3, by decide, rfl⟩
  rw [if_neg c5]
  by_cases c6 : sO s i 0 = 6
  · rw [if_pos c6, e2]
    by_cases c7 : 3 < nI te
    · rw [if_pos c7]
      exact ⟨3, by decide, rfl⟩
    · rw [if_neg c7]
      refine ⟨te, ?_, rfl⟩
      rcases Nat.lt_or_ge 3 te with z | z
      · exact absurd (nI_lt (a := 3) z (by omega)) c7
      · exact z
  rw [if_neg c6]
  exact ⟨2, by decide, rfl⟩
theorem forA_ok {s : Rw} {g i e : Nat} (hI : Inv s) (hi : i < nS s) (he : e ≤ 3) : ∃ f, f ≤ 27 ∧ forA s g i (nI e) = nI f := by
  obtain ⟨kd, st, te, -, h1, h9, -, -, e1, -⟩ := hI.2.2.2.2.2.2.1 i hi
  have key : ∀ x, x ≤ 9 → (if 1 ≤ nI x then nI x else 1) * nI e = nI ((if 1 ≤ x then x else 1) * e) ∧ (if 1 ≤ x then x else 1) * e ≤ 27 := by
    intro x hx
    have h : (1 : Int32) ≤ nI x ↔ 1 ≤ x := nI_leI (a := 1) (b := x) (by decide) (by omega)
    by_cases c : 1 ≤ x
    · rw [if_pos c, if_pos (h.mpr c), pk_mul]
      exact ⟨rfl, Nat.mul_le_mul hx he⟩
    · rw [if_neg c, if_neg (fun z => c (h.mp z)), show (1 : Int32) = nI 1 from rfl, pk_mul]
      exact ⟨rfl, by omega⟩
  unfold forA
  rw [e1]
  by_cases c : tirA s g (nI i) = 0
  · rw [if_pos c, show nI st - (0 : Int32) = nI st by rw [Int32.sub_zero]]
    exact ⟨_, (key st h9).2, (key st h9).1⟩
  · rw [if_neg c]
    obtain ⟨st, rfl⟩ : ∃ z, st = z + 1 := ⟨st - 1, by omega⟩
    rw [nI_pred]
    exact ⟨_, (key st (by omega)).2, (key st (by omega)).1⟩
def eF (s : Rw) (T : Trp) : Int32 := effA s T (nP s) (fI s (nP s))
def eO (s : Rw) (T : Trp) : Int32 := effA s T (nP s) (oI s (nP s))
def cN (s : Rw) (T : Trp) : Nat := (chA s (nP s) (eF s T) (eO s T)).toNatClampNeg
def w1 (s : Rw) (T : Trp) : Rw := winA s (gO s (nP s) 0) (eF s T) (eO s T)
def w2 (s : Rw) (T : Trp) : Rw := winA s (gO s (nP s) 1) (eF s T) (eO s T)
theorem cN_ok {s : Rw} {T : Trp} (hI : Inv s) (hT : TOk T) (hg : nP s < nG s) : cN s T ≤ 10 ∧ chA s (nP s) (eF s T) (eO s T) = nI (cN s T) := by
  obtain ⟨-, -, q2, q3, -, -⟩ := hI.2.2.2.2.1 _ hg
  obtain ⟨a, ha, ea⟩ := effA_ok (g := nP s) hI hT (by have := hI.np8; omega) q2
  obtain ⟨b, hb, eb⟩ := effA_ok (g := nP s) hI hT (by have := hI.np8; omega) q3
  obtain ⟨f, hf, ef⟩ := forA_ok (g := nP s) hI q2 ha
  obtain ⟨k, hk, ek⟩ := forA_ok (g := nP s) hI q3 hb
  have key : ∃ c, c ≤ 10 ∧ chA s (nP s) (eF s T) (eO s T) = nI c := by
    unfold chA eF eO
    rw [ea, eb, ef, ek, nI_add]
    by_cases c : f + k = 0
    · rw [if_pos (by rw [c]; rfl)]
      exact ⟨5, by decide, rfl⟩
    · rw [if_neg (nI_ne0 (by omega) (by omega)), show (10 : Int32) = nI 10 from rfl, pk_mul, pk_div (by omega) (by omega) (by omega)]
      refine ⟨_, ?_, rfl⟩
      exact Nat.div_le_of_le_mul (by rw [Nat.mul_comm (f + k) 10]; omega)
  obtain ⟨c, hc, ec⟩ := key
  have : cN s T = c := by
    unfold cN
    rw [ec, nI_clamp (by omega)]
  rw [this]
  exact ⟨hc, ec⟩
theorem w1_inv {s : Rw} {T : Trp} (hI : Inv s) (hg : nP s < nG s) : Inv (w1 s T) := hI.win hg (Or.inl rfl)
theorem w2_inv {s : Rw} {T : Trp} (hI : Inv s) (hg : nP s < nG s) : Inv (w2 s T) := hI.win hg (Or.inr rfl)
theorem w1_nP {s : Rw} {T : Trp} (hI : Inv s) : nP (w1 s T) = nP s + 1 := winA_nP hI
theorem w2_nP {s : Rw} {T : Trp} (hI : Inv s) : nP (w2 s T) = nP s + 1 := winA_nP hI
theorem w1_nG {s : Rw} {T : Trp} : nG (w1 s T) = nG s := winA_nG
theorem w2_nG {s : Rw} {T : Trp} : nG (w2 s T) = nG s := winA_nG
theorem Sim.eFe {s s' : Rw} (h : Sim s s') (hI : Inv s) (hg : nP s < nG s) (T : Trp) : eF s' T = eF s T := by
  have h6 := hI.1.2
  have h8 := hI.2.1.2
  obtain ⟨-, -, q2, q3, -, -⟩ := hI.2.2.2.2.1 _ hg
  unfold eF
  rw [h.eP, h.efI (by omega), h.eff (by omega) hg (by omega)]
theorem Sim.eOe {s s' : Rw} (h : Sim s s') (hI : Inv s) (hg : nP s < nG s) (T : Trp) : eO s' T = eO s T := by
  have h6 := hI.1.2
  have h8 := hI.2.1.2
  obtain ⟨-, -, q2, q3, -, -⟩ := hI.2.2.2.2.1 _ hg
  unfold eO
  rw [h.eP, h.eoI (by omega), h.eff (by omega) hg (by omega)]
theorem Sim.cNe {s s' : Rw} (h : Sim s s') (hI : Inv s) (hg : nP s < nG s) (T : Trp) : cN s' T = cN s T := by
  unfold cN
  rw [h.eFe hI hg, h.eOe hI hg, h.eP, h.ch hI hg]
theorem Sim.w1e {s s' : Rw} (h : Sim s s') (hI : Inv s) (hg : nP s < nG s) (T : Trp) : Sim (w1 s T) (w1 s' T) := by
  have h8 := hI.2.1.2
  unfold w1
  rw [h.eFe hI hg, h.eOe hI hg, h.eP, h.lo (show nP s < 8 by omega) (show 0 < 3 by decide)]
  exact h.win hI hg _ _ _
theorem Sim.w2e {s s' : Rw} (h : Sim s s') (hI : Inv s) (hg : nP s < nG s) (T : Trp) : Sim (w2 s T) (w2 s' T) := by
  have h8 := hI.2.1.2
  unfold w2
  rw [h.eFe hI hg, h.eOe hI hg, h.eP, h.lo (show nP s < 8 by omega) (show 1 < 3 by decide)]
  exact h.win hI hg _ _ _
/-- the sum over all ways of what φ tells of the row behind one -/
def EA (T : Trp) (φ : Rw → Nat) : Nat → Rw → Nat
  | 0, s => φ s
  | d + 1, s => cN s T * EA T φ d (w1 s T) + (10 - cN s T) * EA T φ d (w2 s T)
def WA (T : Trp) : Nat → Rw → Nat
  | 0, _ => 1
  | d + 1, s => (if cN s T = 0 then 0 else WA T d (w1 s T)) + (if 10 - cN s T = 0 then 0 else WA T d (w2 s T))
def MA (T : Trp) (φ : Rw → Nat) : Nat → Rw → Nat
  | 0, s => φ s
  | d + 1, s => max (MA T φ d (w1 s T)) (MA T φ d (w2 s T))
def RO (φ : Rw → Nat) : Prop := ∀ s s', Inv s → nP s = nG s → Sim s s' → φ s' = φ s
theorem EA_sim {T : Trp} {φ : Rw → Nat} (hφ : RO φ) : ∀ (d : Nat) (s s' : Rw), Inv s → Sim s s' → nP s + d = nG s → EA T φ d s' = EA T φ d s := by
  intro d
  induction d with
  | zero => intro s s' hI h hd; exact hφ s s' hI hd h
  | succ d ih =>
    intro s s' hI h hd
    have hg : nP s < nG s := by omega
    simp only [EA]
    rw [h.cNe hI hg, ih _ _ (w1_inv hI hg) (h.w1e hI hg T) (by rw [w1_nP hI, w1_nG]; omega), ih _ _ (w2_inv hI hg) (h.w2e hI hg T) (by rw [w2_nP hI, w2_nG]; omega)]
theorem MA_sim {T : Trp} {φ : Rw → Nat} (hφ : RO φ) : ∀ (d : Nat) (s s' : Rw), Inv s → Sim s s' → nP s + d = nG s → MA T φ d s' = MA T φ d s := by
  intro d
  induction d with
  | zero => intro s s' hI h hd; exact hφ s s' hI hd h
  | succ d ih =>
    intro s s' hI h hd
    have hg : nP s < nG s := by omega
    simp only [MA]
    rw [ih _ _ (w1_inv hI hg) (h.w1e hI hg T) (by rw [w1_nP hI, w1_nG]; omega), ih _ _ (w2_inv hI hg) (h.w2e hI hg T) (by rw [w2_nP hI, w2_nG]; omega)]
theorem WA_sim {T : Trp} : ∀ (d : Nat) (s s' : Rw), Inv s → Sim s s' → nP s + d = nG s → WA T d s' = WA T d s := by
  intro d
  induction d with
  | zero => intro s s' hI h _; rfl
  | succ d ih =>
    intro s s' hI h hd
    have hg : nP s < nG s := by omega
    simp only [WA]
    rw [h.cNe hI hg, ih _ _ (w1_inv hI hg) (h.w1e hI hg T) (by rw [w1_nP hI, w1_nG]; omega), ih _ _ (w2_inv hI hg) (h.w2e hI hg T) (by rw [w2_nP hI, w2_nG]; omega)]
/-- what nobody is told doesn't count -/
theorem eT {s : Rw} {T T' : Trp} (h : T.1 = -1) (h' : T'.1 = -1) (hg : nP s < 100) : cN s T = cN s T' ∧ w1 s T = w1 s T' ∧ w2 s T = w2 s T' := by
  have e1 : eF s T = eF s T' := effA_T h h' hg
  have e2 : eO s T = eO s T' := effA_T h h' hg
  unfold cN w1 w2
  rw [e1, e2]
  exact ⟨rfl, rfl, rfl⟩
theorem EA_T {T T' : Trp} (h : T.1 = -1) (h' : T'.1 = -1) {φ : Rw → Nat} : ∀ (d : Nat) (s : Rw), Inv s → nP s + d = nG s → EA T φ d s = EA T' φ d s := by
  intro d
  induction d with
  | zero => intro s _ _; rfl
  | succ d ih =>
    intro s hI hd
    have h8 := hI.2.1.2
    have hg : nP s < nG s := by omega
    obtain ⟨q1, q2, q3⟩ := eT (s := s) h h' (by omega)
    simp only [EA]
    rw [q1, q2, q3, ih _ (w1_inv hI hg) (by rw [w1_nP hI, w1_nG]; omega), ih _ (w2_inv hI hg) (by rw [w2_nP hI, w2_nG]; omega)]
theorem MA_T {T T' : Trp} (h : T.1 = -1) (h' : T'.1 = -1) {φ : Rw → Nat} : ∀ (d : Nat) (s : Rw), Inv s → nP s + d = nG s → MA T φ d s = MA T' φ d s := by
  intro d
  induction d with
  | zero => intro s _ _; rfl
  | succ d ih =>
    intro s hI hd
    have h8 := hI.2.1.2
    have hg : nP s < nG s := by omega
    obtain ⟨q1, q2, q3⟩ := eT (s := s) h h' (by omega)
    simp only [MA]
    rw [q2, q3, ih _ (w1_inv hI hg) (by rw [w1_nP hI, w1_nG]; omega), ih _ (w2_inv hI hg) (by rw [w2_nP hI, w2_nG]; omega)]
theorem WA_T {T T' : Trp} (h : T.1 = -1) (h' : T'.1 = -1) : ∀ (d : Nat) (s : Rw), Inv s → nP s + d = nG s → WA T d s = WA T' d s := by
  intro d
  induction d with
  | zero => intro s _ _; rfl
  | succ d ih =>
    intro s hI hd
    have h8 := hI.2.1.2
    have hg : nP s < nG s := by omega
    obtain ⟨q1, q2, q3⟩ := eT (s := s) h h' (by omega)
    simp only [WA]
    rw [q1, q2, q3, ih _ (w1_inv hI hg) (by rw [w1_nP hI, w1_nG]; omega), ih _ (w2_inv hI hg) (by rw [w2_nP hI, w2_nG]; omega)]
/-- what is the same in all rows behind one -/
def Kp (s s' : Rw) : Prop := nG s' = nG s ∧ nS s' = nS s ∧ (∀ g j, j < 3 → gO s' g j = gO s g j) ∧ ∀ g, g < nP s → ∀ j, j < 7 → gO s' g j = gO s g j
theorem Kp.rf {s : Rw} : Kp s s := ⟨rfl, rfl, fun _ _ _ => rfl, fun _ _ _ _ => rfl⟩
theorem Kp.tr {s s1 s2 : Rw} (h : Kp s s1) (h2 : Kp s1 s2) (hp : nP s ≤ nP s1) : Kp s s2 := ⟨h2.1.trans h.1, h2.2.1.trans h.2.1, fun g j hj => (h2.2.2.1 g j hj).trans (h.2.2.1 g j hj), fun g hg j hj => (h2.2.2.2 g (by omega) j hj).trans (h.2.2.2 g hg j hj)⟩
theorem Kp.win {s : Rw} {w e1 e2 : Int32} : Kp s (winA s w e1 e2) := ⟨winA_nG, winA_nS, fun g j hj => winA_lo hj, fun g hg j hj => winA_old (by omega) hj⟩
theorem EA_leaf {T : Trp} {φ ψ : Rw → Nat} : ∀ (d : Nat) (s : Rw), Inv s → nP s + d = nG s → (∀ s', Inv s' → nP s' = nG s' → Kp s s' → φ s' = ψ s') → EA T φ d s = EA T ψ d s := by
  intro d
  induction d with
  | zero =>
    intro s hI hd hh
    exact hh s hI (by omega) Kp.rf
  | succ d ih =>
    intro s hI hd hh
    have hg : nP s < nG s := by omega
    simp only [EA]
    rw [ih (w1 s T) (w1_inv hI hg) (by rw [w1_nP hI, w1_nG]; omega) (fun s' a b c => hh s' a b (Kp.win.tr c (by rw [winA_nP hI]; omega))), ih (w2 s T) (w2_inv hI hg) (by rw [w2_nP hI, w2_nG]; omega) (fun s' a b c => hh s' a b (Kp.win.tr c (by rw [winA_nP hI]; omega)))]
theorem ten_split {c P A B : Nat} (hc : c ≤ 10) : c * (P + A) + (10 - c) * (P + B) = 10 * P + (c * A + (10 - c) * B) := by
  obtain ⟨e, he⟩ : ∃ e, c + e = 10 := ⟨10 - c, by omega⟩
  rw [show 10 - c = e by omega, Nat.mul_add, Nat.mul_add]
  have : c * P + e * P = 10 * P := by rw [← Nat.add_mul, he]
  omega
theorem ten_split0 {c P : Nat} (hc : c ≤ 10) : c * P + (10 - c) * P = 10 * P := by
  rw [← Nat.add_mul, show c + (10 - c) = 10 by omega]
theorem EA_one {T : Trp} (hT : TOk T) : ∀ (d : Nat) (s : Rw), Inv s → nP s + d = nG s → EA T (fun _ => 1) d s = 10 ^ d := by
  intro d
  induction d with
  | zero => intro s _ _; rfl
  | succ d ih =>
    intro s hI hd
    have hg : nP s < nG s := by omega
    have hc := (cN_ok hI hT hg).1
    simp only [EA]
    rw [ih _ (w1_inv hI hg) (by rw [w1_nP hI, w1_nG]; omega), ih _ (w2_inv hI hg) (by rw [w2_nP hI, w2_nG]; omega)]
    rw [ten_split0 hc, Nat.pow_succ, Nat.mul_comm]
theorem EA_add {T : Trp} {φ ψ : Rw → Nat} : ∀ (d : Nat) (s : Rw), EA T (fun s => φ s + ψ s) d s = EA T φ d s + EA T ψ d s := by
  intro d
  induction d with
  | zero => intro s; rfl
  | succ d ih =>
    intro s
    simp only [EA]
    rw [ih, ih, Nat.mul_add, Nat.mul_add]
    omega
theorem EA_zero {T : Trp} : ∀ (d : Nat) (s : Rw), EA T (fun _ => 0) d s = 0 := by
  intro d
  induction d with
  | zero => intro s; rfl
  | succ d ih =>
    intro s
    simp only [EA]
    rw [ih, ih]
    omega
theorem EA_le {T : Trp} (hT : TOk T) {φ : Rw → Nat} {N : Nat} : ∀ (d : Nat) (s : Rw), Inv s → nP s + d = nG s → (∀ s', Inv s' → nP s' = nG s' → φ s' ≤ N) → EA T φ d s ≤ N * 10 ^ d := by
  intro d
  induction d with
  | zero =>
    intro s hI hd hh
    have := hh s hI (by omega)
    simp only [EA]
    omega
  | succ d ih =>
    intro s hI hd hh
    have hg : nP s < nG s := by omega
    have hc := (cN_ok hI hT hg).1
    have a := ih (w1 s T) (w1_inv hI hg) (by rw [w1_nP hI, w1_nG]; omega) hh
    have b := ih (w2 s T) (w2_inv hI hg) (by rw [w2_nP hI, w2_nG]; omega) hh
    simp only [EA]
    have x1 := Nat.mul_le_mul_left (cN s T) a
    have x2 := Nat.mul_le_mul_left (10 - cN s T) b
    have := ten_split0 (c := cN s T) (P := N * 10 ^ d) hc
    rw [Nat.pow_succ, ← Nat.mul_assoc]
    omega
/-- what the class sums up game by game: x tells what a winner of the next game adds -/
def AA (T : Trp) (x : Rw → Int32 → Nat) : Nat → Rw → Nat
  | 0, _ => 0
  | d + 1, s => cN s T * (10 ^ d * x s (gO s (nP s) 0) + AA T x d (w1 s T)) + (10 - cN s T) * (10 ^ d * x s (gO s (nP s) 1) + AA T x d (w2 s T))
theorem EA_pot {T : Trp} (hT : TOk T) {φ : Rw → Nat} {x : Rw → Int32 → Nat} (hx : ∀ s, Inv s → nP s < nG s → ∀ w e1 e2, (w = gO s (nP s) 0 ∨ w = gO s (nP s) 1) → φ (winA s w e1 e2) = φ s + x s w) : ∀ (d : Nat) (s : Rw), Inv s → nP s + d = nG s → EA T φ d s = 10 ^ d * φ s + AA T x d s := by
  intro d
  induction d with
  | zero =>
    intro s _ _
    simp only [EA, AA]
    omega
  | succ d ih =>
    intro s hI hd
    have hg : nP s < nG s := by omega
    have hc := (cN_ok hI hT hg).1
    have f1 : φ (w1 s T) = φ s + x s (gO s (nP s) 0) := hx s hI hg _ _ _ (Or.inl rfl)
    have f2 : φ (w2 s T) = φ s + x s (gO s (nP s) 1) := hx s hI hg _ _ _ (Or.inr rfl)
    simp only [EA, AA]
    rw [ih _ (w1_inv hI hg) (by rw [w1_nP hI, w1_nG]; omega), ih _ (w2_inv hI hg) (by rw [w2_nP hI, w2_nG]; omega), f1, f2]
    have e : ∀ P y A : Nat, 10 ^ d * (P + y) + A = 10 ^ d * P + (10 ^ d * y + A) := fun P y A => by rw [Nat.mul_add, Nat.add_assoc]
    rw [e, e, ten_split hc, Nat.pow_succ, Nat.mul_comm (10 ^ d) 10, Nat.mul_assoc]

/-! ===== text: words and numbers ===== -/
def byN (i : Nat) : List Nat := (bytJS.getD i []).map (fun c => c.toNatClampNeg)
def lnN (i : Nat) : Nat := lenJS.getD i 0
def mtA (B : Nat → Nat) (b i : Nat) : Nat → Nat → Bool
  | 0, _ => true
  | d + 1, k => B (b + k) == (byN i).getD k 0 && mtA B b i d (k + 1)
/-- the token from b to e is the word i -/
def wdA (B : Nat → Nat) (t b e i : Nat) : Bool := t == 1 && e - b == lnN i && mtA B b i (lnN i) 0
theorem sch_eq : ∀ i, i < 11 → ∀ k, k < lnN i → sch i (nI k) = nI ((byN i).getD k 0) ∧ (byN i).getD k 0 < 256 := by decide +kernel
theorem lnN_le : ∀ i, i < 11 → lnN i ≤ 6 ∧ 3 ≤ lnN i := by decide +kernel
theorem words_apart : ∀ i, i < 11 → ∀ j, j < 11 → i ≠ j → ¬ (lnN i = lnN j ∧ (byN i).getD 0 0 = (byN j).getD 0 0) := by decide +kernel
theorem mtA_first {B : Nat → Nat} {b i : Nat} (hi : i < 11) (h : mtA B b i (lnN i) 0 = true) : B b = (byN i).getD 0 0 := by
  have hl := lnN_le i hi
  obtain ⟨n, hn⟩ : ∃ n, lnN i = n + 1 := ⟨lnN i - 1, by omega⟩
  rw [hn] at h
  simp only [mtA, Bool.and_eq_true, beq_iff_eq] at h
  exact h.1
theorem wdA_one {B : Nat → Nat} {t b e i j : Nat} (hi : i < 11) (hj : j < 11) (hij : i ≠ j) (h : wdA B t b e i = true) : wdA B t b e j = false := by
  by_cases c : wdA B t b e j = true
  · unfold wdA at h c
    rw [Bool.and_eq_true, Bool.and_eq_true] at h c
    have h1 := beq_iff_eq.mp h.1.2
    have c1 := beq_iff_eq.mp c.1.2
    have h2 := mtA_first hi h.2
    have c2 := mtA_first hj c.2
    exact absurd ⟨h1.symm.trans c1, h2.symm.trans c2⟩ (words_apart i hi j hj hij)
  · exact Bool.eq_false_iff.mpr c
theorem wdA_len {B : Nat → Nat} {t b e i : Nat} (hi : i < 11) (h : wdA B t b e i = true) : t = 1 ∧ b + 3 ≤ e := by
  unfold wdA at h
  rw [Bool.and_eq_true, Bool.and_eq_true] at h
  have h1 := beq_iff_eq.mp h.1.2
  have := lnN_le i hi
  exact ⟨beq_iff_eq.mp h.1.1, by omega⟩
section WW
variable {B : Nat → Nat} {N p t b e v i : Nat} {X Y : Mm}
theorem vin_ln (hi : i < 11) {k : Nat} (hk : k < lnN i) : vin (nI k) (lenJS.getD i 0) := vin_nI (show k < lenJS.getD i 0 from hk) (by have := (lnN_le i hi).1; show lnN i < 2 ^ 31; omega)
theorem word_x (hT : TC B N X Y) (hK : TK N p X Y t b e v) (hi : i < 11) (hl : e - b = lnN i) : ∀ (d k n : Nat), k + d = lnN i → d < n → f_X4_isWord_b28 n X 61 i (nI k) = some (X, if mtA B b i d k = true then 1 else 0) := by
  obtain ⟨k1, k2, k3, k4, k5, k6, k7, k8, k9, k10, k11⟩ := hK
  have hN := hT.2.2.1
  have hln := lnN_le i hi
  intro d
  induction d with
  | zero =>
    intro k n h1 h2
    obtain ⟨n, rfl⟩ : ∃ z, n = z + 1 := ⟨n - 1, by omega⟩
    simp only [f_X4_isWord_b28]
    rw [gd_t hi, if_pos (show slen i ≤ nI k from nI_le (a := lnN i) (by omega) (by omega))]
    rfl
  | succ d ih =>
    intro k n h1 h2
    obtain ⟨n, rfl⟩ : ∃ z, n = z + 1 := ⟨n - 1, by omega⟩
    obtain ⟨q1, q2⟩ := sch_eq i hi k (by omega)
    obtain ⟨b1, b2, b3⟩ := hT.2.2.2.2.2 (b + k) (by omega)
    simp only [f_X4_isWord_b28]
    rw [gd_t hi, if_neg (show ¬ slen i ≤ nI k from nI_ge (b := lnN i) (by omega) (by omega)), gd_t gX61, hT.1, Option.bind_some, k4, nI_add, gd_t (g62 (by omega)), gd_t ⟨hi, vin_ln hi (by omega)⟩, nI_clamp (by omega), b1, q1, nI_1]
    by_cases c : B (b + k) = (byN i).getD k 0
    · rw [if_pos (by rw [c]), ih (k + 1) n (by omega) (by omega), show mtA B b i (d + 1) k = mtA B b i d (k + 1) by simp only [mtA, c, beq_self_eq_true, Bool.true_and]]
    · rw [if_neg (fun z => c ((nI_eq (by omega) (by omega)).mp z)), if_neg (show ¬ mtA B b i (d + 1) k = true from fun h => by
        simp only [mtA, Bool.and_eq_true, beq_iff_eq] at h
        exact c h.1)]
theorem word_y (hT : TC B N X Y) (hK : TK N p X Y t b e v) (hi : i < 11) (hl : e - b = lnN i) : ∀ (d k n : Nat), k + d = lnN i → d + 1 < n → f_X7_isWord_b32 n Y 0 i 1 (nI k) = some (Y, if mtA B b i d k = true then 1 else 0) := by
  obtain ⟨k1, k2, k3, k4, k5, k6, k7, k8, k9, k10, k11⟩ := hK
  have hN := hT.2.2.1
  have hln := lnN_le i hi
  intro d
  induction d with
  | zero =>
    intro k n h1 h2
    obtain ⟨n, rfl⟩ : ∃ z, n = z + 1 := ⟨n - 1, by omega⟩
    simp only [f_X7_isWord_b32]
    rw [gd_t hi, if_pos (show slen i ≤ nI k from nI_le (a := lnN i) (by omega) (by omega)), gd_t (show bz (1 : Int32) from Or.inr rfl)]
    rfl
  | succ d ih =>
    intro k n h1 h2
    obtain ⟨n, rfl⟩ : ∃ z, n = z + 1 := ⟨n - 1, by omega⟩
    obtain ⟨q1, q2⟩ := sch_eq i hi k (by omega)
    obtain ⟨b1, b2, b3⟩ := hT.2.2.2.2.2 (b + k) (by omega)
    have step : f_X7_isWord_b32 (n + 1) Y 0 i 1 (nI k) = if nI (B (b + k)) = nI ((byN i).getD k 0) then f_X7_isWord_b32 n Y 0 i 1 (nI (k + 1)) else f_X7_isWord_b32 n Y 0 i 0 (nI (k + 1)) := by
      simp only [f_X7_isWord_b32]
      rw [gd_t hi, if_neg (show ¬ slen i ≤ nI k from nI_ge (b := lnN i) (by omega) (by omega)), if_neg (by decide), gd_t gM0, hT.2.1.at 8 rfl, Option.bind_some, k5, nI_add, gd_t (g5 (by omega)), gd_t ⟨hi, vin_ln hi (by omega)⟩, nI_clamp (by omega), b2, q1]
      unfold f_X7_isWord_b68
      rw [nI_1]
    rw [step]
    by_cases c : B (b + k) = (byN i).getD k 0
    · rw [if_pos (by rw [c]), ih (k + 1) n (by omega) (by omega), show mtA B b i (d + 1) k = mtA B b i d (k + 1) by simp only [mtA, c, beq_self_eq_true, Bool.true_and]]
    · rw [if_neg (fun z => c ((nI_eq (by omega) (by omega)).mp z)), if_neg (show ¬ mtA B b i (d + 1) k = true from fun h => by
        simp only [mtA, Bool.and_eq_true, beq_iff_eq] at h
        exact c h.1)]
      obtain ⟨n, rfl⟩ : ∃ z, n = z + 1 := ⟨n - 1, by omega⟩
      simp only [f_X7_isWord_b32]
      rw [gd_t hi, gd_t (show bz (0 : Int32) from Or.inl rfl), if_pos trivial, ite_self]
theorem wdA_iff (hl : e - b = lnN i) : (wdA B 1 b e i = true) ↔ mtA B b i (lnN i) 0 = true := by
  unfold wdA
  rw [Bool.and_eq_true, Bool.and_eq_true]
  exact ⟨fun h => h.2, fun h => ⟨⟨rfl, beq_iff_eq.mpr hl⟩, h⟩⟩
theorem dif {a b : Nat} (h : b ≤ a) : nI a - nI b = nI (a - b) := by
  obtain ⟨c, rfl⟩ : ∃ c, a = b + c := ⟨a - b, by omega⟩
  rw [← nI_add, Int32.add_comm, Int32.add_sub_cancel, Nat.add_sub_cancel_left]
theorem isWord (hT : TC B N X Y) (hK : TK N p X Y t b e v) (hi : i < 11) : f_X4_isWord X 61 i = some (X, if wdA B t b e i = true then 1 else 0) ∧ f_X7_isWord Y 0 i = some (Y, if wdA B t b e i = true then 1 else 0) := by
  obtain ⟨k1, k2, k3, k4, k5, k6, k7, k8, k9, k10, k11⟩ := id hK
  have hN := hT.2.2.1
  have hln := lnN_le i hi
  have y28 : f_X7_isWord_b28 Y 0 i = some (Y, 0) := by
    have w0 : ∀ n, f_X7_isWord_b32 (n + 1) Y 0 i 0 0 = some (Y, 0) := fun n => by
      simp only [f_X7_isWord_b32]
      rw [gd_t hi, gd_t (show bz (0 : Int32) from Or.inl rfl), if_pos trivial, ite_self]
    exact w0 999
  unfold f_X4_isWord f_X7_isWord
  rw [gd_t gX61, gd_t gM0, k2, k3, k6, k4, k7, k5, dif k9, y28]
  by_cases c : t = 1
  · subst c
    rw [if_pos (show nI 1 = (1 : Int32) from rfl), if_pos (show nI 1 = (1 : Int32) from rfl), gd_t hi, gd_t hi]
    by_cases c2 : e - b = lnN i
    · rw [if_pos (show nI (e - b) = slen i by rw [c2]; rfl), if_pos (show nI (e - b) = slen i by rw [c2]; rfl)]
      unfold f_X7_isWord_b29
      refine ⟨(word_x hT hK hi c2 (lnN i) 0 1000 (by omega) (by omega)).trans ?_, (word_y hT hK hi c2 (lnN i) 0 1000 (by omega) (by omega)).trans ?_⟩
      · rw [if_iff (wdA_iff c2)]
      · rw [if_iff (wdA_iff c2)]
    · have hf : ¬ wdA B 1 b e i = true := fun z => by
        unfold wdA at z
        rw [Bool.and_eq_true, Bool.and_eq_true] at z
        exact c2 (beq_iff_eq.mp z.1.2)
      have c2' : ¬ nI (e - b) = slen i := fun z => c2 ((nI_eq (b := lnN i) (by omega) (by omega)).mp z)
      rw [if_neg c2', if_neg c2', if_neg hf]
      exact ⟨rfl, rfl⟩
  · have hf : ¬ wdA B t b e i = true := fun z => by
      unfold wdA at z
      rw [Bool.and_eq_true, Bool.and_eq_true] at z
      exact c (beq_iff_eq.mp z.1.1)
    have c' : ¬ nI t = (1 : Int32) := fun z => c ((nI_eq (b := 1) (by omega) (by decide)).mp z)
    rw [if_neg c', if_neg c', if_neg hf]
    exact ⟨rfl, rfl⟩
/-- the token is a number from lo to hi -/
def nmA (t v : Nat) (lo hi : Int32) : Prop := t = 2 ∧ lo ≤ nI v ∧ nI v ≤ hi
theorem isNumber (hK : TK N p X Y t b e v) {lo hi : Int32} (hl : lo ≤ 1000) (hh : hi < 1000) : ((nmA t v lo hi → f_X4_isNumber X 61 lo hi = some (X, 1) ∧ f_X7_isNumber Y 0 lo hi = some (Y, 1) ∧ X.1 61 5 = nI v ∧ Y.1 0 13 = nI v) ∧ (¬ nmA t v lo hi → f_X4_isNumber X 61 lo hi = some (X, 0) ∧ f_X7_isNumber Y 0 lo hi = some (Y, 0))) := by
  obtain ⟨k1, k2, k3, k4, k5, k6, k7, k8, k9, k10, k11⟩ := hK
  unfold f_X4_isNumber f_X7_isNumber nmA
  rw [gd_t gX61, gd_t gM0, k2, k3, X7_in]
  by_cases c : t = 2
  · subst c
    obtain ⟨a1, a2, a3⟩ := k11 rfl
    rw [if_pos (show nI 2 = (2 : Int32) from rfl), if_pos (show nI 2 = (2 : Int32) from rfl), rgA, Option.bind_some, a1, a2]
    dsimp only
    rw [iteB]
    have key : (lo ≤ nI (min v 1000) ∧ nI (min v 1000) ≤ hi) ↔ (lo ≤ nI v ∧ nI v ≤ hi) := by
      by_cases d : v ≤ 1000
      · rw [Nat.min_eq_left d]
      · rw [Nat.min_eq_right (by omega)]
        have h1 : nI 1000 ≤ nI v := nI_le (by omega) (by omega)
        exact ⟨fun z => absurd (show hi < nI 1000 from hh) (Int32.not_lt.mpr z.2), fun z => absurd (show hi < nI 1000 from hh) (Int32.not_lt.mpr (Int32.le_trans h1 z.2))⟩
    refine ⟨fun h => ?_, fun h => ?_⟩
    · rw [if_pos (key.mpr h.2), if_pos h.2]
      refine ⟨rfl, rfl, ?_, rfl⟩
      by_cases d : v ≤ 1000
      · rw [Nat.min_eq_left d]
      · have h1 : nI 1000 ≤ nI v := nI_le (by omega) (by omega)
        exact absurd (show hi < nI 1000 from hh) (Int32.not_lt.mpr (Int32.le_trans h1 h.2.2))
    · have h' : ¬ (lo ≤ nI v ∧ nI v ≤ hi) := fun z => h ⟨rfl, z⟩
      rw [if_neg (fun z => h' (key.mp z)), if_neg h']
      exact ⟨rfl, rfl⟩
  · have c' : ¬ nI t = (2 : Int32) := fun z => c ((nI_eq (b := 2) (by omega) (by decide)).mp z)
    rw [if_neg c', if_neg c']
    exact ⟨fun h => absurd h.1 c, fun _ => ⟨rfl, rfl⟩⟩
end WW

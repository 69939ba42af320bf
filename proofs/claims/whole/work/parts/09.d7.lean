/-! ===== sheets ===== -/
theorem gSh {i : Nat} (hi : i < 4) : okA nX shX 63 12 (nI i) := ⟨by decide, vin_nI (show i < 4 from hi) (by decide)⟩
theorem gS2 {i : Nat} (hi : i < 4) : ok nX shX (65 + 2 * i) 2 := by
  have h : ∀ i, i < 4 → ok nX shX (65 + 2 * i) 2 := by decide
  exact h i hi
theorem gSn {i k : Nat} (hi : i < 4) (hk : k < 40) : okA nX shX (66 + 2 * i) 8 (nI k) := by
  have h : ∀ i, i < 4 → ok nX shX (66 + 2 * i) 8 ∧ (shX (66 + 2 * i)).2 = 40 := by decide
  exact ⟨(h i hi).1, by rw [(h i hi).2]; exact vin_nI hk (by decide)⟩
theorem gB4 {i : Nat} (hi : i < 4) : okA nM shM 14 8 (nI i) := ⟨by decide, vin_nI (show i < 4 from hi) (by decide)⟩
theorem gB5 {i : Nat} (hi : i < 4) : okA nM shM 15 8 (nI i) := ⟨by decide, vin_nI (show i < 4 from hi) (by decide)⟩
theorem gB6 {k : Nat} (hk : k < 160) : okA nM shM 16 8 (nI k) := ⟨by decide, vin_nI (show k < 160 from hk) (by decide)⟩
theorem gB7 {k : Nat} (hk : k < 40) : okA nM shM 17 8 (nI k) := ⟨by decide, vin_nI (show k < 40 from hk) (by decide)⟩
theorem ix40 (i k : Nat) : (40 : Int32) * nI i + nI k = nI (40 * i + k) := by
  rw [show (40 : Int32) = nI 40 from rfl, pk_mul, nI_add]
section MM
variable {X Y : Mm}
theorem X7_isSheet (a : Int32) : f_X7_isSheet Y a = some (Y, if 0 ≤ a ∧ a ≤ 3 then 1 else 0) := by
  unfold f_X7_isSheet
  rw [X7_in, Option.bind_some, gd_t bzB]
theorem Rel.sh (h : Rel X Y) {X' Y' : Mm} (hx : X'.2 = X.2) (hy : Y'.2 = Y.2) (ho : ∀ o, o < 65 → X'.1 o = X.1 o) (y : ∀ o, o < 14 → Y'.1 o = Y.1 o) (hS : SH X' Y') : Rel X' Y' := by
  obtain ⟨r1, r2, r3, r4, r5, r6, r7, r8, r9, r10, r11⟩ := h
  have hx : X'.2.2 = X.2.2 := by rw [hx]
  refine ⟨r1.at hx, by unfold RM; rw [hy]; exact r2, by rw [y 1 (by decide)]; exact r3, by rw [y 1 (by decide)]; exact r4.at r3 r1.2.1 hx (fun o h1 h2 => ho o (by omega)), r5.at r1.2.2.1 hx (fun o h1 h2 => ho o (by omega)), r6.at r1.2.2.2 hx (fun o h1 h2 => ho o (by omega)), r7.at r1.2.2.1 hx (fun o h1 h2 => ho o (by omega)) (by rw [ho 0 (by decide)]) (by rw [y 0 (by decide)]) (y 2 (by decide)), r8.at (ho 64 (by decide)) (y 4 (by decide)), r9.at (by rw [ho 61 (by decide)]) (ho 62 (by decide)) (by rw [y 0 (by decide)]) (y 5 (by decide)), hS, by rw [y 0 (by decide)]; exact r11⟩
theorem X2_renew_loop {i : Nat} (hi : i < 4) : ∀ (d j n : Nat) (M : Mm), j + d = 40 → d < n → M.2.2 (65 + 2 * i) 0 = some (66 + 2 * i) →
    ∃ M', f_X2_renew_b12 n M (65 + 2 * i) (nI j) = some (M', ()) ∧ M'.2 = M.2 ∧ (∀ k, j ≤ k → k < 40 → M'.1 (66 + 2 * i) k = 0) ∧ (∀ k, k < j → M'.1 (66 + 2 * i) k = M.1 (66 + 2 * i) k) ∧ ∀ o, o ≠ 66 + 2 * i → M'.1 o = M.1 o := by
  intro d
  induction d with
  | zero =>
    intro j n M h1 h2 h3
    obtain ⟨n, rfl⟩ : ∃ z, n = z + 1 := ⟨n - 1, by omega⟩
    refine ⟨M, ?_, rfl, fun k _ _ => by omega, fun _ _ => rfl, fun _ _ => rfl⟩
    simp only [f_X2_renew_b12]
    rw [if_pos (show (40 : Int32) ≤ nI j from nI_le (a := 40) (by omega) (by omega))]
  | succ d ih =>
    intro j n M h1 h2 h3
    obtain ⟨n, rfl⟩ : ∃ z, n = z + 1 := ⟨n - 1, by omega⟩
    obtain ⟨M', e1, e2, e3, e4, e5⟩ := ih (j + 1) n (sI M (66 + 2 * i) j 0) (by omega) (by omega) h3
    refine ⟨M', ?_, e2, fun k hk hk2 => ?_, fun k hk => by rw [e4 k (by omega), rdK (by omega)], fun o ho => by rw [e5 o ho, sI_obj ho]⟩
    · simp only [f_X2_renew_b12]
      rw [if_neg (show ¬ (40 : Int32) ≤ nI j from nI_ge (b := 40) (by omega) (by decide)), gd_t (gS2 hi), h3, Option.bind_some, gd_t (gSn hi (by omega)), nI_clamp (by omega), nI_1]
      exact e1
    · by_cases c : k = j
      · subst c
        rw [e4 k (by omega), rdE]
      · exact e3 k (by omega) hk2
theorem X7_sheet_loop {i : Nat} (hi : i < 4) : ∀ (d j n : Nat) (M : Mm), j + d = 40 → d < n → RM M →
    ∃ M', f_X7_sheet_b83 n M 0 (nI i) (nI j) = some (M', M.1 15 i) ∧ M'.2 = M.2 ∧ (∀ k, j ≤ k → k < 40 → M'.1 16 (40 * i + k) = 0) ∧ (∀ k, (k < 40 * i + j ∨ 40 * i + 40 ≤ k) → M'.1 16 k = M.1 16 k) ∧ ∀ o, o ≠ 16 → M'.1 o = M.1 o := by
  intro d
  induction d with
  | zero =>
    intro j n M h1 h2 h3
    obtain ⟨n, rfl⟩ : ∃ z, n = z + 1 := ⟨n - 1, by omega⟩
    refine ⟨M, ?_, rfl, fun k _ _ => by omega, fun _ _ => rfl, fun _ _ => rfl⟩
    simp only [f_X7_sheet_b83]
    rw [if_pos (show (40 : Int32) ≤ nI j from nI_le (a := 40) (by omega) (by omega)), gd_t gM0, h3.at 27 rfl, Option.bind_some, gd_t (gB5 hi), nI_clamp (by omega)]
  | succ d ih =>
    intro j n M h1 h2 h3
    obtain ⟨n, rfl⟩ : ∃ z, n = z + 1 := ⟨n - 1, by omega⟩
    obtain ⟨M', e1, e2, e3, e4, e5⟩ := ih (j + 1) n (sI M 16 (40 * i + j) 0) (by omega) (by omega) h3
    refine ⟨M', ?_, e2, fun k hk hk2 => ?_, fun k hk => by rw [e4 k (by omega), rdK (by omega)], fun o ho => by rw [e5 o ho, sI_obj ho]⟩
    · simp only [f_X7_sheet_b83]
      rw [if_neg (show ¬ (40 : Int32) ≤ nI j from nI_ge (b := 40) (by omega) (by decide)), gd_t gM0, h3.at 28 rfl, Option.bind_some, ix40, gd_t (gB6 (by omega)), nI_clamp (by omega), nI_1]
      exact e1
    · by_cases c : k = j
      · subst c
        rw [e4 _ (by omega), rdE]
      · exact e3 k (by omega) hk2
theorem B_sheet (h : Rel X Y) (a b c : Int32) : Both (f_X6_sheet X 0 a b c) (f_X7_sheet Y 0 a b c) := by
  have x6 := h.xq.1.2.2.2.2.2.1
  have hS := h.2.2.2.2.2.2.2.2.2.1
  unfold f_X6_sheet f_X7_sheet f_X6_sheet_b29 f_X7_sheet_b29
  rw [X6_isSheet, X7_isSheet]
  simp only [Option.bind_some, iteB, gd_t gX0, gd_t gM0, X6_finding h.xq 0 (by decide) 0 rfl, X7_finding h.rm 0 (by decide) 0 rfl]
  by_cases c1 : 0 ≤ a ∧ a ≤ 3
  · simp only [if_pos c1]
    obtain ⟨i, hi, rfl⟩ := nI_at' c1.1 (show (3 : Nat) < 2 ^ 31 by decide) c1.2
    have hi4 : i < 4 := by omega
    have key : (∃ bb : Nat, (bb = 0 ∨ bb = 8 ∨ bb = 16 ∨ bb = 32) ∧ b = nI bb) → Both (f_X6_sheet_b35 X 0 (nI i) b c) (f_X7_sheet_b35 Y 0 (nI i) b c) := by
      rintro ⟨bb, hb, rfl⟩
      unfold f_X6_sheet_b35 f_X7_sheet_b35
      simp only [Option.bind_some, gd_t gX0, gd_t gM0, X6_finding h.xq 0 (by decide) 0 rfl, X7_finding h.rm 0 (by decide) 0 rfl, X6_finding h.xq 6 (by decide) 6 rfl, X7_finding h.rm 6 (by decide) 6 rfl]
      by_cases c2 : 0 ≤ c
      · simp only [if_pos c2]
        by_cases c3 : c ≤ 40
        · simp only [if_pos c3]
          obtain ⟨z, hz, rfl⟩ := nI_at' c2 (show (40 : Nat) < 2 ^ 31 by decide) c3
          have fin : ∀ zz, zz ≤ 40 → Both (f_X6_sheet_b74 X 0 (nI i) (65 + 2 * i) (nI bb) (nI zz)) (f_X7_sheet_b79 (sI Y 14 i (nI bb)) 0 (nI i) 15 (nI i) (nI zz)) := by
            intro zz hzz
            obtain ⟨X', e1, e2, e3, e4, e5⟩ := X2_renew_loop hi4 40 0 1000 (sI (sI X (65 + 2 * i) 1 (nI bb)) (65 + 2 * i) 2 (nI zz)) (by omega) (by omega) (h.xq.2.2.2.2 i hi4)
            obtain ⟨Y', f1, f2, f3, f4, f5⟩ := X7_sheet_loop hi4 40 0 1000 (sI (sI Y 14 i (nI bb)) 15 i (nI zz)) (by omega) (by omega) h.rm
            have e1' : f_X2_renew X (65 + 2 * i) (nI bb) (nI zz) = some (X', ()) := by
              unfold f_X2_renew
              rw [gd_t (gS2 hi4)]
              exact e1
            unfold f_X6_sheet_b74 f_X7_sheet_b79
            have ei : (nI i).toNatClampNeg = i := nI_clamp (by omega)
            rw [gd_t (gS2 hi4), e1', Option.bind_some, gd_t gX0, gd_t (gB5 hi4)]
            simp only [lt, ei]
            rw [show X'.2.2 0 6 = some 63 by rw [e2]; exact x6, Option.bind_some, gd_t (gSh hi4), show X'.2.2 63 i = some (65 + 2 * i) by rw [e2]; exact h.xq.2.2.2.1 i hi4, Option.bind_some, gd_t (gS2 hi4)]
            rw [show f_X7_sheet_b83 1000 (sI (sI Y 14 i (nI bb)) 15 i (nI zz)) 0 (nI i) 0 = _ from f1, rdE]
            refine ⟨_, _, _, rfl, ?_, h.sh (X' := X') (Y' := Y') e2 f2 (fun o ho => by rw [e5 o (by omega), sI_obj (by omega), sI_obj (by omega)]) (fun o ho => by rw [f5 o (by omega), sI_obj (by omega), sI_obj (by omega)]) ?_⟩
            · rw [e5 _ (by omega), rdE]
            · intro q hq
              by_cases cq : q = i
              · subst cq
                refine ⟨bb, zz, hb, hzz, ?_, ?_, ?_, ?_, fun k hk => ?_⟩
                · rw [e5 _ (by omega), rdK (by decide), rdE]
                · rw [f5 _ (by decide), sI_obj (by decide), rdE]
                · rw [e5 _ (by omega), rdE]
                · rw [f5 _ (by decide), rdE]
                · rw [e3 k (by omega) hk, f3 k (by omega) hk]
              · obtain ⟨b', z', s1, s2, s3, s4, s5, s6, s7⟩ := hS q hq
                refine ⟨b', z', s1, s2, ?_, ?_, ?_, ?_, fun k hk => ?_⟩
                · rw [e5 _ (by omega), sI_obj (by omega), sI_obj (by omega)]; exact s3
                · rw [f5 _ (by decide), sI_obj (by decide), rdK cq]; exact s4
                · rw [e5 _ (by omega), sI_obj (by omega), sI_obj (by omega)]; exact s5
                · rw [f5 _ (by decide), rdK cq, sI_obj (by decide)]; exact s6
                · rw [e5 _ (by omega), sI_obj (by omega), sI_obj (by omega), f4 _ (by omega), sI_obj (by decide), sI_obj (by decide)]; exact s7 k hk
          rw [x6, Option.bind_some, gd_t (gSh hi4), show X.2.2 63 (nI i).toNatClampNeg = some (65 + 2 * i) by rw [nI_clamp (by omega)]; exact h.xq.2.2.2.1 i hi4, Option.bind_some, h.rm.at 26 rfl, Option.bind_some, gd_t (gB4 hi4), nI_clamp (by omega)]
          simp only [lt]
          rw [show (sI Y 14 i (nI bb)).2.2 0 27 = some 15 from h.rm.at 27 rfl, Option.bind_some]
          by_cases c4 : nI bb = 0
          · rw [if_pos c4, if_pos c4]
            exact fin 0 (by decide)
          · rw [if_neg c4, if_neg c4]
            exact fin z hz
        · simp only [if_neg c3]
          exact Both.fin h 0 _
      · simp only [if_neg c2]
        exact Both.fin h 6 _
    by_cases d0 : b = 0
    · rw [if_pos d0, if_pos d0]
      exact key ⟨0, by decide, d0⟩
    rw [if_neg d0, if_neg d0]
    by_cases d1 : b = 8
    · rw [if_pos d1, if_pos d1]
      exact key ⟨8, by decide, d1⟩
    rw [if_neg d1, if_neg d1]
    by_cases d2 : b = 16
    · rw [if_pos d2, if_pos d2]
      exact key ⟨16, by decide, d2⟩
    rw [if_neg d2, if_neg d2]
    by_cases d3 : b = 32
    · rw [if_pos d3, if_pos d3]
      exact key ⟨32, by decide, d3⟩
    rw [if_neg d3, if_neg d3]
    exact Both.fin h 0 _
  · simp only [if_neg c1]
    exact Both.fin h 0 _
theorem toNat_toInt2 (x : Int32) : (x.toInt = x.toBitVec.toNat ∧ x.toBitVec.toNat < 2147483648) ∨ (x.toInt = (x.toBitVec.toNat : Int) - 4294967296 ∧ 2147483648 ≤ x.toBitVec.toNat) := by
  have h : x.toInt = x.toBitVec.toInt := rfl
  rw [h, BitVec.toInt_eq_toNat_cond]
  split
  · exact Or.inl ⟨rfl, by omega⟩
  · exact Or.inr ⟨rfl, by omega⟩
theorem na8 {N R : Nat} {I J : Int} (hN : N < 2 ^ 32) (hR : R = N * 2 ^ 24 % 2 ^ 32) (h1 : I = (N : Int) ∨ I = (N : Int) - 4294967296) (h2 : (J = (R : Int) ∧ R < 2147483648) ∨ (J = (R : Int) - 4294967296 ∧ 2147483648 ≤ R)) : J / ((2 ^ 24 : Nat) : Int) = I.bmod (2 ^ 8) := by
  have e : (2 ^ 32 : Nat) = 4294967296 := by decide
  have e1 : (2 ^ 24 : Nat) = 16777216 := by decide
  have e2 : (2 ^ 8 : Nat) = 256 := by decide
  rw [e, e1] at hR
  rw [e] at hN
  rw [e1, e2, Int.bmod]
  split <;> omega
theorem na16 {N R : Nat} {I J : Int} (hN : N < 2 ^ 32) (hR : R = N * 2 ^ 16 % 2 ^ 32) (h1 : I = (N : Int) ∨ I = (N : Int) - 4294967296) (h2 : (J = (R : Int) ∧ R < 2147483648) ∨ (J = (R : Int) - 4294967296 ∧ 2147483648 ≤ R)) : J / ((2 ^ 16 : Nat) : Int) = I.bmod (2 ^ 16) := by
  have e : (2 ^ 32 : Nat) = 4294967296 := by decide
  have e1 : (2 ^ 16 : Nat) = 65536 := by decide
  rw [e, e1] at hR
  rw [e] at hN
  rw [e1, Int.bmod]
  split <;> omega
theorem nar8 (v : Int32) (s : Int32) (hs : (s.toBitVec.smod 32).toNat = 24) : (v <<< s) >>> s = v.toInt8.toInt32 := by
  apply Int32.toInt_inj.mp
  rw [pk_shr _ _ 24 hs, Int.shiftRight_eq_div_pow, Int8.toInt_toInt32, Int32.toInt_toInt8]
  exact na8 v.toBitVec.isLt (pk_shl v s 24 hs) (toNat_toInt v) (toNat_toInt2 _)
theorem nar16 (v : Int32) (s : Int32) (hs : (s.toBitVec.smod 32).toNat = 16) : (v <<< s) >>> s = v.toInt16.toInt32 := by
  apply Int32.toInt_inj.mp
  rw [pk_shr _ _ 16 hs, Int.shiftRight_eq_div_pow, Int16.toInt_toInt32, Int32.toInt_toInt16]
  exact na16 v.toBitVec.isLt (pk_shl v s 16 hs) (toNat_toInt v) (toNat_toInt2 _)
theorem nar32 (v : Int32) (s : Int32) (hs : (s.toBitVec.smod 32).toNat = 0) : (v <<< s) >>> s = v := by
  have b1 := v.toBitVec.isLt
  have h4 : (v <<< s).toBitVec = v.toBitVec := by
    apply BitVec.eq_of_toNat_eq
    rw [pk_shl v s 0 hs, Nat.pow_zero, Nat.mul_one, Nat.mod_eq_of_lt b1]
  have h5 : (v <<< s).toInt = v.toInt := congrArg BitVec.toInt h4
  apply Int32.toInt_inj.mp
  rw [pk_shr _ _ 0 hs, Int.shiftRight_eq_div_pow, h5]
  simp
/-- what is written in a sheet of so many bits -/
def narA (b : Nat) (v : Int32) : Int32 := if b = 8 then v.toInt8.toInt32 else if b = 16 then v.toInt16.toInt32 else v
theorem narB {b : Nat} (hb : b = 8 ∨ b = 16 ∨ b = 32) (v : Int32) : (v <<< (((32 : Int32) - nI b) &&& 31)) >>> (((32 : Int32) - nI b) &&& 31) = narA b v := by
  rcases hb with rfl | rfl | rfl
  · exact nar8 v _ (by decide +kernel)
  · exact nar16 v _ (by decide +kernel)
  · exact nar32 v _ (by decide +kernel)
theorem X2_put {i : Nat} (hi : i < 4) (hq : XQ X) {b k : Nat} (hb : b = 8 ∨ b = 16 ∨ b = 32) (h1 : X.1 (65 + 2 * i) 1 = nI b) (hk : k < 40) (v : Int32) : f_X2_put X (65 + 2 * i) (nI k) v = some (sI X (66 + 2 * i) k (narA b v), ()) := by
  unfold f_X2_put
  rw [gd_t (gS2 hi), h1, hq.2.2.2.2 i hi, Option.bind_some, Option.bind_some, Option.bind_some, gd_t (gSn hi hk), gd_t (gSn hi hk), gd_t (gSn hi hk), nI_clamp (by omega)]
  rcases hb with rfl | rfl | rfl
  · rw [if_pos (show nI 8 = (8 : Int32) from rfl)]
    rfl
  · rw [if_neg (show ¬ nI 16 = (8 : Int32) by decide), if_pos (show nI 16 = (16 : Int32) from rfl)]
    rfl
  · rw [if_neg (show ¬ nI 32 = (8 : Int32) by decide), if_neg (show ¬ nI 32 = (16 : Int32) by decide)]
    rfl
theorem X2_isMissing {i : Nat} (hi : i < 4) : f_X2_isMissing X (65 + 2 * i) = some (X, if X.1 (65 + 2 * i) 1 = 0 then 1 else 0) := by
  unfold f_X2_isMissing
  rw [gd_t (gS2 hi)]
  split <;> rfl
theorem b0 {b : Nat} (h : b = 0 ∨ b = 8 ∨ b = 16 ∨ b = 32) : nI b = (0 : Int32) ↔ b = 0 := by
  rcases h with rfl | rfl | rfl | rfl <;> decide
theorem B_write (h : Rel X Y) (a c v : Int32) : Both (f_X6_write X 0 a c v) (f_X7_write Y 0 a c v) := by
  have x6 := h.xq.1.2.2.2.2.2.1
  have hS := h.2.2.2.2.2.2.2.2.2.1
  unfold f_X6_write f_X7_write f_X6_write_b48
  rw [X6_isSheet, X7_isSheet]
  simp only [Option.bind_some, iteB, gd_t gX0, gd_t gM0, X6_finding h.xq 0 (by decide) 0 rfl, X7_finding h.rm 0 (by decide) 0 rfl]
  by_cases c1 : 0 ≤ a ∧ a ≤ 3
  · simp only [if_pos c1]
    obtain ⟨i, hi, rfl⟩ := nI_at' c1.1 (show (3 : Nat) < 2 ^ 31 by decide) c1.2
    have hi4 : i < 4 := by omega
    obtain ⟨b, z, s1, s2, s3, s4, s5, s6, s7⟩ := hS i hi4
    have e63 : X.2.2 63 i = some (65 + 2 * i) := h.xq.2.2.2.1 i hi4
    have ei : (nI i).toNatClampNeg = i := nI_clamp (by omega)
    simp only [x6, Option.bind_some, gd_t (gSh hi4), ei, e63, gd_t (gS2 hi4), X2_isMissing hi4, iteB, s3, h.rm.at 26 (q := 14) rfl, h.rm.at 27 (q := 15) rfl, h.rm.at 28 (q := 16) rfl, gd_t (gB4 hi4), gd_t (gB5 hi4), s4, s5, s6, X7_in, X6_finding h.xq 5 (by decide) 5 rfl, X7_finding h.rm 5 (by decide) 5 rfl, X6_finding h.xq 0 (by decide) 0 rfl, X7_finding h.rm 0 (by decide) 0 rfl]
    by_cases c2 : nI b = 0
    · simp only [if_pos c2]
      exact Both.fin h 5 _
    · simp only [if_neg c2]
      have hb : b = 8 ∨ b = 16 ∨ b = 32 := by
        have s0 := s1
        rcases s1 with e | e
        · exact absurd ((b0 s0).mpr e) c2
        · exact e
      rw [if_iff (pre_lt (a := c) (n := z) (by omega))]
      by_cases c3 : c < 0
      · rw [if_pos c3, if_neg (fun q => absurd c3 (Int32.not_lt.mpr q.1))]
        exact Both.fin h 0 _
      · rw [if_neg c3]
        by_cases c4 : c < nI z
        · rw [if_pos c4, if_pos ⟨Int32.not_lt.mp c3, c4⟩]
          obtain ⟨k, hk, rfl⟩ := nI_at (Int32.not_lt.mp c3) (by omega) c4
          have eik : (nI (40 * i + k)).toNatClampNeg = 40 * i + k := nI_clamp (by omega)
          rw [X2_put hi4 h.xq hb s3 (by omega), ix40]
          simp only [Option.bind_some, lt, gd_t (gB6 (show 40 * i + k < 160 by omega)), narB hb, eik]
          refine ⟨_, _, _, rfl, rfl, h.sh rfl rfl (fun o ho => sI_obj (by omega)) (fun o ho => sI_obj (by omega)) ?_⟩
          intro q hq
          obtain ⟨b', z', s1, s2, s3, s4, s5, s6, s7⟩ := hS q hq
          refine ⟨b', z', s1, s2, ?_, ?_, ?_, ?_, fun k' hk' => ?_⟩
          · rw [sI_obj (by omega)]; exact s3
          · rw [sI_obj (by decide)]; exact s4
          · rw [sI_obj (by omega)]; exact s5
          · rw [sI_obj (by decide)]; exact s6
          · by_cases cq : q = i
            · subst cq
              by_cases ck : k' = k
              · subst ck
                rw [rdE, rdE]
              · rw [rdK ck, rdK (by omega)]
                exact s7 k' hk'
            · rw [sI_obj (by omega), rdK (by omega)]
              exact s7 k' hk'
        · rw [if_neg c4, if_neg (fun q => c4 q.2)]
          exact Both.fin h 0 _
  · simp only [if_neg c1]
    exact Both.fin h 0 _
end MM

section MM
variable {X Y : Mm}
theorem sub_lt {z f m : Nat} (hz : z ≤ 40) (hf : f < 2 ^ 31) (hm : m < 2 ^ 31) : nI z - nI f < nI m ↔ z < f + m := by
  rw [Int32.lt_iff_toInt_lt, Int32.toInt_sub, nI_toInt (by omega), nI_toInt hf, nI_toInt hm, Int.bmod]
  have e3 : (2 ^ 32 : Nat) = 4294967296 := by decide
  rw [e3]
  split <;> omega
theorem X2_hasRange {i : Nat} (hi : i < 4) {z f m : Nat} (hz : z ≤ 40) (h2 : X.1 (65 + 2 * i) 2 = nI z) (hf : f < 2 ^ 31) (hm : m < 2 ^ 31) : f_X2_hasRange X (65 + 2 * i) (nI f) (nI m) = some (X, if f + m ≤ z then 1 else 0) := by
  unfold f_X2_hasRange
  rw [if_neg (nI_pos hf), if_neg (nI_pos hm), gd_t (gS2 hi), h2]
  by_cases c : z < f + m
  · rw [if_pos ((sub_lt hz hf hm).mpr c), if_neg (by omega)]
  · rw [if_neg (fun q => c ((sub_lt hz hf hm).mp q)), if_pos (by omega)]
theorem X7_copy2_loop {i f m : Nat} (hi : i < 4) (hm : f + m ≤ 40) : ∀ (d j n : Nat) (M : Mm), j + d = m → d < n → RM M →
    ∃ M', f_X7_copy_b152 n M 0 (nI i) (nI f) (nI m) (nI j) = some (M', nI m) ∧ M'.2 = M.2 ∧ (∀ k, M'.1 16 k = if 40 * i + f + j ≤ k ∧ k < 40 * i + f + m then M.1 17 (k - (40 * i + f)) else M.1 16 k) ∧ ∀ o, o ≠ 16 → M'.1 o = M.1 o := by
  intro d
  induction d with
  | zero =>
    intro j n M h1 h2 h3
    obtain ⟨n, rfl⟩ : ∃ z, n = z + 1 := ⟨n - 1, by omega⟩
    refine ⟨M, ?_, rfl, fun k => by rw [if_neg (by omega)], fun _ _ => rfl⟩
    simp only [f_X7_copy_b152]
    rw [if_pos (nI_le (by omega) (by omega))]
  | succ d ih =>
    intro j n M h1 h2 h3
    obtain ⟨n, rfl⟩ : ∃ z, n = z + 1 := ⟨n - 1, by omega⟩
    obtain ⟨M', e1, e2, e3, e4⟩ := ih (j + 1) n (sI M 16 (40 * i + f + j) (M.1 17 j)) (by omega) (by omega) h3
    refine ⟨M', ?_, e2, fun k => ?_, fun o ho => by rw [e4 o ho, sI_obj ho]⟩
    · simp only [f_X7_copy_b152]
      rw [if_neg (nI_ge (by omega) (by omega)), gd_t gM0, h3.at 28 rfl, Option.bind_some, h3.at 29 rfl, Option.bind_some, gd_t (gB7 (by omega)), ix40, nI_add, gd_t (gB6 (by omega)), nI_clamp (by omega), nI_clamp (by omega), nI_1]
      exact e1
    · rw [e3 k, sI_obj (show 17 ≠ 16 by decide)]
      by_cases c : k = 40 * i + f + j
      · subst c
        rw [if_neg (by omega), if_pos (by omega), rdE, show 40 * i + f + j - (40 * i + f) = j by omega]
      · rw [rdK c]
        by_cases c2 : 40 * i + f + (j + 1) ≤ k ∧ k < 40 * i + f + m
        · rw [if_pos c2, if_pos (by omega)]
        · rw [if_neg c2, if_neg (by omega)]
theorem X7_copy1_loop {i f t g m : Nat} (hi : i < 4) (ht : t < 4) (hm : f + m ≤ 40) (hg : g + m ≤ 40) : ∀ (d j n : Nat) (M : Mm), j + d = m → d < n → RM M →
    ∃ M1, f_X7_copy_b115 n M 0 (nI i) (nI f) (nI t) (nI g) (nI m) (nI j) = f_X7_copy_b152 1000 M1 0 (nI t) (nI g) (nI m) 0 ∧ M1.2 = M.2 ∧ (∀ k, M1.1 17 k = if j ≤ k ∧ k < m then M.1 16 (40 * i + f + k) else M.1 17 k) ∧ ∀ o, o ≠ 17 → M1.1 o = M.1 o := by
  intro d
  induction d with
  | zero =>
    intro j n M h1 h2 h3
    obtain ⟨n, rfl⟩ : ∃ z, n = z + 1 := ⟨n - 1, by omega⟩
    refine ⟨M, ?_, rfl, fun k => by rw [if_neg (by omega)], fun _ _ => rfl⟩
    simp only [f_X7_copy_b115]
    rw [if_pos (nI_le (by omega) (by omega))]
  | succ d ih =>
    intro j n M h1 h2 h3
    obtain ⟨n, rfl⟩ : ∃ z, n = z + 1 := ⟨n - 1, by omega⟩
    obtain ⟨M', e1, e2, e3, e4⟩ := ih (j + 1) n (sI M 17 j (M.1 16 (40 * i + f + j))) (by omega) (by omega) h3
    refine ⟨M', ?_, e2, fun k => ?_, fun o ho => by rw [e4 o ho, sI_obj ho]⟩
    · simp only [f_X7_copy_b115]
      rw [if_neg (nI_ge (by omega) (by omega)), gd_t gM0, h3.at 29 rfl, Option.bind_some, h3.at 28 rfl, Option.bind_some, ix40, nI_add, gd_t (gB6 (by omega)), gd_t (gB7 (by omega)), nI_clamp (by omega), nI_clamp (by omega), nI_1]
      exact e1
    · rw [e3 k, sI_obj (show 16 ≠ 17 by decide)]
      by_cases c : k = j
      · subst c
        rw [if_neg (by omega), if_pos (by omega), rdE]
      · rw [rdK c]
        by_cases c2 : j + 1 ≤ k ∧ k < m
        · rw [if_pos c2, if_pos (by omega)]
        · rw [if_neg c2, if_neg (by omega)]
theorem cpI_at {M : Mm} {a0 a1 sp dp n k : Nat} : (cpI M a0 a1 sp dp n).1 a1 k = if dp ≤ k ∧ k < dp + n then M.1 a0 (sp + (k - dp)) else M.1 a1 k := by
  simp only [cpI]
  rw [if_pos trivial]
  by_cases c : dp ≤ k ∧ k < dp + n
  · rw [if_pos c, pk_cpy_in c.1 c.2]
  · rw [if_neg c, pk_cpy_out (by omega)]
theorem cpI_ne {M : Mm} {a0 a1 sp dp n o : Nat} (h : o ≠ a1) : (cpI M a0 a1 sp dp n).1 o = M.1 o := by
  funext k
  simp only [cpI]
  rw [if_neg h]
theorem B_copy (h : Rel X Y) (a f t g m : Int32) : Both (f_X6_copy X 0 a f t g m) (f_X7_copy Y 0 a f t g m) := by
  have x6 := h.xq.1.2.2.2.2.2.1
  have hS := h.2.2.2.2.2.2.2.2.2.1
  unfold f_X6_copy f_X7_copy f_X6_copy_b14 f_X7_copy_b14 f_X6_copy_b52 f_X7_copy_b38 f_X6_copy_b100 f_X7_copy_b106
  rw [X6_isSheet, X7_isSheet]
  simp only [Option.bind_some, iteB, X6_isSheet, X7_isSheet, gd_t gX0, gd_t gM0, X6_finding h.xq 0 (by decide) 0 rfl, X7_finding h.rm 0 (by decide) 0 rfl, X6_finding h.xq 5 (by decide) 5 rfl, X7_finding h.rm 5 (by decide) 5 rfl]
  by_cases c1 : 0 ≤ a ∧ a ≤ 3
  · simp only [if_pos c1]
    by_cases c2 : 0 ≤ t ∧ t ≤ 3
    · simp only [if_pos c2]
      obtain ⟨i, hi, rfl⟩ := nI_at' c1.1 (show (3 : Nat) < 2 ^ 31 by decide) c1.2
      obtain ⟨j, hj, rfl⟩ := nI_at' c2.1 (show (3 : Nat) < 2 ^ 31 by decide) c2.2
      have hi4 : i < 4 := by omega
      have hj4 : j < 4 := by omega
      obtain ⟨b, z, s1, s2, s3, s4, s5, s6, s7⟩ := hS i hi4
      obtain ⟨b', z', u1, u2, u3, u4, u5, u6, u7⟩ := hS j hj4
      have e63 : X.2.2 63 i = some (65 + 2 * i) := h.xq.2.2.2.1 i hi4
      have e63' : X.2.2 63 j = some (65 + 2 * j) := h.xq.2.2.2.1 j hj4
      have ei : (nI i).toNatClampNeg = i := nI_clamp (by omega)
      have ej : (nI j).toNatClampNeg = j := nI_clamp (by omega)
      simp only [x6, Option.bind_some, gd_t (gSh hi4), gd_t (gSh hj4), ei, ej, e63, e63', gd_t (gS2 hi4), gd_t (gS2 hj4), X2_isMissing hi4, X2_isMissing hj4, iteB, s3, u3, h.rm.at 26 (q := 14) rfl, h.rm.at 27 (q := 15) rfl, gd_t (gB4 hi4), gd_t (gB4 hj4), gd_t (gB5 hi4), gd_t (gB5 hj4), s4, u4, s5, s6, u5, u6, X6_finding h.xq 5 (by decide) 5 rfl, X7_finding h.rm 5 (by decide) 5 rfl, X6_finding h.xq 0 (by decide) 0 rfl, X7_finding h.rm 0 (by decide) 0 rfl, X6_finding h.xq 2 (by decide) 2 rfl, X7_finding h.rm 2 (by decide) 2 rfl]
      by_cases c3 : nI b = 0
      · simp only [if_pos c3]
        exact Both.fin h 5 _
      simp only [if_neg c3]
      by_cases c4 : nI b' = 0
      · simp only [if_pos c4]
        exact Both.fin h 5 _
      simp only [if_neg c4]
      by_cases c5 : nI b = nI b'
      · simp only [if_pos c5]
        by_cases d1 : f < 0
        · have e : f_X2_hasRange X (65 + 2 * i) f m = some (X, 0) := by
            unfold f_X2_hasRange
            rw [if_pos d1]
          rw [e, if_pos d1]
          simp only [Option.bind_some, if_pos trivial, X6_finding h.xq 0 (by decide) 0 rfl]
          exact Both.fin h 0 _
        by_cases d3 : m < 0
        · have e : f_X2_hasRange X (65 + 2 * i) f m = some (X, 0) := by
            unfold f_X2_hasRange
            rw [if_neg d1, if_pos d3]
          rw [e, if_neg d1]
          simp only [Option.bind_some, if_pos trivial, if_pos d3, X6_finding h.xq 0 (by decide) 0 rfl]
          split <;> exact Both.fin h 0 _
        obtain ⟨fn, hfn, rfl⟩ := nI_of d1
        obtain ⟨mn, hmn, rfl⟩ := nI_of d3
        rw [X2_hasRange hi4 s2 s5 hfn hmn, if_neg d1]
        simp only [Option.bind_some, iteB, if_neg d3]
        by_cases d2 : g < 0
        · have e : f_X2_hasRange X (65 + 2 * j) g (nI mn) = some (X, 0) := by
            unfold f_X2_hasRange
            rw [if_pos d2]
          rw [e, if_pos d2]
          simp only [Option.bind_some, if_pos trivial, X6_finding h.xq 0 (by decide) 0 rfl]
          split <;> exact Both.fin h 0 _
        obtain ⟨gn, hgn, rfl⟩ := nI_of d2
        rw [X2_hasRange hj4 u2 u5 hgn hmn, if_neg d2]
        simp only [Option.bind_some, iteB, X6_finding h.xq 0 (by decide) 0 rfl]
        by_cases c6 : fn + mn ≤ z
        · rw [if_pos c6, if_neg (show ¬ nI z - nI mn < nI fn from fun q => by have := (sub_lt s2 hmn hfn).mp q; omega)]
          by_cases c7 : gn + mn ≤ z'
          · rw [if_pos c7, if_pos (show nI gn ≤ nI z' - nI mn from Int32.not_lt.mp (fun q => by have := (sub_lt u2 hmn hgn).mp q; omega))]
            obtain ⟨M1, p1, p2, p3, p4⟩ := X7_copy1_loop (f := fn) (g := gn) (m := mn) hi4 hj4 (by omega) (by omega) mn 0 1000 Y (by omega) (by omega) h.rm
            obtain ⟨M2, q1, q2, q3, q4⟩ := X7_copy2_loop (f := gn) (m := mn) hj4 (by omega) mn 0 1000 M1 (by omega) (by omega) (by unfold RM; rw [p2]; exact h.rm)
            rw [show f_X7_copy_b115 1000 Y 0 (nI i) (nI fn) (nI j) (nI gn) (nI mn) 0 = _ from p1, show f_X7_copy_b152 1000 M1 0 (nI j) (nI gn) (nI mn) 0 = _ from q1]
            rw [h.xq.2.2.2.2 i hi4, h.xq.2.2.2.2 j hj4]
            simp only [Option.bind_some]
            have gsn : ∀ i, i < 4 → ok nX shX (66 + 2 * i) 8 ∧ (shX (66 + 2 * i)).2 = 40 := by decide
            rw [gd_t (show okC nX shX 8 (66 + 2 * i) (66 + 2 * j) (nI fn) (nI gn) (nI mn) from ⟨(gsn i hi4).1, (gsn j hj4).1, d1, d2, d3, by rw [nI_clamp hfn, nI_clamp hmn, (gsn i hi4).2]; omega, by rw [nI_clamp hgn, nI_clamp hmn, (gsn j hj4).2]; omega⟩), nI_clamp hfn, nI_clamp hgn, nI_clamp hmn]
            simp only [lt]
            refine ⟨_, _, _, rfl, rfl, h.sh (X' := cpI X (66 + 2 * i) (66 + 2 * j) fn gn mn) (Y' := M2) rfl (by rw [q2, p2]) (fun o ho => cpI_ne (by omega)) (fun o ho => by rw [q4 o (by omega), p4 o (by omega)]) ?_⟩
            intro q hq
            obtain ⟨b2, z2, v1, v2, v3, v4, v5, v6, v7⟩ := hS q hq
            refine ⟨b2, z2, v1, v2, ?_, ?_, ?_, ?_, fun k hk => ?_⟩
            · rw [cpI_ne (by omega)]; exact v3
            · rw [q4 14 (by decide), p4 14 (by decide)]; exact v4
            · rw [cpI_ne (by omega)]; exact v5
            · rw [q4 15 (by decide), p4 15 (by decide)]; exact v6
            · rw [q3, p4 16 (by decide)]
              by_cases cq : q = j
              · subst cq
                rw [cpI_at]
                by_cases ck : gn ≤ k ∧ k < gn + mn
                · rw [if_pos ck, if_pos (by omega), p3, if_pos (by omega), s7 _ (by omega)]
                  refine congrArg (Y.1 16) ?_
                  omega
                · rw [if_neg ck, if_neg (by omega)]
                  exact v7 k hk
              · rw [cpI_ne (by omega), if_neg (by omega)]
                exact v7 k hk
          · rw [if_neg c7, if_neg (show ¬ nI gn ≤ nI z' - nI mn from Int32.not_le.mpr ((sub_lt u2 hmn hgn).mpr (by omega)))]
            exact Both.fin h 0 _
        · rw [if_neg c6, if_pos ((sub_lt s2 hmn hfn).mpr (by omega))]
          exact Both.fin h 0 _
      · simp only [if_neg c5]
        exact Both.fin h 2 _
    · simp only [if_neg c2]
      exact Both.fin h 0 _
  · simp only [if_neg c1]
    exact Both.fin h 0 _
end MM

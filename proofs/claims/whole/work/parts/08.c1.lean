/-! ===== a league becomes another ===== -/
def cpO (M : Mm) (o q n : Nat) : Mm := (fun x k => if x = o ∧ k < n then M.1 q k else M.1 x k, M.2)
theorem cpO_in {M : Mm} {o q n k : Nat} (h : k < n) : (cpO M o q n).1 o k = M.1 q k := by simp [cpO, h]
theorem cpO_ne {M : Mm} {o q n x : Nat} (h : x ≠ o) : (cpO M o q n).1 x = M.1 x := by
  funext k
  simp [cpO, h]
theorem X3_become {M : Mm} {o q : Nat} (ho : ok nX shX o 3) (hq : ok nX shX q 3) (hne : q ≠ o) (hz : bz (M.1 q 5)) : f_X3_become M o q = some (cpO M o q 6, ()) := by
  have r : ∀ (M0 : Mm) (k : Nat) (v : Int32) (c : Nat), (sI M0 o k v).1 q c = M0.1 q c := fun _ _ _ _ => rdN hne
  unfold f_X3_become
  rw [gd_t hq, gd_t ho]
  simp only [lt, r]
  rw [gd_t hz]
  congr 2
  unfold cpO
  refine Prod.ext ?_ rfl
  funext x k
  simp only [sI]
  by_cases c : x = o
  · subst c
    match k with
    | 0 => simp
    | 1 => simp
    | 2 => simp
    | 3 => simp
    | 4 => simp
    | 5 => simp
    | k + 6 =>
      simp
      intro h
      omega
  · simp [c]
theorem X0_become {M : Mm} {o q : Nat} (ho : ok nX shX o 0) (hq : ok nX shX q 0) (hne : q ≠ o) (hz : bz (M.1 q 7)) (hy : bz (M.1 q 8)) : f_X0_become M o q = some (cpO M o q 9, ()) := by
  have r : ∀ (M0 : Mm) (k : Nat) (v : Int32) (c : Nat), (sI M0 o k v).1 q c = M0.1 q c := fun _ _ _ _ => rdN hne
  unfold f_X0_become
  rw [gd_t hq, gd_t ho]
  simp only [lt, r]
  rw [gd_t hz, gd_t hy]
  congr 2
  unfold cpO
  refine Prod.ext ?_ rfl
  funext x k
  simp only [sI]
  by_cases c : x = o
  · subst c
    match k with
    | 0 => simp
    | 1 => simp
    | 2 => simp
    | 3 => simp
    | 4 => simp
    | 5 => simp
    | 6 => simp
    | 7 => simp
    | 8 => simp
    | k + 9 =>
      simp
      intro h
      omega
  · simp [c]
theorem lb_apart {a c : Nat} (ha : lb a) (hc : lb c) (h : a ≠ c) : a + 18 ≤ c ∨ c + 18 ≤ a := by omega
def GB (M : Mm) (a : Nat) : Prop := ∀ g, g < 8 → bz (M.1 (gq M a g) 7) ∧ bz (M.1 (gq M a g) 8)
section BB
variable {a c : Nat} {s : Nat → Int32} {T : Int32 × Int32 × Int32}
theorem become_sides (ha : lb a) (hc : lb c) (hac : a ≠ c) (h6 : nS s ≤ 6) (hs0 : s 0 = nI (nS s)) : ∀ (d j n : Nat) (M : Mm), j + d = nS s → d < n → XL M a → XL M c → M.1 c 3 = s 0 → (∀ i, i < nS s → bz (M.1 (c + 4 + i) 5)) →
    ∃ M', f_X1_become_b2 n M a c (nI j) = f_X1_become_b33 1000 M' a c 0 ∧ M'.2 = M.2 ∧ (∀ i, j ≤ i → i < nS s → ∀ k, k < 6 → M'.1 (a + 4 + i) k = M.1 (c + 4 + i) k) ∧ (∀ x, (∀ i, j ≤ i → i < nS s → x ≠ a + 4 + i) → M'.1 x = M.1 x) := by
  have hap := lb_apart ha hc hac
  intro d
  induction d with
  | zero =>
    intro j n M h1 h2 hXa hXc h3 hz
    obtain ⟨n, rfl⟩ : ∃ z, n = z + 1 := ⟨n - 1, by omega⟩
    refine ⟨M, ?_, rfl, fun i h1 h2 => by omega, fun x _ => rfl⟩
    simp only [f_X1_become_b2]
    rw [gd_t (okB hc), h3, hs0, if_pos (nI_le (by omega) (by omega))]
  | succ d ih =>
    intro j n M h1 h2 hXa hXc h3 hz
    obtain ⟨n, rfl⟩ : ∃ z, n = z + 1 := ⟨n - 1, by omega⟩
    obtain ⟨M', e1, e2, e3, e4⟩ := ih (j + 1) n (cpO M (a + 4 + j) (c + 4 + j) 6) (by omega) (by omega) hXa hXc (by rw [cpO_ne (by omega)]; exact h3) (fun i hi => by rw [cpO_ne (by omega)]; exact hz i hi)
    refine ⟨M', ?_, e2, ?_, ?_⟩
    · simp only [f_X1_become_b2]
      rw [gd_t (okB hc), h3, hs0, if_neg (nI_ge (by omega) (by omega)), gd_t (okB ha), hXa.1.1, Option.bind_some, gd_t (okSr ha (by omega)), hXa.sd (by omega), Option.bind_some, hXc.1.1, Option.bind_some, gd_t (okSr hc (by omega)), hXc.sd (by omega), Option.bind_some, gd_t (okSo ha (by omega)), X3_become (okSo ha (by omega)) (okSo hc (by omega)) (by omega) (hz j (by omega)), Option.bind_some, nI_1]
      exact e1
    · intro i hi1 hi2 k hk
      by_cases q : i = j
      · subst q
        rw [e4 _ (fun z hz1 hz2 => by omega), cpO_in hk]
      · rw [e3 i (by omega) hi2 k hk, cpO_ne (by omega)]
    · intro x hx
      rw [e4 x (fun i h1 h2 => hx i (by omega) h2), cpO_ne (hx j (Nat.le_refl _) (by omega))]
theorem become_games (ha : lb a) (hc : lb c) (hac : a ≠ c) (h8 : nG s ≤ 8) (hs1 : s 1 = nI (nG s)) : ∀ (d j n : Nat) (M : Mm), j + d = nG s → d < n → XL M a → XL M c → M.1 c 4 = s 1 → GB M c →
    ∃ M', f_X1_become_b33 n M a c (nI j) = some (sI (sI (sI (sI (sI (sI (sI (sI (cpI M' (c + 3) (a + 3) 0 0 10) a 3 (M'.1 c 3)) a 4 (M'.1 c 4)) a 5 (M'.1 c 5)) a 6 (M'.1 c 6)) a 7 (M'.1 c 7)) a 8 (M'.1 c 8)) a 9 (M'.1 c 9)) a 10 (M'.1 c 10), ()) ∧ M'.2 = M.2 ∧ (∀ g, j ≤ g → g < nG s → ∀ k, k < 9 → M'.1 (gq M a g) k = M.1 (gq M c g) k) ∧ (∀ x, (∀ g, j ≤ g → g < nG s → x ≠ gq M a g) → M'.1 x = M.1 x) := by
  have hap := lb_apart ha hc hac
  intro d
  induction d with
  | zero =>
    intro j n M h1 h2 hXa hXc h3 hz
    obtain ⟨n, rfl⟩ : ∃ z, n = z + 1 := ⟨n - 1, by omega⟩
    refine ⟨M, ?_, rfl, fun i h1 h2 => by omega, fun x _ => rfl⟩
    have r1 : ∀ (M0 : Mm) (k : Nat) (v : Int32) (z : Nat), (sI M0 a k v).1 c z = M0.1 c z := fun _ _ _ _ => rdN (by omega)
    have r2 : ∀ z, (cpI M (c + 3) (a + 3) 0 0 10).1 c z = M.1 c z := fun z => by simp only [cpI]; rw [if_neg (by omega)]
    have c10 : (10 : Int32).toNatClampNeg = 10 := by decide
    simp only [f_X1_become_b33]
    rw [gd_t (okB hc), h3, hs1, if_pos (nI_le (by omega) (by omega)), hXc.1.2.2, Option.bind_some, gd_t (okB ha), hXa.1.2.2, Option.bind_some, gd_t ⟨(shPr hc).1, (shPr ha).1, by decide, by decide, by decide, by rw [(shPr hc).2]; decide, by rw [(shPr ha).2]; decide⟩]
    simp only [lt, cl0, c10, r1, r2]
    rw [h3, hs1]
  | succ d ih =>
    intro j n M h1 h2 hXa hXc h3 hz
    obtain ⟨n, rfl⟩ : ∃ z, n = z + 1 := ⟨n - 1, by omega⟩
    obtain ⟨-, u1, u2⟩ := hXa.2.2.1 j (by omega)
    obtain ⟨-, v1, v2⟩ := hXc.2.2.1 j (by omega)
    have hgq : ∀ b g, gq (cpO M (gq M a j) (gq M c j) 9) b g = gq M b g := fun b g => rfl
    obtain ⟨M', e1, e2, e3, e4⟩ := ih (j + 1) n (cpO M (gq M a j) (gq M c j) 9) (by omega) (by omega) hXa hXc (by rw [cpO_ne (by omega)]; exact h3) (fun g hg => by
      obtain ⟨-, t1, t2⟩ := hXc.2.2.1 g hg
      rw [hgq, cpO_ne (by omega)]
      exact hz g hg)
    refine ⟨M', ?_, e2, ?_, ?_⟩
    · simp only [f_X1_become_b33]
      rw [gd_t (okB hc), h3, hs1, if_neg (nI_ge (by omega) (by omega)), gd_t (okB ha), hXa.1.2.1, Option.bind_some, gd_t (okGr ha (by omega)), hXa.gm (by omega), Option.bind_some, hXc.1.2.1, Option.bind_some, gd_t (okGr hc (by omega)), hXc.gm (by omega), Option.bind_some, gd_t (hXa.go ha (by omega)), X0_become (hXa.go ha (by omega)) (hXc.go hc (by omega)) (by omega) (hz j (by omega)).1 (hz j (by omega)).2, Option.bind_some, nI_1]
      exact e1
    · intro g hi1 hi2 k hk
      by_cases q : g = j
      · subst q
        rw [e4 _ (fun z hz1 hz2 hz3 => by
          have := hXa.2.2.2 g z (by omega) (by omega) hz3
          omega), cpO_in hk]
      · obtain ⟨-, t1, t2⟩ := hXc.2.2.1 g (by omega)
        have := e3 g (by omega) hi2 k hk
        rw [hgq, hgq, cpO_ne (by omega)] at this
        exact this
    · intro x hx
      rw [e4 x (fun i h1 h2 => hx i (by omega) h2), cpO_ne (hx j (Nat.le_refl _) (by omega))]
theorem X1_become {M : Mm} (h : LG M c s T) (hI : Inv s) (ha : lb a) (hac : a ≠ c) (hXa : XL M a) (hGa : GB M a) : ∃ M', f_X1_become M a c = some (M', ()) ∧ LG M' a s T ∧ FR a M M' := by
  obtain ⟨hc, hXc, hL⟩ := h
  have hap := lb_apart ha hc hac
  have h6 := hI.1.2
  have h8 := hI.2.1.2
  have hpg := hI.2.2.1.2
  obtain ⟨M1, f1, f2, f3, f4⟩ := become_sides ha hc hac h6 hI.1.1 (nS s) 0 1000 M (by omega) (by omega) hXa hXc hL.1.1 (fun i hi => by rw [(hL.2.1 i hi).2.2.2.2.2]; exact tirA_bz _ _ _)
  have gq1 : ∀ b g, gq M1 b g = gq M b g := fun b g => by unfold gq; rw [f2]
  have hXa1 : XL M1 a := by unfold XL gq at *; rw [f2]; exact hXa
  have hXc1 : XL M1 c := by unfold XL gq at *; rw [f2]; exact hXc
  have o1 : ∀ x, (x < a + 4 ∨ a + 10 ≤ x) → M1.1 x = M.1 x := fun x hx => f4 x (fun i _ _ => by omega)
  obtain ⟨M2, g1, g2, g3, g4⟩ := become_games (s := s) ha hc hac h8 hI.2.1.1 (nG s) 0 1000 M1 (by omega) (by omega) hXa1 hXc1 (by rw [o1 c (by omega)]; exact hL.1.2.1) (fun g hg => by
    obtain ⟨-, t1, t2⟩ := hXc.2.2.1 g hg
    rw [gq1, o1 _ (by omega)]
    exact hL.2.2.2.2.2 g hg)
  simp only [gq1] at g3 g4
  have o2 : ∀ x, (x < a + 10 ∨ a + 18 ≤ x) → M2.1 x = M1.1 x := fun x hx => g4 x (fun g _ hg => by
    obtain ⟨-, t1, t2⟩ := hXa.2.2.1 g (by omega)
    omega)
  unfold f_X1_become
  rw [show (0 : Int32) = nI 0 from rfl, f1, show (0 : Int32) = nI 0 from rfl, g1]
  refine ⟨_, rfl, ?_⟩
  have rc : ∀ k, M2.1 c k = M.1 c k := fun k => by rw [o2 c (by omega), o1 c (by omega)]
  simp only [rc]
  have hF : FR a M (sI (sI (sI (sI (sI (sI (sI (sI (cpI M2 (c + 3) (a + 3) 0 0 10) a 3 (M.1 c 3)) a 4 (M.1 c 4)) a 5 (M.1 c 5)) a 6 (M.1 c 6)) a 7 (M.1 c 7)) a 8 (M.1 c 8)) a 9 (M.1 c 9)) a 10 (M.1 c 10)) := by
    have : FR a M (cpI M2 (c + 3) (a + 3) 0 0 10) := by
      refine ⟨?_, fun x hx => ?_⟩
      · show M2.2 = M.2
        rw [g2, f2]
      · funext k
        simp only [cpI]
        rw [if_neg (by omega), o2 x (by omega), o1 x (by omega)]
    exact fr_sI (fr_sI (fr_sI (fr_sI (fr_sI (fr_sI (fr_sI (fr_sI this (by omega) (by omega)) (by omega) (by omega)) (by omega) (by omega)) (by omega) (by omega)) (by omega) (by omega)) (by omega) (by omega)) (by omega) (by omega)) (by omega) (by omega)
  refine ⟨⟨ha, fr_XL hF hXa, ?_⟩, hF⟩
  have rx : ∀ x, x ≠ a → x ≠ a + 3 → ∀ k, (sI (sI (sI (sI (sI (sI (sI (sI (cpI M2 (c + 3) (a + 3) 0 0 10) a 3 (M.1 c 3)) a 4 (M.1 c 4)) a 5 (M.1 c 5)) a 6 (M.1 c 6)) a 7 (M.1 c 7)) a 8 (M.1 c 8)) a 9 (M.1 c 9)) a 10 (M.1 c 10)).1 x k = M2.1 x k := by
    intro x h1 h2 k
    rw [rdN h1, rdN h1, rdN h1, rdN h1, rdN h1, rdN h1, rdN h1, rdN h1]
    simp only [cpI]
    rw [if_neg h2]
  unfold LD
  simp only [fr_gq hF]
  refine ⟨⟨?_, ?_, ?_, ?_, ?_, ?_, ?_, ?_⟩, ?_, ?_, ?_, ?_, ?_⟩
  · rw [rdK (by decide), rdK (by decide), rdK (by decide), rdK (by decide), rdK (by decide), rdK (by decide), rdK (by decide), rdE]; exact hL.1.1
  · rw [rdK (by decide), rdK (by decide), rdK (by decide), rdK (by decide), rdK (by decide), rdK (by decide), rdE]; exact hL.1.2.1
  · rw [rdK (by decide), rdK (by decide), rdK (by decide), rdK (by decide), rdK (by decide), rdE]; exact hL.1.2.2.1
  · rw [rdK (by decide), rdK (by decide), rdK (by decide), rdK (by decide), rdE]; exact hL.1.2.2.2.1
  · rw [rdK (by decide), rdK (by decide), rdK (by decide), rdE]; exact hL.1.2.2.2.2.1
  · rw [rdK (by decide), rdK (by decide), rdE]; exact hL.1.2.2.2.2.2.1
  · rw [rdK (by decide), rdE]; exact hL.1.2.2.2.2.2.2.1
  · rw [rdE]; exact hL.1.2.2.2.2.2.2.2
  · intro i hi
    have q : ∀ k, k < 6 → M2.1 (a + 4 + i) k = M.1 (c + 4 + i) k := fun k hk => by rw [o2 _ (by omega), f3 i (by omega) hi k hk]
    rw [rx _ (by omega) (by omega), rx _ (by omega) (by omega), rx _ (by omega) (by omega), rx _ (by omega) (by omega), rx _ (by omega) (by omega), rx _ (by omega) (by omega), q 0 (by decide), q 1 (by decide), q 2 (by decide), q 3 (by decide), q 4 (by decide), q 5 (by decide)]
    exact hL.2.1 i hi
  · intro g hg
    obtain ⟨-, t1, t2⟩ := hXa.2.2.1 g (by omega)
    obtain ⟨-, t3, t4⟩ := hXc.2.2.1 g (by omega)
    have q : ∀ k, k < 9 → M2.1 (gq M a g) k = M.1 (gq M c g) k := fun k hk => by rw [g3 g (by omega) hg k hk, o1 _ (by omega)]
    rw [rx _ (by omega) (by omega), rx _ (by omega) (by omega), rx _ (by omega) (by omega), q 0 (by decide), q 1 (by decide), q 2 (by decide)]
    exact hL.2.2.1 g hg
  · intro g hg
    obtain ⟨-, t1, t2⟩ := hXa.2.2.1 g (by omega)
    obtain ⟨-, t3, t4⟩ := hXc.2.2.1 g (by omega)
    have q : ∀ k, k < 9 → M2.1 (gq M a g) k = M.1 (gq M c g) k := fun k hk => by rw [g3 g (by omega) (by omega) k hk, o1 _ (by omega)]
    rw [rx _ (by omega) (by omega), rx _ (by omega) (by omega), rx _ (by omega) (by omega), rx _ (by omega) (by omega), rx _ (by omega) (by omega), rx _ (by omega) (by omega), q 3 (by decide), q 4 (by decide), q 5 (by decide), q 6 (by decide), q 7 (by decide), q 8 (by decide)]
    exact hL.2.2.2.1 g hg
  · intro j hj
    rw [rdN (by omega), rdN (by omega), rdN (by omega), rdN (by omega), rdN (by omega), rdN (by omega), rdN (by omega), rdN (by omega)]
    simp only [cpI]
    rw [if_pos trivial, pk_cpy_in (by omega) (by omega), o2 _ (by omega), o1 _ (by omega)]
    rw [show 0 + (j - 0) = j by omega]
    exact hL.2.2.2.2.1 j hj
  · intro g hg
    obtain ⟨-, t1, t2⟩ := hXa.2.2.1 g hg
    obtain ⟨-, t3, t4⟩ := hXc.2.2.1 g hg
    rw [rx _ (by omega) (by omega), rx _ (by omega) (by omega)]
    by_cases q : g < nG s
    · rw [g3 g (by omega) q 7 (by decide), g3 g (by omega) q 8 (by decide), o1 _ (by omega)]
      exact hL.2.2.2.2.2 g hg
    · rw [g4 _ (fun z _ hz hz2 => by
        have := hXa.2.2.2 g z hg (by omega) hz2
        omega), o1 _ (by omega)]
      exact hGa g hg
end BB

theorem ss1 {s : Rw} {T : Trp} {A : Nat} (hI : Inv s) : ∀ (d j n : Nat) (X : Mm), j + d = nS s → d < n → XF X → LG X 38 s T → X.2.1 37 6 = lN A →
    ∃ Z, f_X5_startSums_b2 n X 37 (nI j) = f_X5_startSums_b52 1000 Z 37 0 ∧ Z.1 = X.1 ∧ Z.2.2 = X.2.2 ∧ (∀ k, j ≤ k → k < nS s → Z.2.1 56 k = lN (A * pN s k) ∧ Z.2.1 57 k = 0) ∧ (∀ k, k < j → Z.2.1 56 k = X.2.1 56 k ∧ Z.2.1 57 k = X.2.1 57 k) ∧ ∀ o, o ≠ 56 → o ≠ 57 → Z.2.1 o = X.2.1 o := by
  have h6 := hI.1.2
  intro d
  induction d with
  | zero =>
    intro j n X h1 h2 hF hL hA
    obtain ⟨n, rfl⟩ : ∃ z, n = z + 1 := ⟨n - 1, by omega⟩
    refine ⟨X, ?_, rfl, rfl, fun k a b => by omega, fun _ _ => ⟨rfl, rfl⟩, fun _ _ _ => rfl⟩
    simp only [f_X5_startSums_b2]
    rw [gd_t gX37, hF.1.2.1.1, Option.bind_some, gd_t gX38, hL.2.2.1.1, hI.1.1, if_pos (nI_le (by omega) (by omega))]
  | succ d ih =>
    intro j n X h1 h2 hF hL hA
    obtain ⟨n, rfl⟩ : ∃ z, n = z + 1 := ⟨n - 1, by omega⟩
    have hj : j < 6 := by omega
    have ej : (nI j).toNatClampNeg = j := nI_clamp (by omega)
    obtain ⟨p1, p2⟩ := pN_ok hI j
    have v3 : X.1 (42 + j) 3 = nI (pN s j) := by rw [← p1]; exact (hL.2.2.2.1 j (by omega)).2.2.2.1
    obtain ⟨Z, e1, e2, e3, e4, e5, e6⟩ := ih (j + 1) n (sL (sL X 56 j (lN (A * pN s j))) 57 j 0) (by omega) (by omega) hF hL (by rw [sL_o (by decide), sL_o (by decide)]; exact hA)
    refine ⟨Z, ?_, e2, e3, fun k a b => ?_, fun k a => ?_, fun o h1 h2 => by rw [e6 o h1 h2]; funext k; rw [sL_o h2, sL_o h1]⟩
    · have gs : okA nX shX 39 10 (nI j) := okSr (b := 38) hL.1 hj
      have gso : ok nX shX (42 + j) 3 := okSo (b := 38) hL.1 hj
      have es : X.2.2 39 (nI j).toNatClampNeg = some (42 + j) := hL.2.1.sd hj
      have es0 : X.2.2 38 0 = some 39 := hL.2.1.1.1
      simp only [f_X5_startSums_b2]
      rw [gd_t gX37, hF.1.2.1.1, Option.bind_some, gd_t gX38, hL.2.2.1.1, hI.1.1, if_neg (nI_ge (by omega) (by omega)), hF.1.2.1.2.1, Option.bind_some, Option.bind_some, gd_t gX38, es0, Option.bind_some, gd_t gs, es, Option.bind_some, gd_t gso, gd_t (hL6 hj), v3, hA, nI_l (by omega), lN_mul]
      simp only [lt]
      rw [sL_r, hF.1.2.1.2.2.1, Option.bind_some, gd_t (hL7 hj), ej, nI_1]
      exact e1
    · by_cases c : k = j
      · subst c
        obtain ⟨x1, x2⟩ := e5 k (by omega)
        rw [x1, x2, sL_o (by decide), sL_e, sL_e]
        exact ⟨rfl, rfl⟩
      · exact e4 k (by omega) b
    · obtain ⟨x1, x2⟩ := e5 k (by omega)
      rw [x1, x2, sL_o (by decide), sL_k (by omega), sL_k (by omega), sL_o (by decide)]
      exact ⟨rfl, rfl⟩
theorem ss2 {s : Rw} {T : Trp} {A : Nat} (hI : Inv s) : ∀ (d g n : Nat) (X : Mm), g + d = nG s → d < n → XF X → LG X 38 s T → X.2.1 37 6 = lN A →
    ∃ Z, f_X5_startSums_b52 n X 37 (nI g) = some (Z, ()) ∧ Z.1 = X.1 ∧ Z.2.2 = X.2.2 ∧ (∀ h, g ≤ h → h < nG s → Z.2.1 58 h = lN (A * fG h s) ∧ Z.2.1 59 h = lN (A * fM h s)) ∧ (∀ h, h < g → Z.2.1 58 h = X.2.1 58 h ∧ Z.2.1 59 h = X.2.1 59 h) ∧ ∀ o, o ≠ 58 → o ≠ 59 → Z.2.1 o = X.2.1 o := by
  have h8 := hI.2.1.2
  have hpg := hI.2.2.1.2
  intro d
  induction d with
  | zero =>
    intro g n X h1 h2 hF hL hA
    obtain ⟨n, rfl⟩ : ∃ z, n = z + 1 := ⟨n - 1, by omega⟩
    refine ⟨X, ?_, rfl, rfl, fun k a b => by omega, fun _ _ => ⟨rfl, rfl⟩, fun _ _ _ => rfl⟩
    simp only [f_X5_startSums_b52]
    rw [gd_t gX37, hF.1.2.1.1, Option.bind_some, gd_t gX38, hL.2.2.1.2.1, hI.2.1.1, if_pos (nI_le (by omega) (by omega))]
  | succ d ih =>
    intro g n X h1 h2 hF hL hA
    obtain ⟨n, rfl⟩ : ∃ z, n = z + 1 := ⟨n - 1, by omega⟩
    have hg : g < nG s := by omega
    have g8 : g < 8 := by omega
    have eg : (nI g).toNatClampNeg = g := nI_clamp (by omega)
    obtain ⟨w0, w1, w2⟩ := hL.2.2.2.2.1 g hg
    have hgo := hL.2.1.go hL.1 g8
    obtain ⟨Z, e1, e2, e3, e4, e5, e6⟩ := ih (g + 1) n (sL (sL X 58 g (lN (A * fG g s))) 59 g (lN (A * fM g s))) (by omega) (by omega) hF hL (by rw [sL_o (by decide), sL_o (by decide)]; exact hA)
    refine ⟨Z, ?_, e2, e3, fun k a b => ?_, fun k a => ?_, fun o h1 h2 => by rw [e6 o h1 h2]; funext k; rw [sL_o h2, sL_o h1]⟩
    · have gs : okA nX shX 40 11 (nI g) := okGr (b := 38) hL.1 g8
      have es : X.2.2 40 (nI g).toNatClampNeg = some (gq X 38 g) := hL.2.1.gm g8
      have es0 : X.2.2 38 1 = some 40 := hL.2.1.1.2.1
      have x3 := hF.1.2.1.2.2.2.1
      have x4 := hF.1.2.1.2.2.2.2.1
      have m147 : ∀ v w : Int64, v = lN (A * fG g s) → w = lN (A * fM g s) → f_X5_startSums_b147 (f_X5_startSums_b52 n) (sL X 58 g v) 37 (nI g) 59 (nI g) w = some (Z, ()) := by
        intro v w hv hw
        unfold f_X5_startSums_b147
        rw [gd_t (hL9 g8), eg, hv, hw, nI_1]
        exact e1
      have m118 : ∀ (t : Int32) (v : Int64), v = lN (A * fG g s) → ((t = 0 ∧ ¬ g < nP s) ∨ (t ≠ 0 ∧ g < nP s)) → f_X5_startSums_b118 (f_X5_startSums_b52 n) X 37 (nI g) (gq X 38 g) t 58 (nI g) v = some (Z, ()) := by
        intro t v hv ht
        unfold f_X5_startSums_b118 f_X5_startSums_b146
        rw [gd_t (hL8 g8), eg]
        simp only [lt]
        rw [gd_t gX37, sL_r, x4, Option.bind_some]
        rcases ht with ⟨c1, c2⟩ | ⟨c1, c2⟩
        · rw [if_pos c1]
          refine m147 v 0 hv ?_
          have : fM g s = 0 := if_neg (fun z => c2 z.1)
          rw [this, Nat.mul_zero]
          rfl
        · obtain ⟨u3, u4, -⟩ := hL.2.2.2.2.2.1 g c2
          rw [if_neg c1, gd_t hgo, sL_1, u3, u4]
          by_cases c : gO s g 4 = gO s g 3
          · rw [if_pos c]
            refine m147 v 0 hv ?_
            have : fM g s = 0 := if_neg (fun z => z.2 c)
            rw [this, Nat.mul_zero]
            rfl
          · rw [if_neg c, sL_o (by decide)]
            refine m147 v _ hv ?_
            have : fM g s = 1 := if_pos ⟨c2, c⟩
            rw [this, Nat.mul_one]
            exact hA
      simp only [f_X5_startSums_b52]
      rw [gd_t gX37, hF.1.2.1.1, Option.bind_some, gd_t gX38, hL.2.2.1.2.1, hI.2.1.1, if_neg (nI_ge (by omega) (by omega)), Option.bind_some, gd_t gX38, es0, Option.bind_some, gd_t gs, es, Option.bind_some, Option.bind_some, gd_t gX38, hL.2.2.1.2.2.1, hI.2.2.1.1]
      unfold f_X5_startSums_b89 f_X5_startSums_b117
      rw [gd_t gX37, x3, Option.bind_some]
      by_cases c : g < nP s
      · rw [if_neg (nI_ge c (by omega))]
        obtain ⟨u3, u4, -⟩ := hL.2.2.2.2.2.1 g c
        rw [gd_t gX37, Option.bind_some, if_neg (by decide), gd_t hgo, u4, w0]
        by_cases c2 : gO s g 4 = gO s g 0
        · rw [if_pos c2]
          refine m118 1 _ ?_ (Or.inr ⟨by decide, c⟩)
          have : fG g s = 1 := if_pos ⟨c, c2⟩
          rw [this, Nat.mul_one]
          exact hA
        · rw [if_neg c2]
          refine m118 1 0 ?_ (Or.inr ⟨by decide, c⟩)
          have : fG g s = 0 := if_neg (fun z => c2 z.2)
          rw [this, Nat.mul_zero]
          rfl
      · rw [if_pos (nI_le (by omega) (by omega)), if_pos rfl]
        refine m118 0 0 ?_ (Or.inl ⟨rfl, c⟩)
        have : fG g s = 0 := if_neg (fun z => c z.1)
        rw [this, Nat.mul_zero]
        rfl
    · by_cases c : k = g
      · subst c
        obtain ⟨x1, x2⟩ := e5 k (by omega)
        rw [x1, x2, sL_o (by decide), sL_e, sL_e]
        exact ⟨rfl, rfl⟩
      · exact e4 k (by omega) b
    · obtain ⟨x1, x2⟩ := e5 k (by omega)
      rw [x1, x2, sL_o (by decide), sL_k (by omega), sL_k (by omega), sL_o (by decide)]
      exact ⟨rfl, rfl⟩
def ovC (Z : Mm) : Option (Mm × Unit) := Option.bind (f_X5_startSums Z 37) (fun r5 => Option.bind (f_X5_follow 10 r5.1 37 (0 : Int32) (r5.1.2.1 37 6)) (fun r6 => some (r6.1, ())))
theorem ov_all {s : Rw} (hI : Inv s) : ∀ (d g n : Nat) (X : Mm) (x : Nat), g + d = nG s → d < n → X.2.2 37 0 = some 38 → X.1 38 4 = s 1 → X.2.1 37 6 = lN x →
    ∃ Z, f_X5_over_b44 n X 37 (nI g) = ovC Z ∧ Z.1 = X.1 ∧ Z.2.2 = X.2.2 ∧ Z.2.1 37 6 = lN (x * 10 ^ d) ∧ (∀ f, f ≠ 6 → Z.2.1 37 f = X.2.1 37 f) ∧ ∀ o, o ≠ 37 → Z.2.1 o = X.2.1 o := by
  have h8 := hI.2.1.2
  intro d
  induction d with
  | zero =>
    intro g n X x h1 h2 h3 h4 h5
    obtain ⟨n, rfl⟩ : ∃ z, n = z + 1 := ⟨n - 1, by omega⟩
    refine ⟨X, ?_, rfl, rfl, by rw [h5, Nat.pow_zero, Nat.mul_one], fun _ _ => rfl, fun _ _ => rfl⟩
    simp only [f_X5_over_b44]
    rw [gd_t gX37, h3, Option.bind_some, gd_t gX38, h4, hI.2.1.1, if_pos (nI_le (by omega) (by omega))]
    rfl
  | succ d ih =>
    intro g n X x h1 h2 h3 h4 h5
    obtain ⟨n, rfl⟩ : ∃ z, n = z + 1 := ⟨n - 1, by omega⟩
    obtain ⟨Z, e1, e2, e3, e4, e5, e6⟩ := ih (g + 1) n (sL X 37 6 (lN (x * 10))) (x * 10) (by omega) (by omega) h3 h4 sL_e
    refine ⟨Z, ?_, e2, e3, ?_, fun f hf => by rw [e5 f hf, sL_k hf], fun o ho => by rw [e6 o ho]; funext k; rw [sL_o ho]⟩
    · simp only [f_X5_over_b44]
      rw [gd_t gX37, h3, Option.bind_some, gd_t gX38, h4, hI.2.1.1, if_neg (nI_ge (by omega) (by omega)), h5, show (10 : Int64) = lN 10 from rfl, lN_mul, nI_1]
      exact e1
    · rw [e4, Nat.mul_assoc, Nat.pow_succ, Nat.mul_comm 10]
/-- what all ways come to, in the class's rows -/
def WX (s : Rw) (T : Trp) (k0 : Nat) (n0 u : Int32) (X X' : Mm) : Prop :=
  X'.2.2 = X.2.2 ∧ LG X' 38 s T ∧ (∀ o, (o < 37 ∨ 56 ≤ o) → X'.1 o = X.1 o) ∧ X'.1 37 7 = nI (WA T (nG s - nP s) s) ∧
  (∀ k, k < nS s → X'.2.1 56 k = lN (EA T (fP k) (nG s - nP s) s)) ∧ (∀ k, k < nS s → X'.2.1 57 k = lN (EA T (fF k) (nG s - nP s) s)) ∧ (∀ g, g < nG s → X'.2.1 58 g = lN (EA T (fG g) (nG s - nP s) s)) ∧ (∀ g, g < nG s → X'.2.1 59 g = lN (EA T (fM g) (nG s - nP s) s)) ∧ X'.2.1 37 6 = lN (10 ^ (nG s - nP s)) ∧ (k0 < nS s → X'.2.1 37 11 = lN (EA T (fL k0 n0) (nG s - nP s) s)) ∧ (k0 < nS s → u = 1 → X'.1 37 12 = nI (MA T (fP k0) (nG s - nP s) s)) ∧ X'.2.1 60 = X.2.1 60
theorem X5_over {X : Mm} {s : Rw} {T : Trp} {k0 : Nat} {u : Int32} (hF : XF X) (hL : LG X 38 s T) (hI : Inv s) (hT : TOk T) (hk0 : k0 < 6) (hu : u = 0 ∨ u = 1) (n0 : Int32) : ∃ X', f_X5_over X 37 (nI k0) n0 u = some (X', ()) ∧ WX s T k0 n0 u X X' := by
  have h6 := hI.1.2
  have h8 := hI.2.1.2
  have hpg := hI.2.2.1.2
  have x0 := hF.1.2.1.1
  obtain ⟨X0, hX0⟩ : ∃ X0, X0 = sL (sI (sI (sL (sI (sI (sI X 37 8 (nI k0)) 37 9 n0) 37 10 u) 37 11 0) 37 12 0) 37 7 0) 37 6 1 := ⟨_, rfl⟩
  have r0 : X0.2.2 = X.2.2 := by rw [hX0]; rfl
  have o0 : ∀ o, o ≠ 37 → X0.1 o = X.1 o := fun o ho => by rw [hX0, sL_1, sI_obj ho, sI_obj ho, sL_1, sI_obj ho, sI_obj ho, sI_obj ho]
  have hF0 : XF X0 := hF.at r0
  have hL0 : LG X0 38 s T := hL.at hI r0 (fun o h1 _ => o0 o (by omega))
  obtain ⟨Z, a1, a2, a3, a4, a5, a6⟩ := ov_all hI (nG s - nP s) (nP s) 1000 X0 1 (by omega) (by omega) (by rw [r0]; exact x0) hL0.2.2.1.2.1 (by rw [hX0, sL_e]; rfl)
  rw [Nat.one_mul] at a4
  have hFZ : XF Z := hF0.at a3
  have hLZ : LG Z 38 s T := hL0.at hI a3 (fun o _ _ => by rw [a2])
  obtain ⟨Z1, b1, b2, b3, b4, b5, b6⟩ := ss1 hI (nS s) 0 1000 Z (by omega) (by omega) hFZ hLZ a4
  have hFZ1 : XF Z1 := hFZ.at b3
  have hLZ1 : LG Z1 38 s T := hLZ.at hI b3 (fun o _ _ => by rw [b2])
  obtain ⟨Z2, c1, c2, c3, c4, c5, c6⟩ := ss2 hI (nG s) 0 1000 Z1 (by omega) (by omega) hFZ1 hLZ1 (by rw [b6 37 (by decide) (by decide)]; exact a4)
  have hFZ2 : XF Z2 := hFZ1.at c3
  have hLZ2 : LG Z2 38 s T := hLZ1.at hI c3 (fun o _ _ => by rw [c2])
  have z1 : Z2.1 = X0.1 := by rw [c2, b2, a2]
  have z37 : Z2.2.1 37 = Z.2.1 37 := by rw [c6 37 (by decide) (by decide), b6 37 (by decide) (by decide)]
  have hW : FW Z2 s T k0 n0 u := ⟨hFZ2, hLZ2, by rw [z1, hX0, sL_1, rdK (by decide), rdK (by decide), sL_1, rdK (by decide), rdK (by decide), rdE], by rw [z1, hX0, sL_1, rdK (by decide), rdK (by decide), sL_1, rdK (by decide), rdE], by rw [z1, hX0, sL_1, rdK (by decide), rdK (by decide), sL_1, rdE]⟩
  have hpow : 1 * 10 ^ (nG s - nP s) ≤ 100000000 := by
    rw [Nat.one_mul]
    exact Nat.le_trans (Nat.pow_le_pow_right (by decide) (show nG s - nP s ≤ 8 by omega)) (by decide)
  obtain ⟨X', d1, d2, d3⟩ := X5_follow hT hk0 hu (nG s - nP s) 10 0 Z2 s 1 (by omega) (by omega) hI (by omega) hW hpow
  rw [Nat.one_mul] at d1
  obtain ⟨e1, e2, e3, e4, e5, e6, e7, e8, e9, e10, e11, e12⟩ := d3
  dsimp only at e4 e5 e6 e7 e8 e10 e11
  have f7 : Z2.1 37 7 = 0 := by rw [z1, hX0, sL_1, rdE]
  have f12 : Z2.1 37 12 = 0 := by rw [z1, hX0, sL_1, rdK (by decide), rdE]
  have f11 : Z2.2.1 37 11 = 0 := by rw [z37, a5 11 (by decide), hX0, sL_k (by decide), sI_l, sI_l, sL_e]
  refine ⟨X', ?_, ?_, d2, fun o ho => ?_, ?_, fun k hk => ?_, fun k hk => ?_, fun g hg => ?_, fun g hg => ?_, ?_, fun hk => ?_, fun hk hu1 => ?_, ?_⟩
  · unfold f_X5_over
    rw [gd_t gX37]
    simp only [lt]
    rw [gd_t (show bz u from hu)]
    have e : f_X5_over_b44 1000 X0 37 (X0.1 38 5) = some (X', ()) := by
      rw [hL0.2.2.1.2.2.1, hI.2.2.1.1, a1]
      unfold ovC f_X5_startSums
      rw [show f_X5_startSums_b2 1000 Z 37 0 = _ from b1, show f_X5_startSums_b52 1000 Z1 37 0 = _ from c1, Option.bind_some]
      dsimp only
      rw [z37, a4, show f_X5_follow 10 Z2 37 0 (lN (10 ^ (nG s - nP s))) = _ from d1, Option.bind_some]
    rw [hX0] at e
    rw [show (sL (sI (sI (sL (sI (sI (sI X 37 8 (nI k0)) 37 9 n0) 37 10 u) 37 11 0) 37 12 0) 37 7 0) 37 6 1).2.2 37 0 = some 38 from x0, Option.bind_some, gd_t gX38]
    exact e
  · rw [e1, c3, b3, a3, r0]
  · rw [e2 o ho, z1, o0 o (by omega)]
  · rw [e4, f7, Int32.zero_add]
    rfl
  · rw [e5 k hk, c6 56 (by decide) (by decide), (b4 k (by omega) hk).1, lN_add, EA_pot hT (xP_pot k) _ s hI (by omega), Nat.one_mul]
    rfl
  · rw [e6 k hk, c6 57 (by decide) (by decide), (b4 k (by omega) hk).2, Int64.zero_add, Nat.one_mul]
  · rw [e7 g hg, (c4 g (by omega) hg).1, lN_add, EA_pot hT (xG_pot g) _ s hI (by omega), Nat.one_mul]
  · rw [e8 g hg, (c4 g (by omega) hg).2, lN_add, EA_pot hT (xM_pot g) _ s hI (by omega), Nat.one_mul]
  · rw [e9, z37, a4]
  · rw [e10 hk, f11, Int64.zero_add, Nat.one_mul]
  · rw [e11 hk hu1 0 (by decide) (by rw [f12]; rfl), Nat.max_eq_right (Nat.zero_le _)]
  · rw [e12, c6 60 (by decide) (by decide), b6 60 (by decide) (by decide), a6 60 (by decide), hX0]
    funext j
    rw [sL_o (by decide), sI_l, sI_l, sL_o (by decide)]
    rfl

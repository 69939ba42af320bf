/-! ===== the class goes all ways ===== -/
theorem LG.at {X X' : Mm} {b : Nat} {s : Rw} {T : Trp} (h : LG X b s T) (hI : Inv s) (hx : X'.2.2 = X.2.2) (ho : ∀ o, b ≤ o → o < b + 18 → X'.1 o = X.1 o) : LG X' b s T := ⟨h.1, h.2.1.at hx, h.2.2.at hI h.2.1 hx ho⟩
theorem hL6 {k : Nat} (hk : k < 6) : okA nX shX 56 9 (nI k) := ⟨by decide, vin_nI (show k < 6 from hk) (by decide)⟩
theorem hL7 {k : Nat} (hk : k < 6) : okA nX shX 57 9 (nI k) := ⟨by decide, vin_nI (show k < 6 from hk) (by decide)⟩
theorem hL8 {k : Nat} (hk : k < 8) : okA nX shX 58 9 (nI k) := ⟨by decide, vin_nI (show k < 8 from hk) (by decide)⟩
theorem hL9 {k : Nat} (hk : k < 8) : okA nX shX 59 9 (nI k) := ⟨by decide, vin_nI (show k < 8 from hk) (by decide)⟩
theorem hL0 {k : Nat} (hk : k < 6) : okA nX shX 60 9 (nI k) := ⟨by decide, vin_nI (show k < 6 from hk) (by decide)⟩
def XA (s : Rw) (k0 : Nat) (u : Int32) (X X' : Mm) (P F G Mv : Nat → Nat) (S W Mx : Nat) : Prop :=
  X'.2.2 = X.2.2 ∧ (∀ o, (o < 37 ∨ 56 ≤ o) → X'.1 o = X.1 o) ∧ (∀ f, f ≠ 7 → f ≠ 12 → X'.1 37 f = X.1 37 f) ∧ X'.1 37 7 = X.1 37 7 + nI W ∧
  (∀ k, k < nS s → X'.2.1 56 k = X.2.1 56 k + lN (P k)) ∧ (∀ k, k < nS s → X'.2.1 57 k = X.2.1 57 k + lN (F k)) ∧ (∀ g, g < nG s → X'.2.1 58 g = X.2.1 58 g + lN (G g)) ∧ (∀ g, g < nG s → X'.2.1 59 g = X.2.1 59 g + lN (Mv g)) ∧ X'.2.1 37 6 = X.2.1 37 6 ∧ (k0 < nS s → X'.2.1 37 11 = X.2.1 37 11 + lN S) ∧ (k0 < nS s → u = 1 → ∀ m, m < 1000 → X.1 37 12 = nI m → X'.1 37 12 = nI (max m Mx)) ∧ X'.2.1 60 = X.2.1 60
section XX
variable {s s' : Rw} {k0 : Nat} {u : Int32} {X X1 X2 : Mm} {P F G Mv P' F' G' Mv' : Nat → Nat} {S W Mx S' W' Mx' : Nat}
theorem XA.tr (h : XA s k0 u X X1 P F G Mv S W Mx) (h2 : XA s' k0 u X1 X2 P' F' G' Mv' S' W' Mx') (hG : nG s' = nG s) (hS : nS s' = nS s) (hX : Mx < 1000) : XA s k0 u X X2 (fun k => P k + P' k) (fun k => F k + F' k) (fun k => G k + G' k) (fun k => Mv k + Mv' k) (S + S') (W + W') (max Mx Mx') := by
  obtain ⟨a1, a2, a3, a4, a5, a6, a7, a8, a9, a10, a11, a12⟩ := h
  obtain ⟨b1, b2, b3, b4, b5, b6, b7, b8, b9, b10, b11, b12⟩ := h2
  rw [hG] at b7 b8
  rw [hS] at b5 b6 b10 b11
  refine ⟨b1.trans a1, fun o ho => (b2 o ho).trans (a2 o ho), fun f h1 h2 => (b3 f h1 h2).trans (a3 f h1 h2), ?_, fun k hk => ?_, fun k hk => ?_, fun k hk => ?_, fun k hk => ?_, b9.trans a9, fun hk => ?_, fun hk hu m hm e => ?_, b12.trans a12⟩
  · rw [b4, a4, Int32.add_assoc, nI_add]
  · rw [b5 k hk, a5 k hk, l3]
  · rw [b6 k hk, a6 k hk, l3]
  · rw [b7 k hk, a7 k hk, l3]
  · rw [b8 k hk, a8 k hk, l3]
  · rw [b10 hk, a10 hk, l3]
  · rw [b11 hk hu _ (Nat.max_lt.mpr ⟨hm, hX⟩) (a11 hk hu m hm e)]
    congr 1
    exact Nat.max_assoc m Mx Mx'
theorem XA.cong (h : XA s k0 u X X2 P F G Mv S W Mx) (hP : ∀ g, P g = P' g) (hF : ∀ g, F g = F' g) (hG : ∀ g, G g = G' g) (hM : ∀ g, Mv g = Mv' g) (hS : S = S') (hW : W = W') (hX : Mx = Mx') : XA s k0 u X X2 P' F' G' Mv' S' W' Mx' := by
  obtain rfl : P = P' := funext hP
  obtain rfl : F = F' := funext hF
  obtain rfl : G = G' := funext hG
  obtain rfl : Mv = Mv' := funext hM
  subst hS
  subst hW
  subst hX
  exact h
theorem XA.row (h : XA s k0 u X X2 P F G Mv S W Mx) (hG : nG s' = nG s) (hS : nS s' = nS s) : XA s' k0 u X X2 P F G Mv S W Mx := by
  unfold XA at *
  rw [hG, hS]
  exact h
theorem XA.pre (h : XA s k0 u X1 X2 P F G Mv S W Mx) (hF : FR 38 X X1) : XA s k0 u X X2 P F G Mv S W Mx := by
  obtain ⟨a1, a2, a3, a4, a5, a6, a7, a8, a9, a10, a11, a12⟩ := h
  have e1 := hF.1
  have e2 := hF.2 37 (by decide)
  rw [e2] at a3 a4 a11
  rw [e1] at a1 a5 a6 a7 a8 a9 a10 a12
  exact ⟨a1, fun o ho => (a2 o ho).trans (hF.2 o (by omega)), a3, a4, a5, a6, a7, a8, a9, a10, a11, a12⟩
theorem XA.post (h : XA s k0 u X X1 P F G Mv S W Mx) (hF : FR 38 X1 X2) : XA s k0 u X X2 P F G Mv S W Mx := by
  obtain ⟨a1, a2, a3, a4, a5, a6, a7, a8, a9, a10, a11, a12⟩ := h
  have e1 := hF.1
  have e2 := hF.2 37 (by decide)
  rw [← e2] at a3 a4 a11
  rw [← e1] at a1 a5 a6 a7 a8 a9 a10 a12
  exact ⟨a1, fun o ho => (hF.2 o (by omega)).trans (a2 o ho), a3, a4, a5, a6, a7, a8, a9, a10, a11, a12⟩
theorem XA.no (h0 : X2.2.2 = X.2.2) (h1 : X2 = X) (hu : u ≠ 1 ∨ Mx = 0) : XA s k0 u X X2 (fun _ => 0) (fun _ => 0) (fun _ => 0) (fun _ => 0) 0 0 Mx := by
  subst h1
  refine ⟨rfl, fun _ _ => rfl, fun _ _ _ => rfl, (Int32.add_zero _).symm, fun _ _ => (Int64.add_zero _).symm, fun _ _ => (Int64.add_zero _).symm, fun _ _ => (Int64.add_zero _).symm, fun _ _ => (Int64.add_zero _).symm, rfl, fun _ => (Int64.add_zero _).symm, fun _ e m _ h => ?_, rfl⟩
  rcases hu with z | z
  · exact absurd e z
  · rw [z, Nat.max_eq_left (Nat.zero_le _)]
    exact h
end XX
def FW (X : Mm) (s : Rw) (T : Trp) (k0 : Nat) (n0 u : Int32) : Prop := XF X ∧ LG X 38 s T ∧ X.1 37 8 = nI k0 ∧ X.1 37 9 = n0 ∧ X.1 37 10 = u
theorem X5_arrive {X : Mm} {s : Rw} {T : Trp} {k0 : Nat} {n0 u : Int32} (h : FW X s T k0 n0 u) (hI : Inv s) (hk : k0 < 6) {w : Nat} (hw : w < 2 ^ 40) : ∃ X', f_X5_arrive X 37 (lN w) = some (X', ()) ∧ LG X' 38 s T ∧ XA s k0 u X X' (fun _ => 0) (fun k => w * fF k s) (fun _ => 0) (fun _ => 0) (w * fL k0 n0 s) (if w = 0 then 0 else 1) (fP k0 s) := by
  obtain ⟨t1, t2, t3, t4, t5⟩ := h
  obtain ⟨hb, hX, hL⟩ := id t2
  have h6 := hI.1.2
  have ex0 : X.2.2 37 0 = some 38 := t1.1.2.1.1
  have ex2 : X.2.2 37 2 = some 57 := t1.1.2.1.2.2.1
  have es0 : X.2.2 38 0 = some 39 := hX.1.1
  have es : X.2.2 39 (nI k0).toNatClampNeg = some (42 + k0) := hX.sd hk
  have gs : okA nX shX 39 10 (nI k0) := okSr (b := 38) hb hk
  have gso : ok nX shX (42 + k0) 3 := okSo (b := 38) hb hk
  unfold f_X5_arrive
  rw [gd_t gX37, ex0, Option.bind_some, gd_t gX38, es0, Option.bind_some, t3, gd_t gs, es, Option.bind_some, gd_t gso]
  generalize hp : X.1 (42 + k0) 3 = p
  have hpk : k0 < nS s → p = nI (pN s k0) := fun hk0 => by
    rw [← hp, ← (pN_ok hI k0).1]
    exact (hL.2.1 k0 hk0).2.2.2.1
  have hmx : k0 < nS s → ∀ m, m < 1000 → X.1 37 12 = nI m → (if X.1 37 12 < p then p else X.1 37 12) = nI (max m (fP k0 s)) := by
    intro hk0 m hm e
    have := (pN_ok hI k0).2
    rw [e, hpk hk0]
    by_cases c : m < pN s k0
    · rw [if_pos (nI_lt c (by omega)), Nat.max_eq_right (by unfold fP; omega)]
      rfl
    · rw [if_neg (nI_nlt (by omega) (by omega)), Nat.max_eq_left (by unfold fP; omega)]
  simp only [lt]
  by_cases c : w = 0
  · subst c
    rw [if_pos (show lg_cmp (lN 0) 0 = 0 from (lg_cmp_eq _ _).mpr rfl)]
    refine ⟨_, rfl, t2.at hI rfl (fun o h1 _ => sI_obj (by omega)), rfl, fun o ho => sI_obj (by omega), fun f h1 h2 => rdK h2, ?_, fun k hk => ?_, fun k hk => ?_, fun k hk => ?_, fun k hk => ?_, rfl, fun hk => ?_, fun hk0 hu m hm e => ?_, rfl⟩
    · rw [rdK (by decide), if_pos rfl]
      exact (Int32.add_zero _).symm
    · exact (Int64.add_zero _).symm
    · dsimp only
      rw [Nat.zero_mul]
      exact (Int64.add_zero _).symm
    · exact (Int64.add_zero _).symm
    · exact (Int64.add_zero _).symm
    · rw [Nat.zero_mul]
      exact (Int64.add_zero _).symm
    · rw [rdE]
      exact hmx hk0 m hm e
  · have : ¬ lg_cmp (lN w) 0 = 0 := fun z => c ((pk_lEQ (a := w) (b := 0) (by omega) (by decide)).mp ((lg_cmp_eq _ _).mp z))
    rw [if_neg this, rdK (show 7 ≠ 12 by decide), rdK (show 9 ≠ 7 by decide), rdK (show 9 ≠ 12 by decide), t4]
    have key : ∀ v : Int64, (k0 < nS s → v = lN (w * fL k0 n0 s)) → ∃ X', f_X5_arrive_b63 (sI (sI X 37 12 (if X.1 37 12 < p then p else X.1 37 12)) 37 7 (X.1 37 7 + 1)) 37 (lN w) 37 (X.2.1 37 11) v = some (X', ()) ∧ LG X' 38 s T ∧ XA s k0 u X X' (fun _ => 0) (fun k => w * fF k s) (fun _ => 0) (fun _ => 0) (w * fL k0 n0 s) (if w = 0 then 0 else 1) (fP k0 s) := by
      intro v hv
      have hL2 : LG (sL (sI (sI X 37 12 (if X.1 37 12 < p then p else X.1 37 12)) 37 7 (X.1 37 7 + 1)) 37 11 (X.2.1 37 11 + v)) 38 s T := t2.at hI rfl (fun o h1 _ => by rw [sL_1, sI_obj (by omega), sI_obj (by omega)])
      unfold f_X5_arrive_b63
      rw [gd_t gX37]
      simp only [lt]
      rw [gd_t gX37, sL_r, sI_r, sI_r, ex0, Option.bind_some, gd_t gX38, X1_leader hL2 hI, Option.bind_some]
      dsimp only
      by_cases c0 : 0 < nS s
      · have hld := ldA_lt s (nP s) (nS s) c0
        rw [if_pos c0, if_neg (neZ (by omega)), sL_r, sI_r, sI_r, ex2, Option.bind_some, gd_t (hL7 (by omega)), gd_t (hL7 (by omega)), nI_clamp (by omega)]
        refine ⟨_, rfl, hL2, rfl, fun o ho => ?_, fun f h1 h2 => ?_, ?_, fun k hk => ?_, fun k hk => ?_, fun k hk => ?_, fun k hk => ?_, ?_, fun hk => ?_, fun hk0 hu m hm e => ?_, ?_⟩
        · rw [sL_1, sL_1, sI_obj (by omega), sI_obj (by omega)]
        · rw [sL_1, sL_1, rdK h1, rdK h2]
        · rw [sL_1, sL_1, rdE, if_neg c]
          rfl
        · rw [sL_o (by decide), sL_o (by decide)]
          exact (Int64.add_zero _).symm
        · by_cases c2 : k = ldA s (nP s) (nS s)
          · subst c2
            have : fF (ldA s (nP s) (nS s)) s = 1 := if_pos rfl
            dsimp only
            rw [sL_e, sL_o (by decide), this, Nat.mul_one]
            rfl
          · have : fF k s = 0 := if_neg (fun z => c2 z.symm)
            dsimp only
            rw [sL_k c2, sL_o (by decide), this, Nat.mul_zero]
            exact (Int64.add_zero _).symm
        · rw [sL_o (by decide), sL_o (by decide)]
          exact (Int64.add_zero _).symm
        · rw [sL_o (by decide), sL_o (by decide)]
          exact (Int64.add_zero _).symm
        · rw [sL_o (by decide), sL_k (by decide)]
          rfl
        · rw [sL_o (by decide), sL_e, hv hk]
        · rw [sL_1, sL_1, rdK (by decide), rdE]
          exact hmx hk0 m hm e
        · funext j
          rw [sL_o (by decide), sL_o (by decide)]
          rfl
      · rw [if_neg c0, if_pos rfl]
        refine ⟨_, rfl, hL2, rfl, fun o ho => ?_, fun f h1 h2 => ?_, ?_, fun k hk => absurd hk (by omega), fun k hk => absurd hk (by omega), fun k hk => ?_, fun k hk => ?_, ?_, fun hk => absurd hk (by omega), fun hk0 => absurd hk0 (by omega), ?_⟩
        · rw [sL_1, sI_obj (by omega), sI_obj (by omega)]
        · rw [sL_1, rdK h1, rdK h2]
        · rw [sL_1, rdE, if_neg c]
          rfl
        · rw [sL_o (by decide)]
          exact (Int64.add_zero _).symm
        · rw [sL_o (by decide)]
          exact (Int64.add_zero _).symm
        · rw [sL_k (by decide)]
          rfl
        · funext j
          rw [sL_o (by decide)]
          rfl
    by_cases c2 : p < n0
    · rw [if_pos c2]
      exact key 0 (fun hk0 => by
        have : fL k0 n0 s = 0 := if_pos (by rw [(pN_ok hI k0).1, ← hpk hk0]; exact c2)
        rw [this, Nat.mul_zero]
        rfl)
    · rw [if_neg c2]
      exact key _ (fun hk0 => by
        have : fL k0 n0 s = 1 := if_neg (by rw [(pN_ok hI k0).1, ← hpk hk0]; exact c2)
        rw [this, Nat.mul_one])

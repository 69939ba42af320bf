theorem ptsA_ok {s : Rw} (hI : Inv s) (k : Int32) : ∀ g, g ≤ nG s → ∃ n, n ≤ 9 * g ∧ ptsA s g k = nI n := by
  intro g
  induction g with
  | zero => intro _; exact ⟨0, by decide, rfl⟩
  | succ g ih =>
    intro hg
    obtain ⟨n, hn, e⟩ := ih (by omega)
    obtain ⟨-, -, -, -, -, w, hw1, hw2, hw3⟩ := hI.2.2.2.2.1 g (by omega)
    simp only [ptsA]
    rw [e, hw3]
    by_cases c : gO s g 4 = k
    · rw [if_pos c, nI_add]
      exact ⟨n + w, by omega, rfl⟩
    · rw [if_neg c, Int32.add_zero]
      exact ⟨n, by omega, rfl⟩
def pN (s : Rw) (k : Nat) : Nat := (ptsA s (nP s) (nI k)).toNatClampNeg
theorem pN_ok {s : Rw} (hI : Inv s) (k : Nat) : ptsA s (nP s) (nI k) = nI (pN s k) ∧ pN s k ≤ 72 := by
  have h8 := hI.np8
  obtain ⟨n, hn, e⟩ := ptsA_ok hI (nI k) (nP s) hI.2.2.1.2
  have : pN s k = n := by
    unfold pN
    rw [e, nI_clamp (by omega)]
  rw [this]
  exact ⟨e, by omega⟩
def fP (k : Nat) (s : Rw) : Nat := pN s k
def fG (g : Nat) (s : Rw) : Nat := if g < nP s ∧ gO s g 4 = gO s g 0 then 1 else 0
def fM (g : Nat) (s : Rw) : Nat := if g < nP s ∧ ¬ gO s g 4 = gO s g 3 then 1 else 0
def fF (k : Nat) (s : Rw) : Nat := if ldA s (nP s) (nS s) = k then 1 else 0
def fL (k : Nat) (n : Int32) (s : Rw) : Nat := if ptsA s (nP s) (nI k) < n then 0 else 1
def fW (g k : Nat) (s : Rw) : Nat := if g < nG s ∧ gO s g 4 = nI k then 1 else 0
def xP (k : Nat) (s : Rw) (w : Int32) : Nat := if givA s (nP s) w = nI k then (gO s (nP s) 2).toNatClampNeg else 0
def xG (g : Nat) (s : Rw) (w : Int32) : Nat := if g = nP s ∧ givA s (nP s) w = gO s (nP s) 0 then 1 else 0
def xM (g : Nat) (s : Rw) (w : Int32) : Nat := if g = nP s ∧ ¬ givA s (nP s) w = w then 1 else 0
theorem ldA_cong {s s' : Rw} {g : Nat} (h : ∀ k, ptsA s' g k = ptsA s g k) : ∀ n, ldA s' g n = ldA s g n
  | 0 => rfl
  | 1 => rfl
  | n + 2 => by
    unfold ldA
    rw [ldA_cong h (n + 1), h, h]
section RO
theorem fP_ro (k : Nat) : RO (fP k) := fun s s' hI _ h => by
  unfold fP pN
  rw [h.eP, h.pts hI.np8 (Nat.le_refl _)]
theorem fG_ro (g : Nat) : RO (fG g) := fun s s' hI hd h => by
  unfold fG
  rw [h.eP]
  by_cases c : g < nP s
  · rw [h.pl c hI.np8 (show 4 < 7 by decide), h.pl c hI.np8 (show 0 < 7 by decide)]
  · rw [if_neg (fun z => c z.1), if_neg (fun z => c z.1)]
theorem fM_ro (g : Nat) : RO (fM g) := fun s s' hI hd h => by
  unfold fM
  rw [h.eP]
  by_cases c : g < nP s
  · rw [h.pl c hI.np8 (show 4 < 7 by decide), h.pl c hI.np8 (show 3 < 7 by decide)]
  · rw [if_neg (fun z => c z.1), if_neg (fun z => c z.1)]
theorem fF_ro (k : Nat) : RO (fF k) := fun s s' hI _ h => by
  unfold fF
  rw [h.eP, h.eS, ldA_cong (fun k => h.pts hI.np8 (Nat.le_refl _) k)]
theorem fL_ro (k : Nat) (n : Int32) : RO (fL k n) := fun s s' hI _ h => by
  unfold fL
  rw [h.eP, h.pts hI.np8 (Nat.le_refl _)]
theorem fW_ro (g k : Nat) : RO (fW g k) := fun s s' hI hd h => by
  unfold fW
  rw [h.eG]
  by_cases c : g < nG s
  · rw [h.pl (show g < nP s by omega) hI.np8 (show 4 < 7 by decide)]
  · rw [if_neg (fun z => c z.1), if_neg (fun z => c z.1)]
end RO
theorem xP_pot (k : Nat) : ∀ s, Inv s → nP s < nG s → ∀ w e1 e2, (w = gO s (nP s) 0 ∨ w = gO s (nP s) 1) → fP k (winA s w e1 e2) = fP k s + xP k s w := by
  intro s hI hg w e1 e2 _
  obtain ⟨p1, p2⟩ := pN_ok hI k
  obtain ⟨-, -, -, -, -, n, hn1, hn2, hn3⟩ := hI.2.2.2.2.1 _ hg
  unfold fP
  conv => lhs; unfold pN
  rw [winA_nP hI, ptsA_win, p1]
  unfold xP
  by_cases c : givA s (nP s) w = nI k
  · rw [if_pos c, if_pos c, hn3, nI_add, nI_clamp (by omega), nI_clamp (by omega)]
  · rw [if_neg c, if_neg c, Int32.add_zero, nI_clamp (by omega)]
    rfl
theorem xG_pot (g : Nat) : ∀ s, Inv s → nP s < nG s → ∀ w e1 e2, (w = gO s (nP s) 0 ∨ w = gO s (nP s) 1) → fG g (winA s w e1 e2) = fG g s + xG g s w := by
  intro s hI hg w e1 e2 _
  unfold fG xG
  rw [winA_nP hI, winA_lo (j := 0) (by decide)]
  by_cases c : g = nP s
  · subst c
    rw [winA_g4, if_neg (show ¬ (nP s < nP s ∧ gO s (nP s) 4 = gO s (nP s) 0) from fun z => absurd z.1 (Nat.lt_irrefl _)), Nat.zero_add]
    exact if_iff ⟨fun z => ⟨rfl, z.2⟩, fun z => ⟨Nat.lt_succ_self _, z.2⟩⟩
  · rw [winA_old c (by decide), if_neg (show ¬ (g = nP s ∧ givA s (nP s) w = gO s (nP s) 0) from fun z => c z.1), Nat.add_zero]
    exact if_iff ⟨fun z => ⟨by omega, z.2⟩, fun z => ⟨by omega, z.2⟩⟩
theorem xM_pot (g : Nat) : ∀ s, Inv s → nP s < nG s → ∀ w e1 e2, (w = gO s (nP s) 0 ∨ w = gO s (nP s) 1) → fM g (winA s w e1 e2) = fM g s + xM g s w := by
  intro s hI hg w e1 e2 _
  unfold fM xM
  rw [winA_nP hI]
  by_cases c : g = nP s
  · subst c
    rw [winA_g4, winA_g3, if_neg (show ¬ (nP s < nP s ∧ ¬ gO s (nP s) 4 = gO s (nP s) 3) from fun z => absurd z.1 (Nat.lt_irrefl _)), Nat.zero_add]
    exact if_iff ⟨fun z => ⟨rfl, z.2⟩, fun z => ⟨Nat.lt_succ_self _, z.2⟩⟩
  · rw [winA_old c (by decide), winA_old c (by decide), if_neg (show ¬ (g = nP s ∧ ¬ givA s (nP s) w = w) from fun z => c z.1), Nat.add_zero]
    exact if_iff ⟨fun z => ⟨by omega, z.2⟩, fun z => ⟨by omega, z.2⟩⟩
/-- who is given a game: the first one, the other, or nobody else -/
theorem EA_first {s : Rw} {T : Trp} {d g : Nat} (hI : Inv s) (hd : nP s + d = nG s) (hg : g < nG s) : EA T (fG g) d s = EA T (fW g (fI s g)) d s := by
  refine EA_leaf d s hI hd (fun s' hI' hl hk => ?_)
  obtain ⟨q0, -⟩ := hI.2.2.2.2.1 g hg
  unfold fG fW
  rw [hk.2.2.1 g 0 (by decide), q0, hl]
theorem EA_both {s : Rw} {T : Trp} {d g : Nat} (hI : Inv s) (hT : TOk T) (hd : nP s + d = nG s) (hg : g < nG s) : EA T (fW g (fI s g)) d s + EA T (fW g (oI s g)) d s = 10 ^ d := by
  have h6 := hI.1.2
  rw [← EA_add, ← EA_one hT d s hI hd]
  refine EA_leaf d s hI hd (fun s' hI' hl hk => ?_)
  obtain ⟨q0, q1, q2, q3, q4, -⟩ := hI.2.2.2.2.1 g hg
  have hg' : g < nG s' := by rw [hk.1]; exact hg
  have h4 := (hI'.2.2.2.2.2.1 g (by omega)).2
  rw [hk.2.2.1 g 0 (by decide), hk.2.2.1 g 1 (by decide), q0, q1] at h4
  unfold fW
  rcases h4 with z | z
  · rw [z, if_pos ⟨hg', rfl⟩, if_neg (fun y => q4 ((nI_eq (by omega) (by omega)).mp y.2))]
  · rw [z, if_neg (fun y => q4 ((nI_eq (by omega) (by omega)).mp y.2).symm), if_pos ⟨hg', rfl⟩]
theorem EA_none {s : Rw} {T : Trp} {d g k : Nat} (hI : Inv s) (hd : nP s + d = nG s) (hg : g < nG s) (hk6 : k < 6) (h1 : k ≠ fI s g) (h2 : k ≠ oI s g) : EA T (fW g k) d s = 0 := by
  have h6 := hI.1.2
  rw [← EA_zero (T := T) d s]
  refine EA_leaf d s hI hd (fun s' hI' hl hk => ?_)
  obtain ⟨q0, q1, q2, q3, q4, -⟩ := hI.2.2.2.2.1 g hg
  have hg' : g < nG s' := by rw [hk.1]; exact hg
  have h4 := (hI'.2.2.2.2.2.1 g (by omega)).2
  rw [hk.2.2.1 g 0 (by decide), hk.2.2.1 g 1 (by decide), q0, q1] at h4
  unfold fW
  rcases h4 with z | z
  · rw [z, if_neg (fun y => h1 ((nI_eq (by omega) (by omega)).mp y.2).symm)]
  · rw [z, if_neg (fun y => h2 ((nI_eq (by omega) (by omega)).mp y.2).symm)]
theorem MA_le {T : Trp} {φ : Rw → Nat} {N : Nat} : ∀ (d : Nat) (s : Rw), Inv s → nP s + d = nG s → (∀ s', Inv s' → φ s' ≤ N) → MA T φ d s ≤ N := by
  intro d
  induction d with
  | zero => intro s hI _ hh; exact hh s hI
  | succ d ih =>
    intro s hI hd hh
    have hg : nP s < nG s := by omega
    simp only [MA]
    exact Nat.max_le.mpr ⟨ih _ (w1_inv hI hg) (by rw [w1_nP hI, w1_nG]; omega) hh, ih _ (w2_inv hI hg) (by rw [w2_nP hI, w2_nG]; omega) hh⟩

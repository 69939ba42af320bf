section LL
variable {M : Mm} {b : Nat} {s : Nat → Int32} {T : Int32 × Int32 × Int32}
/-- all games are as if not played -/
theorem forget_loop (hb : lb b) {N : Nat} (h6 : N ≤ 6) (was : Int32) : ∀ (d j n : Nat) (M : Mm), j + d = N → d < n → XL M b → M.1 b 3 = nI N →
    ∃ M', f_X1_forgetGames_b7 n M b was (nI j) = some (sI M' b 5 0, was) ∧ M'.2 = M.2 ∧ (∀ i, j ≤ i → i < N → M'.1 (b + 4 + i) 3 = 0 ∧ M'.1 (b + 4 + i) 4 = 0 ∧ M'.1 (b + 4 + i) 5 = 0 ∧ ∀ k, k < 3 → M'.1 (b + 4 + i) k = M.1 (b + 4 + i) k) ∧ (∀ x, (∀ i, j ≤ i → i < N → x ≠ b + 4 + i) → M'.1 x = M.1 x) := by
  intro d
  induction d with
  | zero =>
    intro j n M h1 h2 hX h3
    obtain ⟨n, rfl⟩ : ∃ z, n = z + 1 := ⟨n - 1, by omega⟩
    refine ⟨M, ?_, rfl, fun i h1 h2 => by omega, fun x _ => rfl⟩
    simp only [f_X1_forgetGames_b7]
    rw [gd_t (okB hb), h3, if_pos (nI_le (by omega) (by omega))]
    rfl
  | succ d ih =>
    intro j n M h1 h2 hX h3
    obtain ⟨n, rfl⟩ : ∃ z, n = z + 1 := ⟨n - 1, by omega⟩
    obtain ⟨M', e1, e2, e3, e4⟩ := ih (j + 1) n (sI (sI (sI M (b + 4 + j) 3 0) (b + 4 + j) 4 0) (b + 4 + j) 5 0) (by omega) (by omega) hX (by rw [rdN (by omega), rdN (by omega), rdN (by omega)]; exact h3)
    refine ⟨M', ?_, e2, ?_, ?_⟩
    · simp only [f_X1_forgetGames_b7]
      rw [gd_t (okB hb), h3, if_neg (nI_ge (by omega) (by omega)), hX.1.1, Option.bind_some, gd_t (okSr hb (by omega)), hX.sd (by omega), Option.bind_some, gd_t (okSo hb (by omega)), X3_rest (okSo hb (by omega)), Option.bind_some, nI_1]
      exact e1
    · intro i hi1 hi2
      by_cases q : i = j
      · subst q
        rw [e4 _ (fun z hz1 hz2 => by omega)]
        refine ⟨?_, ?_, rdE, fun k hk => ?_⟩
        · rw [rdK (by decide), rdK (by decide), rdE]
        · rw [rdK (by decide), rdE]
        · rw [rdK (by omega), rdK (by omega), rdK (by omega)]
      · obtain ⟨a1, a2, a3, a4⟩ := e3 i (by omega) hi2
        refine ⟨a1, a2, a3, fun k hk => ?_⟩
        rw [a4 k hk, rdN (by omega), rdN (by omega), rdN (by omega)]
    · intro x hx
      have hj := hx j (Nat.le_refl _) (by omega)
      rw [e4 x (fun i h1 h2 => hx i (by omega) h2), sI_obj hj, sI_obj hj, sI_obj hj]
theorem X1_forgetGames (h : LG M b s T) (hI : Inv s) : ∃ M', f_X1_forgetGames M b = some (M', nI (nP s)) ∧ LG M' b (upd s 2 0) T ∧ FR b M M' := by
  obtain ⟨hb, hX, hL⟩ := id h
  have h6 := hI.1.2
  have h8 := hI.2.1.2
  obtain ⟨M1, e1, e2, e3, e4⟩ := forget_loop hb h6 (nI (nP s)) (nS s) 0 1000 M (by omega) (by omega) hX (hL.1.1.trans hI.1.1)
  have o1 : ∀ x, (x < b + 4 ∨ b + 10 ≤ x) → M1.1 x = M.1 x := fun x hx => e4 x (fun i _ _ => by omega)
  have hF : FR b M (sI M1 b 5 0) := fr_sI ⟨e2, fun x hx => o1 x (by omega)⟩ (by omega) (by omega)
  refine ⟨_, ?_, ⟨hb, fr_XL hF hX, ?_⟩, hF⟩
  · unfold f_X1_forgetGames
    rw [gd_t (okB hb), hL.1.2.2.1, hI.2.2.1.1]
    exact e1
  · have eP : nP (upd s 2 0) = 0 := by
      show (upd s 2 0 2).toNatClampNeg = 0
      rw [pk_us]
      exact cl0
    have eS : nS (upd s 2 0) = nS s := nS_upd (by decide)
    have eG : nG (upd s 2 0) = nG s := nG_upd (by decide)
    have rb : ∀ k, k ≠ 5 → (sI M1 b 5 0).1 b k = M.1 b k := fun k hk => by rw [rdK hk, o1 b (by omega)]
    have hgo : ∀ g, g < 8 → (sI M1 b 5 0).1 (gq M b g) = M.1 (gq M b g) := fun g hg => by
      obtain ⟨-, t1, t2⟩ := hX.2.2.1 g hg
      rw [sI_obj (by omega), o1 _ (by omega)]
    unfold LD
    simp only [eP, eS, eG, fr_gq hF]
    obtain ⟨a3, a4, a5, a6, a7, a8, a9, a10⟩ := hL.1
    refine ⟨⟨?_, ?_, ?_, ?_, ?_, ?_, ?_, ?_⟩, ?_, ?_, fun g hg => by omega, ?_, ?_⟩
    · rw [rb 3 (by decide), pk_un (by decide)]; exact a3
    · rw [rb 4 (by decide), pk_un (by decide)]; exact a4
    · rw [rdE, pk_us]
    · rw [rb 6 (by decide), pk_un (by decide)]; exact a6
    · rw [rb 7 (by decide), pk_un (by decide)]; exact a7
    · rw [rb 8 (by decide)]; exact a8
    · rw [rb 9 (by decide)]; exact a9
    · rw [rb 10 (by decide)]; exact a10
    · intro i hi
      obtain ⟨z3, z4, z5, zk⟩ := e3 i (by omega) hi
      rw [sI_obj (by omega), zk 0 (by decide), zk 1 (by decide), zk 2 (by decide), z3, z4, z5, sO_upd (by omega), sO_upd (by omega), sO_upd (by omega)]
      obtain ⟨v0, v1, v2, -⟩ := hL.2.1 i hi
      exact ⟨v0, v1, v2, rfl, rfl, rfl⟩
    · intro g hg
      rw [hgo g (by omega), gO_upd (by omega), gO_upd (by omega), gO_upd (by omega)]
      exact hL.2.2.1 g hg
    · intro j hj
      rw [sI_obj (by omega), o1 _ (by omega), pk_un (by omega)]
      exact hL.2.2.2.2.1 j hj
    · intro g hg
      rw [hgo g hg]
      exact hL.2.2.2.2.2 g hg
theorem Inv.anew (hI : Inv s) : Inv (upd s 2 0) := by
  have h6 := hI.1.2
  have h8 := hI.2.1.2
  have eP : nP (upd s 2 0) = 0 := by
    show (upd s 2 0 2).toNatClampNeg = 0
    rw [pk_us]
    exact cl0
  have eF : ∀ g, fI (upd s 2 0) g = fI s g := fun g => by unfold fI; rw [gO_upd (by omega)]
  have eO : ∀ g, oI (upd s 2 0) g = oI s g := fun g => by unfold oI; rw [gO_upd (by omega)]
  unfold Inv
  simp only [eP, nS_upd (s := s) (k := 2) (v := 0) (by decide), nG_upd (s := s) (k := 2) (v := 0) (by decide), lW_upd (s := s) (k := 2) (v := 0) (by decide), eF, eO]
  refine ⟨⟨?_, hI.1.2⟩, ⟨?_, hI.2.1.2⟩, ⟨pk_us, Nat.zero_le _⟩, ⟨?_, hI.2.2.2.1.2⟩, ?_, fun g hg => by omega, ?_, ?_⟩
  · rw [pk_un (by decide)]; exact hI.1.1
  · rw [pk_un (by decide)]; exact hI.2.1.1
  · rw [pk_un (by decide)]; exact hI.2.2.2.1.1
  · intro g hg
    rw [gO_upd (by omega), gO_upd (by omega), gO_upd (by omega)]
    exact hI.2.2.2.2.1 g hg
  · intro i hi
    rw [sO_upd (by omega), sO_upd (by omega), sO_upd (by omega)]
    exact hI.2.2.2.2.2.2.1 i hi
  · intro j hj
    rw [pk_un (by omega)]
    exact hI.2.2.2.2.2.2.2 j hj
/-- a spot holds another -/
theorem LG_spot (h : LG M b s T) (hI : Inv s) {j : Nat} (hj : j < 10) (v : Int32) : LG (sI M (b + 3) j v) b (upd s (79 + j) v) T ∧ FR b M (sI M (b + 3) j v) := by
  obtain ⟨hb, hX, hL⟩ := h
  have h6 := hI.1.2
  have h8 := hI.2.1.2
  have hpg := hI.2.2.1.2
  have hF : FR b M (sI M (b + 3) j v) := fr_sI fr_rf (by omega) (by omega)
  have hgo : ∀ g, g < 8 → (sI M (b + 3) j v).1 (gq M b g) = M.1 (gq M b g) := fun g hg => by
    obtain ⟨-, t1, t2⟩ := hX.2.2.1 g hg
    exact sI_obj (by omega)
  refine ⟨⟨hb, fr_XL hF hX, LD.modify hL (nP_upd (by omega)) (fun g => fr_gq hF) (fun g _ z hz => gO_upd (by omega)) ?_ ?_ ?_ (fun g hg k hk => by rw [hgo g (by omega)]) (fun i hi => ?_) (GBof hL (fun g => fr_gq hF) hgo)⟩, hF⟩
  · rw [sI_obj (by omega), pk_un (by omega), pk_un (by omega), pk_un (by omega), pk_un (by omega), pk_un (by omega)]
    exact hL.1
  · intro i hi
    rw [nS_upd (by omega)] at hi
    rw [sI_obj (by omega), sO_upd (by omega), sO_upd (by omega), sO_upd (by omega)]
    exact hL.2.1 i hi
  · intro g hg
    rw [nG_upd (by omega)] at hg
    rw [hgo g (by omega), gO_upd (by omega), gO_upd (by omega), gO_upd (by omega)]
    exact hL.2.2.1 g hg
  · by_cases c : i = j
    · subst c
      rw [rdE, pk_us]
    · rw [rdK c, pk_un (by omega)]
      exact hL.2.2.2.2.1 i hi
theorem Inv.spot (hI : Inv s) {j : Nat} (hj : j < 10) {v : Int32} (hv : v = -1 ∨ ∃ i, i < nS s ∧ v = nI i) : Inv (upd s (79 + j) v) :=
  have h6 := hI.1.2
  hI.cong (pk_un (by omega)) (pk_un (by omega)) (pk_un (by omega)) ⟨lW s, hI.2.2.2.1.2.1, hI.2.2.2.1.2.2, by rw [pk_un (by omega)]; exact hI.2.2.2.1.1⟩ (fun g hg z hz => gO_upd (by omega)) (fun i hi => by
    rw [sO_upd (by omega), sO_upd (by omega), sO_upd (by omega)]
    exact hI.2.2.2.2.2.2.1 i hi) (fun i hi => by
    by_cases c : i = j
    · subst c
      rw [pk_us]
      exact hv
    · rw [pk_un (by omega)]
      exact hI.2.2.2.2.2.2.2 i hi)
end LL

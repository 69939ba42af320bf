section AG
variable {s : Nat → Int32} {a c w : Int32}
theorem adG_ne {x : Nat} (h1 : x ≠ 1) (h : x < 23 + 7 * nG s ∨ 23 + 7 * nG s + 6 < x) : adG s a c w x = s x := by
  unfold adG
  rw [pk_un h1, pk_un (by omega), pk_un (by omega), pk_un (by omega), pk_un (by omega), pk_un (by omega), pk_un (by omega), pk_un (by omega)]
theorem adG_gO {g j : Nat} (hg : g ≠ nG s) (hj : j < 7) : gO (adG s a c w) g j = gO s g j := by
  unfold gO
  exact adG_ne (by omega) (by omega)
theorem adG_new : gO (adG s a c w) (nG s) 0 = a ∧ gO (adG s a c w) (nG s) 1 = c ∧ gO (adG s a c w) (nG s) 2 = w := by
  unfold gO adG
  refine ⟨?_, ?_, ?_⟩
  · rw [pk_un (by omega), pk_un (by omega), pk_un (by omega), pk_un (by omega), pk_un (by omega), pk_un (by omega), pk_un (by omega), pk_us]
  · rw [pk_un (by omega), pk_un (by omega), pk_un (by omega), pk_un (by omega), pk_un (by omega), pk_un (by omega), pk_us]
  · rw [pk_un (by omega), pk_un (by omega), pk_un (by omega), pk_un (by omega), pk_un (by omega), pk_us]
theorem adG_sO {i j : Nat} (hi : i < 6) (hj : j < 3) : sO (adG s a c w) i j = sO s i j := by
  unfold sO
  exact adG_ne (by omega) (by omega)
theorem adG_1 (h1 : s 1 = nI (nG s)) : adG s a c w 1 = nI (nG s + 1) := by
  unfold adG
  rw [pk_us]
  conv => lhs; rw [h1]
  rw [nI_1]
theorem adG_nG (h1 : s 1 = nI (nG s)) (h8 : nG s < 8) : nG (adG s a c w) = nG s + 1 := by
  show (adG s a c w 1).toNatClampNeg = nG s + 1
  rw [adG_1 h1, nI_clamp (by omega)]
theorem Inv.addG (hI : Inv s) (h8 : nG s < 8) {i j : Nat} (ha : a = nI i) (hc : c = nI j) (hi : i < nS s) (hj : j < nS s) (hij : i ≠ j) (hw : ∃ n, 1 ≤ n ∧ n ≤ 9 ∧ w = nI n) : Inv (adG s a c w) := by
  have h6 := hI.1.2
  have hpg := hI.2.2.1.2
  have eS : nS (adG s a c w) = nS s := by unfold nS; rw [adG_ne (by decide) (by omega)]
  have eP : nP (adG s a c w) = nP s := by unfold nP; rw [adG_ne (by decide) (by omega)]
  have eL : lW (adG s a c w) = lW s := by unfold lW; rw [adG_ne (by decide) (by omega)]
  unfold Inv
  simp only [adG_nG hI.2.1.1 h8, eS, eP, eL, adG_1 hI.2.1.1]
  refine ⟨⟨?_, hI.1.2⟩, ⟨trivial, h8⟩, ⟨?_, by omega⟩, ⟨?_, hI.2.2.2.1.2⟩, ?_, ?_, ?_, ?_⟩
  · rw [adG_ne (by decide) (by omega)]; exact hI.1.1
  · rw [adG_ne (by decide) (by omega)]; exact hI.2.2.1.1
  · rw [adG_ne (by decide) (by omega)]; exact hI.2.2.2.1.1
  · intro g hg
    unfold fI oI
    by_cases q : g = nG s
    · subst q
      obtain ⟨a1, a2, a3⟩ := adG_new (s := s) (a := a) (c := c) (w := w)
      rw [a1, a2, a3, ha, hc, nI_clamp (by omega), nI_clamp (by omega)]
      obtain ⟨n, y1, y2, y3⟩ := hw
      exact ⟨rfl, rfl, hi, hj, hij, n, y1, y2, y3⟩
    · rw [adG_gO q (by decide), adG_gO q (by decide), adG_gO q (by decide)]
      exact hI.2.2.2.2.1 g (by omega)
  · intro g hg
    rw [adG_gO (by omega) (by decide), adG_gO (by omega) (by decide), adG_gO (by omega) (by decide), adG_gO (by omega) (by decide)]
    exact hI.2.2.2.2.2.1 g hg
  · intro i hi
    rw [adG_sO (by omega) (by decide), adG_sO (by omega) (by decide), adG_sO (by omega) (by decide)]
    exact hI.2.2.2.2.2.2.1 i hi
  · intro j hj
    rw [adG_ne (by omega) (by omega)]
    exact hI.2.2.2.2.2.2.2 j hj
end AG
section LL
variable {M : Mm} {b : Nat} {s : Nat → Int32} {T : Int32 × Int32 × Int32}
theorem X3_rest {o : Nat} (ho : ok nX shX o 3) : f_X3_rest M o = some (sI (sI (sI M o 3 0) o 4 0) o 5 0, ()) := by
  unfold f_X3_rest
  rw [gd_t ho]
  rfl
theorem X1_addSide (h : LG M b s T) (hI : Inv s) (h6 : nS s < 6) (k st te : Int32) : ∃ M', f_X1_addSide M b k st te = some (M', nI (nS s)) ∧ LG M' b (adS s k st te) T ∧ FR b M M' := by
  obtain ⟨hb, hX, hL⟩ := id h
  have h8 := hI.2.1.2
  have hpg := hI.2.2.1.2
  have e3 : M.1 b 3 = nI (nS s) := hL.1.1.trans hI.1.1
  obtain ⟨z1, z2, z3⟩ := hI.newS (Nat.le_refl (nS s)) (by omega)
  generalize hn : nS s = n at *
  have hso := okSo (i := n) hb (by omega)
  have rb : ∀ (M0 : Mm) (k : Nat) (v : Int32) (c : Nat), (sI M0 (b + 4 + n) k v).1 b c = M0.1 b c := fun _ _ _ _ => rdN (by omega)
  have hF : FR b M (sI (sI (sI (sI (sI (sI (sI M (b + 4 + n) 3 0) (b + 4 + n) 4 0) (b + 4 + n) 5 0) (b + 4 + n) 0 k) (b + 4 + n) 1 st) (b + 4 + n) 2 te) b 3 (nI n + 1)) := by
    repeat (first | exact fr_rf | refine fr_sI ?_ (by omega) (by omega))
  refine ⟨_, ?_, ⟨hb, fr_XL hF hX, ?_⟩, hF⟩
  · unfold f_X1_addSide
    rw [gd_t (okB hb), hX.1.1, Option.bind_some, e3, gd_t (okSr hb (by omega)), hX.sd (by omega), Option.bind_some, gd_t hso, X3_rest hso, Option.bind_some]
    simp only [lt, rb, e3]
    rw [rdE, nI_1, nI_pred]
  · have hgo : ∀ g, g < 8 → (sI (sI (sI (sI (sI (sI (sI M (b + 4 + n) 3 0) (b + 4 + n) 4 0) (b + 4 + n) 5 0) (b + 4 + n) 0 k) (b + 4 + n) 1 st) (b + 4 + n) 2 te) b 3 (nI n + 1)).1 (gq M b g) = M.1 (gq M b g) := fun g hg => by
      obtain ⟨-, t1, t2⟩ := hX.2.2.1 g hg
      rw [sI_obj (by omega), sI_obj (by omega), sI_obj (by omega), sI_obj (by omega), sI_obj (by omega), sI_obj (by omega), sI_obj (by omega)]
    have eG : nG (adS s k st te) = nG s := by unfold nG; rw [adS_ne (by decide) (by omega)]
    refine LD.modify hL (by unfold nP; rw [adS_ne (by decide) (by omega)]) (fun g => fr_gq hF) (fun g _ j hj => adS_gO (by omega)) ?_ ?_ ?_ (fun g hg k hk => by rw [hgo g (by omega)]) (fun j hj => ?_) (GBof hL (fun g => fr_gq hF) hgo)
    · obtain ⟨a3, a4, a5, a6, a7, a8, a9, a10⟩ := hL.1
      have e0 : adS s k st te 0 = nI n + 1 := by
        unfold adS
        rw [pk_us, ← e3, a3]
      rw [e0, adS_ne (x := 1) (by decide) (by omega), adS_ne (x := 2) (by decide) (by omega), adS_ne (x := 3) (by decide) (by omega), adS_ne (x := 4) (by decide) (by omega), rdE]
      simp only [rdK (show (4 : Nat) ≠ 3 by decide), rdK (show (5 : Nat) ≠ 3 by decide), rdK (show (6 : Nat) ≠ 3 by decide), rdK (show (7 : Nat) ≠ 3 by decide), rdK (show (8 : Nat) ≠ 3 by decide), rdK (show (9 : Nat) ≠ 3 by decide), rdK (show (10 : Nat) ≠ 3 by decide), rb]
      exact ⟨trivial, a4, a5, a6, a7, a8, a9, a10⟩
    · intro i hi
      rw [adS_nS hI.1.1 (by omega), hn] at hi
      by_cases q : i = n
      · subst q
        have hnew := adS_new (s := s) (k := k) (st := st) (te := te)
        rw [hn] at hnew
        rw [hnew.1, hnew.2.1, hnew.2.2, z1, z2, z3]
        rw [rdN (a := b + 4 + i) (o := b) (by omega), rdN (a := b + 4 + i) (o := b) (by omega), rdN (a := b + 4 + i) (o := b) (by omega), rdN (a := b + 4 + i) (o := b) (by omega), rdN (a := b + 4 + i) (o := b) (by omega), rdN (a := b + 4 + i) (o := b) (by omega)]
        rw [rdK (c := 0) (k := 2) (by decide), rdK (c := 0) (k := 1) (by decide), rdE, rdK (c := 1) (k := 2) (by decide), rdE, rdE]
        rw [rdK (c := 3) (k := 2) (by decide), rdK (c := 3) (k := 1) (by decide), rdK (c := 3) (k := 0) (by decide), rdK (c := 3) (k := 5) (by decide), rdK (c := 3) (k := 4) (by decide), rdE]
        rw [rdK (c := 4) (k := 2) (by decide), rdK (c := 4) (k := 1) (by decide), rdK (c := 4) (k := 0) (by decide), rdK (c := 4) (k := 5) (by decide), rdE]
        rw [rdK (c := 5) (k := 2) (by decide), rdK (c := 5) (k := 1) (by decide), rdK (c := 5) (k := 0) (by decide), rdE]
        exact ⟨rfl, rfl, rfl, rfl, rfl, rfl⟩
      · have hi2 : i < nS s := by omega
        rw [sI_obj (by omega), sI_obj (by omega), sI_obj (by omega), sI_obj (by omega), sI_obj (by omega), sI_obj (by omega), sI_obj (by omega), adS_sO (by omega) (by decide) (by omega), adS_sO (by omega) (by decide) (by omega), adS_sO (by omega) (by decide) (by omega)]
        exact hL.2.1 i hi2
    · intro g hg
      rw [eG] at hg
      rw [hgo g (by omega), adS_gO (by omega), adS_gO (by omega), adS_gO (by omega)]
      exact hL.2.2.1 g hg
    · rw [sI_obj (by omega), sI_obj (by omega), sI_obj (by omega), sI_obj (by omega), sI_obj (by omega), sI_obj (by omega), sI_obj (by omega), adS_ne (by omega) (by omega)]
      exact hL.2.2.2.2.1 j hj
theorem X1_addGame (h : LG M b s T) (hI : Inv s) (h8 : nG s < 8) (x y w : Int32) : ∃ M', f_X1_addGame M b x y w = some (M', nI (nG s)) ∧ LG M' b (adG s x y w) T ∧ FR b M M' := by
  obtain ⟨hb, hX, hL⟩ := id h
  have h6 := hI.1.2
  have hpg := hI.2.2.1.2
  have e4 : M.1 b 4 = nI (nG s) := hL.1.2.1.trans hI.2.1.1
  obtain ⟨-, t1, t2⟩ := hX.2.2.1 (nG s) h8
  have hok := hX.go hb (g := nG s) h8
  have hinj := hX.2.2.2 (nG s)
  have hgm := hX.gm (g := nG s) h8
  generalize hq : gq M b (nG s) = q at *
  have rb : ∀ (M0 : Mm) (k : Nat) (v : Int32) (c : Nat), (sI M0 q k v).1 b c = M0.1 b c := fun _ _ _ _ => rdN (by omega)
  have hF : FR b M (sI (sI (sI (sI M q 0 x) q 1 y) q 2 w) b 4 (nI (nG s) + 1)) := by
    repeat (first | exact fr_rf | refine fr_sI ?_ (by omega) (by omega))
  refine ⟨_, ?_, ⟨hb, fr_XL hF hX, ?_⟩, hF⟩
  · unfold f_X1_addGame
    rw [gd_t (okB hb), hX.1.2.1, Option.bind_some, e4, gd_t (okGr hb h8), hgm, Option.bind_some, gd_t hok]
    simp only [lt, rb, e4]
    rw [rdE, nI_1, nI_pred]
  · have hgo : ∀ g, g < 8 → g ≠ nG s → (sI (sI (sI (sI M q 0 x) q 1 y) q 2 w) b 4 (nI (nG s) + 1)).1 (gq M b g) = M.1 (gq M b g) := fun g hg hne => by
      obtain ⟨-, u1, u2⟩ := hX.2.2.1 g hg
      have hx : gq M b g ≠ q := fun z => hne (hinj g h8 hg z.symm).symm
      rw [sI_obj (by omega), sI_obj hx, sI_obj hx, sI_obj hx]
    have eS : nS (adG s x y w) = nS s := by unfold nS; rw [adG_ne (by decide) (by omega)]
    refine LD.modify hL (by unfold nP; rw [adG_ne (by decide) (by omega)]) (fun g => fr_gq hF) (fun g hg j hj => adG_gO (by omega) hj) ?_ ?_ ?_ (fun g hg k hk => by rw [hgo g (by omega) (by omega)]) (fun j hj => ?_) ?_
    · obtain ⟨a3, a4, a5, a6, a7, a8, a9, a10⟩ := hL.1
      rw [adG_1 hI.2.1.1, adG_ne (x := 0) (by decide) (by omega), adG_ne (x := 2) (by decide) (by omega), adG_ne (x := 3) (by decide) (by omega), adG_ne (x := 4) (by decide) (by omega), rdE, nI_1]
      simp only [rdK (show (3 : Nat) ≠ 4 by decide), rdK (show (5 : Nat) ≠ 4 by decide), rdK (show (6 : Nat) ≠ 4 by decide), rdK (show (7 : Nat) ≠ 4 by decide), rdK (show (8 : Nat) ≠ 4 by decide), rdK (show (9 : Nat) ≠ 4 by decide), rdK (show (10 : Nat) ≠ 4 by decide), rb]
      exact ⟨a3, trivial, a5, a6, a7, a8, a9, a10⟩
    · intro i hi
      rw [eS] at hi
      rw [sI_obj (by omega), sI_obj (by omega), sI_obj (by omega), sI_obj (by omega), adG_sO (by omega) (by decide), adG_sO (by omega) (by decide), adG_sO (by omega) (by decide)]
      exact hL.2.1 i hi
    · intro g hg
      rw [adG_nG hI.2.1.1 h8] at hg
      by_cases z : g = nG s
      · subst z
        obtain ⟨a1, a2, a3⟩ := adG_new (s := s) (a := x) (c := y) (w := w)
        rw [a1, a2, a3, hq]
        rw [rdN (a := q) (o := b) (by omega), rdN (a := q) (o := b) (by omega), rdN (a := q) (o := b) (by omega), rdK (c := 0) (k := 2) (by decide), rdK (c := 0) (k := 1) (by decide), rdE, rdK (c := 1) (k := 2) (by decide), rdE, rdE]
        exact ⟨rfl, rfl, rfl⟩
      · rw [hgo g (by omega) z, adG_gO z (by decide), adG_gO z (by decide), adG_gO z (by decide)]
        exact hL.2.2.1 g (by omega)
    · rw [sI_obj (by omega), sI_obj (by omega), sI_obj (by omega), sI_obj (by omega), adG_ne (by omega) (by omega)]
      exact hL.2.2.2.2.1 j hj
    · intro g hg
      have hz := hL.2.2.2.2.2 g hg
      rw [fr_gq hF]
      by_cases z : g = nG s
      · subst z
        rw [hq] at hz ⊢
        rw [rdN (a := q) (o := b) (by omega), rdN (a := q) (o := b) (by omega), rdK (c := 7) (k := 2) (by decide), rdK (c := 7) (k := 1) (by decide), rdK (c := 7) (k := 0) (by decide), rdK (c := 8) (k := 2) (by decide), rdK (c := 8) (k := 1) (by decide), rdK (c := 8) (k := 0) (by decide)]
        exact hz
      · rw [hgo g hg z]
        exact hz
end LL

/-! ===== the worlds as they are made are those of the start ===== -/
theorem arrV_cong {cI : ClassId} {N : Nat} {f g : Nat → Value} (h : ∀ j, j < N → f j = g j) : arrV cI N f = arrV cI N g := by
  unfold arrV
  have e : (fun j : Fin N => f j.val) = fun j : Fin N => g j.val := funext (fun j => h j.val j.isLt)
  rw [e]
def wid (q : Nat × Nat) : Nat := if q.1 < 8 then (fT q.1).length else q.2
section GS
variable {cy : Nat → ClassId} {sh : Nat → Nat × Nat} {ad : Nat → Nat} {n : Nat} {M M' : Mm} {D : va_G} {A : Nat → Prop} {H : Heap}
theorem wP_same (h : ∀ o, o < n → ∀ k, k < wid (sh o) → M.1 o k = M'.1 o k ∧ M.2.1 o k = M'.2.1 o k ∧ M.2.2 o k = M'.2.2 o k) (hp : va_P D vwCl (cW cy sh ad n M) H) : va_P D vwCl (cW cy sh ad n M') H := by
  refine wP_iff.mpr (fun o ho => ?_)
  have h1 := wP_iff.mp hp o ho
  have h2 := h o ho
  unfold cE at h1 ⊢
  unfold wid at h2
  by_cases c8 : (sh o).1 < 8
  · rw [if_pos c8] at h1 h2 ⊢
    have e : flds ad M o (fT (sh o).1) = flds ad M' o (fT (sh o).1) := by
      unfold flds
      apply List.ext_getElem?
      intro j
      rw [List.getElem?_map, List.getElem?_map, List.getElem?_zipIdx]
      cases hj : (fT (sh o).1)[j]? with
      | none => rfl
      | some t =>
        have hl := (List.getElem?_eq_some_iff.mp hj).1
        obtain ⟨a1, a2, a3⟩ := h2 j hl
        simp only [Option.map_some, Nat.zero_add]
        rw [fV_cong (M := M') (M' := M) a1 a2 a3]
    rw [e] at h1
    exact h1
  · rw [if_neg c8] at h1 h2 ⊢
    by_cases c9 : (sh o).1 = 8
    · rw [if_pos c9] at h1 ⊢
      have h1 : H[ad o]? = some (vp_cell (cy 0) ((sh o).2, .inl (M.1 o))) := h1
      show H[ad o]? = some (vp_cell (cy 0) ((sh o).2, .inl (M'.1 o)))
      rw [h1, vp_cell_i, vp_cell_i, arrV_cong (fun j hj => by rw [(h2 j hj).1])]
    · rw [if_neg c9] at h1 ⊢
      by_cases c10 : (sh o).1 = 9
      · rw [if_pos c10] at h1 ⊢
        have h1 : H[ad o]? = some (vp_cell (cy 1) ((sh o).2, .inr (.inl (M.2.1 o)))) := h1
        show H[ad o]? = some (vp_cell (cy 1) ((sh o).2, .inr (.inl (M'.2.1 o))))
        rw [h1, vp_cell_l, vp_cell_l, arrV_cong (fun j hj => by rw [(h2 j hj).2.1])]
      · rw [if_neg c10] at h1 ⊢
        have h1 : H[ad o]? = some (vp_cell (cy ((sh o).1 - 8)) ((sh o).2, .inr (.inr (.inr (.inr (fun j => (M.2.2 o j).map ad)))))) := h1
        show H[ad o]? = some (vp_cell (cy ((sh o).1 - 8)) ((sh o).2, .inr (.inr (.inr (.inr (fun j => (M'.2.2 o j).map ad))))))
        rw [h1, vp_cell_q, vp_cell_q, arrV_cong (fun j hj => by rw [(h2 j hj).2.2])]
theorem wD_same (h : va_D A (cW cy sh ad n M)) : va_D A (cW cy sh ad n M') := wD_iff.mpr (wD_iff.mp h)
end GS
theorem GBo_0 (I : Mm) : GBo I PXe 0 := ⟨fun _ _ _ => rfl, fun _ _ _ h => by cases h⟩
theorem isLg_1 : isLg shX iX 1 := by
  unfold isLg SpI SpN
  refine ⟨by decide +kernel, by decide +kernel, by decide +kernel, by decide +kernel, by decide +kernel, by decide +kernel, by decide +kernel, by decide +kernel, by decide +kernel, by decide +kernel, fun k h1 h2 => (by decide +kernel : ∀ k, k < 11 → 3 ≤ k → iX.2.2 1 k = none) k h2 h1, by decide +kernel, by decide +kernel, by decide +kernel⟩
theorem isLg_19 : isLg shX iX 19 := by
  unfold isLg SpI SpN
  refine ⟨by decide +kernel, by decide +kernel, by decide +kernel, by decide +kernel, by decide +kernel, by decide +kernel, by decide +kernel, by decide +kernel, by decide +kernel, by decide +kernel, fun k h1 h2 => (by decide +kernel : ∀ k, k < 11 → 3 ≤ k → iX.2.2 19 k = none) k h2 h1, by decide +kernel, by decide +kernel, by decide +kernel⟩
theorem isLg_38 : isLg shX iX 38 := by
  unfold isLg SpI SpN
  refine ⟨by decide +kernel, by decide +kernel, by decide +kernel, by decide +kernel, by decide +kernel, by decide +kernel, by decide +kernel, by decide +kernel, by decide +kernel, by decide +kernel, fun k h1 h2 => (by decide +kernel : ∀ k, k < 11 → 3 ≤ k → iX.2.2 38 k = none) k h2 h1, by decide +kernel, by decide +kernel, by decide +kernel⟩
theorem isWk_X : isWk shX iX := by
  unfold isWk
  refine ⟨by decide +kernel, isLg_38, by decide +kernel, by decide +kernel, by decide +kernel, by decide +kernel, by decide +kernel, by decide +kernel, by decide +kernel, by decide +kernel, by decide +kernel, by decide +kernel, by decide +kernel, fun k h1 h2 => (by decide +kernel : ∀ k, k < 13 → 6 ≤ k → iX.2.2 37 k = none) k h2 h1, by decide +kernel, by decide +kernel, by decide +kernel⟩
theorem isXx_X : isXx shX iX := by
  unfold isXx
  refine ⟨by decide +kernel, isLg_1, isLg_19, isWk_X, by decide +kernel, by decide +kernel, by decide +kernel, by decide +kernel, by decide +kernel, by decide +kernel, fun k h1 h2 => (by decide +kernel : ∀ k, k < 6 → 1 ≤ k → iX.2.2 61 k = none) k h2 h1, fun i hi => ?_, by decide +kernel, by decide +kernel, by decide +kernel, by decide +kernel, by decide +kernel, by decide +kernel, by decide +kernel, by decide +kernel, by decide +kernel⟩
  obtain ⟨a1, a2, a3, a4, a5, a6⟩ := (by decide +kernel : ∀ i, i < 4 → (shX (65 + 2 * i)).1 = 2 ∧ shX (65 + 2 * i + 1) = (8, 40) ∧ iX.2.2 (65 + 2 * i) 0 = some (65 + 2 * i + 1) ∧ (∀ k, k < 3 → iX.1 (65 + 2 * i) k = 0) ∧ (∀ k, k < 3 → 1 ≤ k → iX.2.2 (65 + 2 * i) k = none) ∧ iX.2.2 63 i = some (65 + 2 * i)) i hi
  exact ⟨a1, a2, a3, a4, fun k h1 h2 => a5 k h2 h1, a6⟩
theorem rowsM_ok : ∀ q ∈ rowsM, iY.2.2 0 q.1 = some q.2 := by decide +kernel
theorem isMd_M : isMd shM iY := by
  unfold isMd
  refine ⟨by decide +kernel, fun _ _ _ => rfl, fun k j h => rowsM_ok (k, j) h, ?_⟩
  decide +kernel
theorem mkX : ∀ o, o < 73 → ∀ k, k < wid (shX o) → (mkP iX PXf).1 o k = iX.1 o k ∧ (mkP iX PXf).2.1 o k = iX.2.1 o k ∧ (mkP iX PXf).2.2 o k = iX.2.2 o k := by decide +kernel
theorem mkM : ∀ o, o < 18 → ∀ k, k < wid (shM o) → (mkP iY (pZ PYs 10)).1 o k = iY.1 o k ∧ (mkP iY (pZ PYs 10)).2.1 o k = iY.2.1 o k ∧ (mkP iY (pZ PYs 10)).2.2 o k = iY.2.2 o k := by decide +kernel

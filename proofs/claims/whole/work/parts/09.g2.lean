/-! ===== a world that grows, and a world told in another order ===== -/
theorem va_P_iff {D : va_G} {cl : List vw_C} {ws : va_W} {H : Heap} : va_P D cl ws H ↔ ∀ x, x ∈ ws → va_at D cl x H := by
  unfold va_P
  refine ⟨fun h x hx => ?_, fun h k q hq => h q (List.mem_of_getElem? hq)⟩
  obtain ⟨k, hk⟩ := List.mem_iff_getElem?.mp hx
  exact h k x hk
section GG
variable {cy : Nat → ClassId} {sh sh' : Nat → Nat × Nat} {ad ad' : Nat → Nat} {n n' : Nat} {M M' : Mm} {D : va_G} {A : Nat → Prop} {H : Heap}
theorem cW_mem {x : Nat × va_E} : x ∈ cW cy sh ad n M ↔ ∃ o, o < n ∧ x = (ad o, cE cy sh ad M o) := by
  unfold cW
  rw [List.mem_map]
  exact ⟨fun ⟨o, h1, h2⟩ => ⟨o, List.mem_range.mp h1, h2.symm⟩, fun ⟨o, h1, h2⟩ => ⟨o, List.mem_range.mpr h1, h2.symm⟩⟩
theorem wP_iff : va_P D vwCl (cW cy sh ad n M) H ↔ ∀ o, o < n → va_at D vwCl (ad o, cE cy sh ad M o) H := by
  rw [va_P_iff]
  exact ⟨fun h o ho => h _ (cW_mem.mpr ⟨o, ho, rfl⟩), fun h x hx => by
    obtain ⟨o, ho, rfl⟩ := cW_mem.mp hx
    exact h o ho⟩
theorem wD_iff : va_D A (cW cy sh ad n M) ↔ (∀ o q, o < n → q < n → ad o = ad q → o = q) ∧ ∀ o, o < n → A (ad o) := by
  unfold va_D
  refine ⟨fun h => ⟨fun o q ho hq e => h.1 o q _ _ (cW_at ho) (cW_at hq) e, fun o ho => h.2 o _ (cW_at ho)⟩, fun h => ⟨fun i j p q hi hj e => ?_, fun k q hk => ?_⟩⟩
  · obtain ⟨hi1, hi2⟩ := List.getElem?_eq_some_iff.mp hi
    obtain ⟨hj1, hj2⟩ := List.getElem?_eq_some_iff.mp hj
    have li : i < n := by simpa [cW] using hi1
    have lj : j < n := by simpa [cW] using hj1
    rw [cW_at li] at hi
    rw [cW_at lj] at hj
    cases hi
    cases hj
    exact h.1 i j li lj e
  · obtain ⟨hk1, hk2⟩ := List.getElem?_eq_some_iff.mp hk
    have lk : k < n := by simpa [cW] using hk1
    rw [cW_at lk] at hk
    cases hk
    exact h.2 k lk
theorem cW_succ : cW cy sh ad (n + 1) M = cW cy sh ad n M ++ [(ad n, cE cy sh ad M n)] := by
  unfold cW
  rw [List.range_succ, List.map_append]
  rfl
/-- a cell told of alike objects -/
theorem flds_cong {o o' : Nat} (h1 : M'.1 o' = M.1 o) (h2 : M'.2.1 o' = M.2.1 o) (h3 : ∀ k, (M'.2.2 o' k).map ad' = (M.2.2 o k).map ad) (ts : List Nat) : flds ad' M' o' ts = flds ad M o ts := by
  unfold flds
  congr 1
  funext q
  unfold fV
  rw [h1, h2, h3]
theorem cE_alike {o o' : Nat} (hs : sh' o' = sh o) (h1 : M'.1 o' = M.1 o) (h2 : M'.2.1 o' = M.2.1 o) (h3 : ∀ k, (M'.2.2 o' k).map ad' = (M.2.2 o k).map ad) : cE cy sh' ad' M' o' = cE cy sh ad M o := by
  unfold cE
  rw [hs, h1, h2, flds_cong h1 h2 h3]
  have e : (fun j => (M'.2.2 o' j).map ad') = fun j => (M.2.2 o j).map ad := funext h3
  rw [e]
/-- the same world, its objects numbered otherwise -/
theorem cW_renum (w : Nat → Nat) (hw : ∀ o, o < n' → w o < n) (hi : ∀ o q, o < n' → q < n' → w o = w q → o = q) (ha : ∀ o, o < n' → ad' o = ad (w o)) (hs : ∀ o, o < n' → sh' o = sh (w o)) (h1 : ∀ o, o < n' → M'.1 o = M.1 (w o)) (h2 : ∀ o, o < n' → M'.2.1 o = M.2.1 (w o)) (h3 : ∀ o, o < n' → ∀ k, (M'.2.2 o k).map ad' = (M.2.2 (w o) k).map ad) : (va_P D vwCl (cW cy sh ad n M) H → va_P D vwCl (cW cy sh' ad' n' M') H) ∧ (va_D A (cW cy sh ad n M) → va_D A (cW cy sh' ad' n' M')) := by
  refine ⟨fun h => wP_iff.mpr (fun o ho => ?_), fun h => wD_iff.mpr ⟨fun o q ho hq e => ?_, fun o ho => ?_⟩⟩
  · rw [ha o ho, cE_alike (hs o ho) (h1 o ho) (h2 o ho) (h3 o ho)]
    exact wP_iff.mp h _ (hw o ho)
  · rw [ha o ho, ha q hq] at e
    exact hi o q ho hq ((wD_iff.mp h).1 _ _ (hw o ho) (hw q hq) e)
  · rw [ha o ho]
    exact (wD_iff.mp h).2 _ (hw o ho)
end GG

/-! ===== the memory of a world: ints, longs and references, by the number of the object and the place in it ===== -/
abbrev Mm : Type := (Nat → Nat → Int32) × (Nat → Nat → Int64) × (Nat → Nat → Option Nat)
def sI (M : Mm) (o k : Nat) (v : Int32) : Mm := (fun a b => if a = o ∧ b = k then v else M.1 a b, M.2)
def sL (M : Mm) (o k : Nat) (v : Int64) : Mm := (M.1, fun a b => if a = o ∧ b = k then v else M.2.1 a b, M.2.2)
def sR (M : Mm) (o k : Nat) (v : Option Nat) : Mm := (M.1, M.2.1, fun a b => if a = o ∧ b = k then v else M.2.2 a b)
/-- the kinds of the fields of a class: 0 an int (or boolean), 1 a long, 2 a reference -/
def fT (c : Nat) : List Nat := match c with
  | 0 => [0, 0, 0, 0, 0, 0, 0, 0, 0]
  | 1 => [2, 2, 2, 0, 0, 0, 0, 0, 0, 0, 0]
  | 2 => [2, 0, 0]
  | 3 => [0, 0, 0, 0, 0, 0]
  | 4 => [2, 0, 0, 0, 0, 0]
  | 5 => [2, 2, 2, 2, 2, 2, 1, 0, 0, 0, 0, 1, 0]
  | 6 => [2, 2, 0, 2, 2, 2, 2, 2]
  | _ => [2, 2, 2, 0, 2, 0, 0, 0, 2, 0, 0, 0, 0, 0, 0, 0, 2, 2, 2, 2, 2, 0, 2, 0, 2, 2, 2, 2, 2, 2]
def fV (ad : Nat → Nat) (M : Mm) (o t k : Nat) : Value := if t = 0 then .int (M.1 o k) else if t = 1 then .long (M.2.1 o k) else va_rf ((M.2.2 o k).map ad)
def flds (ad : Nat → Nat) (M : Mm) (o : Nat) (ts : List Nat) : List Value := ts.zipIdx.map (fun q => fV ad M o q.1 q.2)
def cE (cy : Nat → ClassId) (sh : Nat → Nat × Nat) (ad : Nat → Nat) (M : Mm) (o : Nat) : va_E :=
  if (sh o).1 < 8 then .inr ((sh o).1, flds ad M o (fT (sh o).1))
  else if (sh o).1 = 8 then .inl (cy 0, ((sh o).2, .inl (M.1 o)))
  else if (sh o).1 = 9 then .inl (cy 1, ((sh o).2, .inr (.inl (M.2.1 o))))
  else .inl (cy ((sh o).1 - 8), ((sh o).2, .inr (.inr (.inr (.inr (fun j => (M.2.2 o j).map ad))))))
def cW (cy : Nat → ClassId) (sh : Nat → Nat × Nat) (ad : Nat → Nat) (n : Nat) (M : Mm) : va_W := (List.range n).map (fun o => (ad o, cE cy sh ad M o))
def tyW (cy : Nat → ClassId) : List (ClassId × FieldType) := [(cy 0, .int), (cy 1, .long), (cy 2, .object RX3), (cy 3, .object RX0), (cy 4, .object RX2)]
def Wd (D : va_G) (cy : Nat → ClassId) (sh : Nat → Nat × Nat) (ad : Nat → Nat) (n : Nat) (A : Nat → Prop) (H0 : Heap) (M : Mm) (H : Heap) (locs : List Loc) : Prop := va_P D vwCl (cW cy sh ad n M) H ∧ va_D A (cW cy sh ad n M) ∧ va_S A H0 H locs
abbrev ok (n : Nat) (sh : Nat → Nat × Nat) (o c : Nat) : Prop := o < n ∧ (sh o).1 = c
abbrev vin (i : Int32) (n : Nat) : Prop := ¬ (i < 0 ∨ n ≤ i.toNatClampNeg)
abbrev okA (n : Nat) (sh : Nat → Nat × Nat) (a c : Nat) (i : Int32) : Prop := ok n sh a c ∧ vin i (sh a).2
abbrev bz (v : Int32) : Prop := v = 0 ∨ v = 1
def gd {α : Type} (c : Prop) [Decidable c] (k : Option α) : Option α := if c then k else none
theorem gd_some {α : Type} {c : Prop} [Decidable c] {k : Option α} {r : α} (h : gd c k = some r) : c ∧ k = some r := by
  unfold gd at h
  by_cases hc : c
  · rw [if_pos hc] at h
    exact ⟨hc, h⟩
  · rw [if_neg hc] at h
    cases h
theorem bd_some {α β : Type} {x : Option α} {f : α → Option β} {r : β} (h : x.bind f = some r) : ∃ a, x = some a ∧ f a = some r := by
  cases x with
  | none => cases h
  | some a => exact ⟨a, rfl, h⟩
theorem if_some_t {α : Type} {c : Prop} [Decidable c] {a b r : α} (hc : c) (h : (if c then a else b) = r) : a = r := by
  rw [if_pos hc] at h
  exact h
theorem if_some_f {α : Type} {c : Prop} [Decidable c] {a b r : α} (hc : ¬ c) (h : (if c then a else b) = r) : b = r := by
  rw [if_neg hc] at h
  exact h
theorem cW_at {cy : Nat → ClassId} {sh : Nat → Nat × Nat} {ad : Nat → Nat} {n : Nat} {M : Mm} {o : Nat} (h : o < n) : (cW cy sh ad n M)[o]? = some (ad o, cE cy sh ad M o) := by
  simp [cW, h]
theorem cE_obj {cy : Nat → ClassId} {sh : Nat → Nat × Nat} {ad : Nat → Nat} {M : Mm} {o ci : Nat} (h : (sh o).1 = ci) (h8 : ci < 8) : cE cy sh ad M o = .inr (ci, flds ad M o (fT ci)) := by
  subst h
  simp [cE, h8]
theorem cE_int {cy : Nat → ClassId} {sh : Nat → Nat × Nat} {ad : Nat → Nat} {M : Mm} {o : Nat} (h : (sh o).1 = 8) : cE cy sh ad M o = .inl (cy 0, ((sh o).2, .inl (M.1 o))) := by
  simp [cE, h]
theorem cE_long {cy : Nat → ClassId} {sh : Nat → Nat × Nat} {ad : Nat → Nat} {M : Mm} {o : Nat} (h : (sh o).1 = 9) : cE cy sh ad M o = .inl (cy 1, ((sh o).2, .inr (.inl (M.2.1 o)))) := by
  simp [cE, h]
theorem cE_ref {cy : Nat → ClassId} {sh : Nat → Nat × Nat} {ad : Nat → Nat} {M : Mm} {o c : Nat} (h : (sh o).1 = c + 8) (hc : 2 ≤ c) : cE cy sh ad M o = .inl (cy c, ((sh o).2, .inr (.inr (.inr (.inr (fun j => (M.2.2 o j).map ad)))))) := by
  have h1 : ¬ (c + 8 < 8) := by omega
  have h2 : ¬ (c + 8 = 8) := by omega
  have h3 : ¬ (c + 8 = 9) := by omega
  simp only [cE, h, h1, h2, h3, if_false, Nat.add_sub_cancel]
theorem cW_set {cy : Nat → ClassId} {sh : Nat → Nat × Nat} {ad : Nat → Nat} {n : Nat} {M M' : Mm} {o : Nat} {x : va_E} (ho : o < n) (h1 : cE cy sh ad M' o = x) (h2 : ∀ q, q ≠ o → cE cy sh ad M' q = cE cy sh ad M q) : (cW cy sh ad n M).set o (ad o, x) = cW cy sh ad n M' := by
  apply List.ext_getElem?
  intro j
  by_cases hj : j = o
  · subst hj
    rw [List.getElem?_set_self (by simp [cW, ho]), cW_at ho, h1]
  · rw [List.getElem?_set_ne (Ne.symm hj)]
    by_cases hn : j < n
    · rw [cW_at hn, cW_at hn, h2 j hj]
    · rw [List.getElem?_eq_none (by simp [cW]; omega), List.getElem?_eq_none (by simp [cW]; omega)]
theorem flds_at {ad : Nat → Nat} {M : Mm} {o k t : Nat} {ts : List Nat} (h : ts[k]? = some t) : (flds ad M o ts)[k]? = some (fV ad M o t k) := by
  simp [flds, h]
theorem flds_len {ad : Nat → Nat} {M : Mm} {o : Nat} {ts : List Nat} : (flds ad M o ts).length = ts.length := by
  simp [flds]
theorem flds_set {ad : Nat → Nat} {M M' : Mm} {o k t : Nat} {ts : List Nat} {v : Value} (h : ts[k]? = some t) (h1 : fV ad M' o t k = v) (h2 : ∀ t j, j ≠ k → fV ad M' o t j = fV ad M o t j) : flds ad M' o ts = (flds ad M o ts).set k v := by
  apply List.ext_getElem?
  intro j
  by_cases hj : j = k
  · subst hj
    have hl : j < ts.length := (List.getElem?_eq_some_iff.mp h).1
    rw [List.getElem?_set_self (by rw [flds_len]; exact hl), flds_at h, h1]
  · rw [List.getElem?_set_ne (Ne.symm hj)]
    cases hq : ts[j]? with
    | none =>
      have hl : ts.length ≤ j := List.getElem?_eq_none_iff.mp hq
      rw [List.getElem?_eq_none (by rw [flds_len]; exact hl), List.getElem?_eq_none (by rw [flds_len]; exact hl)]
    | some t2 => rw [flds_at hq, flds_at hq, h2 t2 j hj]
theorem sI_same {M : Mm} {o k : Nat} {v : Int32} : (sI M o k v).1 o k = v := by simp [sI]
theorem sI_place {M : Mm} {o k : Nat} {v : Int32} {j : Nat} (h : j ≠ k) : (sI M o k v).1 o j = M.1 o j := by simp [sI, h]
theorem sI_obj {M : Mm} {o k : Nat} {v : Int32} {q : Nat} (h : q ≠ o) : (sI M o k v).1 q = M.1 q := by
  funext j
  simp [sI, h]
theorem sL_same {M : Mm} {o k : Nat} {v : Int64} : (sL M o k v).2.1 o k = v := by simp [sL]
theorem sL_place {M : Mm} {o k : Nat} {v : Int64} {j : Nat} (h : j ≠ k) : (sL M o k v).2.1 o j = M.2.1 o j := by simp [sL, h]
theorem sL_obj {M : Mm} {o k : Nat} {v : Int64} {q : Nat} (h : q ≠ o) : (sL M o k v).2.1 q = M.2.1 q := by
  funext j
  simp [sL, h]
theorem sR_same {M : Mm} {o k : Nat} {v : Option Nat} : (sR M o k v).2.2 o k = v := by simp [sR]
theorem sR_place {M : Mm} {o k : Nat} {v : Option Nat} {j : Nat} (h : j ≠ k) : (sR M o k v).2.2 o j = M.2.2 o j := by simp [sR, h]
theorem sR_obj {M : Mm} {o k : Nat} {v : Option Nat} {q : Nat} (h : q ≠ o) : (sR M o k v).2.2 q = M.2.2 q := by
  funext j
  simp [sR, h]
theorem fV_cong {ad : Nat → Nat} {M M' : Mm} {o t k : Nat} (h1 : M'.1 o k = M.1 o k) (h2 : M'.2.1 o k = M.2.1 o k) (h3 : M'.2.2 o k = M.2.2 o k) : fV ad M' o t k = fV ad M o t k := by
  simp only [fV, h1, h2, h3]
theorem cE_cong {cy : Nat → ClassId} {sh : Nat → Nat × Nat} {ad : Nat → Nat} {M M' : Mm} {q : Nat} (h1 : M'.1 q = M.1 q) (h2 : M'.2.1 q = M.2.1 q) (h3 : M'.2.2 q = M.2.2 q) : cE cy sh ad M' q = cE cy sh ad M q := by
  have hf : ∀ ts, flds ad M' q ts = flds ad M q ts := fun ts => by
    unfold flds
    congr 1
    funext z
    exact fV_cong (by rw [h1]) (by rw [h2]) (by rw [h3])
  simp only [cE, hf, h1, h2, h3]
theorem cW_putI {cy : Nat → ClassId} {sh : Nat → Nat × Nat} {ad : Nat → Nat} {n : Nat} {M : Mm} {o ci k : Nat} {v : Int32} (ho : ok n sh o ci) (h8 : ci < 8) (ht : (fT ci)[k]? = some 0) : (cW cy sh ad n M).set o (ad o, .inr (ci, (flds ad M o (fT ci)).set k (.int v))) = cW cy sh ad n (sI M o k v) := by
  refine cW_set ho.1 ?_ (fun q hq => cE_cong (sI_obj hq) rfl rfl)
  rw [cE_obj ho.2 h8, flds_set (M := M) (M' := sI M o k v) (v := .int v) ht (by simp [fV, sI_same]) (fun t j hj => fV_cong (sI_place hj) rfl rfl)]
theorem cW_putL {cy : Nat → ClassId} {sh : Nat → Nat × Nat} {ad : Nat → Nat} {n : Nat} {M : Mm} {o ci k : Nat} {v : Int64} (ho : ok n sh o ci) (h8 : ci < 8) (ht : (fT ci)[k]? = some 1) : (cW cy sh ad n M).set o (ad o, .inr (ci, (flds ad M o (fT ci)).set k (.long v))) = cW cy sh ad n (sL M o k v) := by
  refine cW_set ho.1 ?_ (fun q hq => cE_cong rfl (sL_obj hq) rfl)
  rw [cE_obj ho.2 h8, flds_set (M := M) (M' := sL M o k v) (v := .long v) ht (by simp [fV, sL_same]) (fun t j hj => fV_cong rfl (sL_place hj) rfl)]
theorem cW_putR {cy : Nat → ClassId} {sh : Nat → Nat × Nat} {ad : Nat → Nat} {n : Nat} {M : Mm} {o ci k q : Nat} (ho : ok n sh o ci) (h8 : ci < 8) (ht : (fT ci)[k]? = some 2) : (cW cy sh ad n M).set o (ad o, .inr (ci, (flds ad M o (fT ci)).set k (.ref (ad q)))) = cW cy sh ad n (sR M o k (some q)) := by
  refine cW_set ho.1 ?_ (fun q hq => cE_cong rfl rfl (sR_obj hq))
  rw [cE_obj ho.2 h8, flds_set (M := M) (M' := sR M o k (some q)) (v := .ref (ad q)) ht (by simp [fV, sR_same, va_rf]) (fun t j hj => fV_cong rfl rfl (sR_place hj))]
theorem cW_stI {cy : Nat → ClassId} {sh : Nat → Nat × Nat} {ad : Nat → Nat} {n : Nat} {M : Mm} {o k : Nat} {v : Int32} (ho : ok n sh o 8) : (cW cy sh ad n M).set o (ad o, .inl (cy 0, (sh o).2, .inl (upd (M.1 o) k v))) = cW cy sh ad n (sI M o k v) := by
  refine cW_set ho.1 ?_ (fun q hq => cE_cong (sI_obj hq) rfl rfl)
  rw [cE_int ho.2]
  have : (sI M o k v).1 o = upd (M.1 o) k v := by
    funext j
    by_cases hj : j = k
    · subst hj
      rw [sI_same, pk_us]
    · rw [sI_place hj, pk_un hj]
  rw [this]
theorem cW_stL {cy : Nat → ClassId} {sh : Nat → Nat × Nat} {ad : Nat → Nat} {n : Nat} {M : Mm} {o k : Nat} {v : Int64} (ho : ok n sh o 9) : (cW cy sh ad n M).set o (ad o, .inl (cy 1, (sh o).2, .inr (.inl (vp_updL (M.2.1 o) k v)))) = cW cy sh ad n (sL M o k v) := by
  refine cW_set ho.1 ?_ (fun q hq => cE_cong rfl (sL_obj hq) rfl)
  rw [cE_long ho.2]
  have : (sL M o k v).2.1 o = vp_updL (M.2.1 o) k v := by
    funext j
    by_cases hj : j = k
    · subst hj
      rw [sL_same, pk_uLs]
    · rw [sL_place hj, pk_uLn hj]
  rw [this]
theorem cW_stR {cy : Nat → ClassId} {sh : Nat → Nat × Nat} {ad : Nat → Nat} {n : Nat} {M : Mm} {o k c q : Nat} (ho : ok n sh o (c + 8)) (hc : 2 ≤ c) : (cW cy sh ad n M).set o (ad o, .inl (cy c, (sh o).2, .inr (.inr (.inr (.inr (va_up (fun j => (M.2.2 o j).map ad) k (some (ad q)))))))) = cW cy sh ad n (sR M o k (some q)) := by
  refine cW_set ho.1 ?_ (fun q hq => cE_cong rfl rfl (sR_obj hq))
  rw [cE_ref ho.2 hc]
  have : (fun j => ((sR M o k (some q)).2.2 o j).map ad) = va_up (fun j => (M.2.2 o j).map ad) k (some (ad q)) := by
    funext j
    by_cases hj : j = k
    · subst hj
      simp [sR_same, va_up]
    · simp [sR_place hj, va_up, hj]
  rw [this]
section RR
variable {p : Program} {l : Launch} {e : Env} {R : Room} {s : State} {m : MethodId} {args : Array Value} {below : List Frame} {meth : Method} {c : Code} {H : Heap} {locs : List Loc} {cells slots : Nat} {Q : State → Prop}
variable {cc : ByteArray} {pc : Nat} {ls : Array Slot} {rest : List Value} {D : va_G} {A : Nat → Prop} {tys : List (ClassId × FieldType)} {H0 : Heap}
variable {cy : Nat → ClassId} {sh : Nat → Nat × Nat} {ad : Nat → Nat} {n : Nat} {M : Mm}
theorem r_getI (hexec : p.tables.exec = Jvm.exec) (hb : c.code = cc) {own ref C : String} {T : u_T} {N ci index : Nat} {Ts : List Cond} (hts : ∀ w ∈ Ts, w.before args s = true) (hin : ∀ w ∈ u_ws C T N, w ∈ Ts) (hown : s.vm.findClass own = some m.cls) (hK : va_K D vwCl tys s) (hw : Wd D cy sh ad n A H0 M H locs) (o k : Nat) (ho : ok n sh o ci) (h8 : ci < 8) (hc : vwCl[ci]? = some (C, T, N)) (hk : k < N) (ht : (fT ci)[k]? = some 0) (hlink : (Cond.fieldLink own index ref (T k).2.1 (T k).2.2.1).before args s = true) (hsame : ∀ x, s.fieldFound? (T k).1 (T k).2.1 (T k).2.2.1 = some x → s.fieldFound? ref (T k).2.1 (T k).2.2.1 = some x) (hdg : decode cc pc = .ok (.getfield index, 3))
    (kk : W p l e R s m args below meth c H locs cells slots Q (F0 m (pc + 3) ls (.int (M.1 o k) :: rest))) : W p l e R s m args below meth c H locs cells slots Q (F0 m pc ls (.ref (ad o) :: rest)) :=
  va_get hexec hb hts hin hown hK hw.1 o (by rw [cW_at ho.1, cE_obj ho.2 h8]) hc k hk hlink hsame (flds_at ht) hdg kk
theorem r_getL (hexec : p.tables.exec = Jvm.exec) (hb : c.code = cc) {own ref C : String} {T : u_T} {N ci index : Nat} {Ts : List Cond} (hts : ∀ w ∈ Ts, w.before args s = true) (hin : ∀ w ∈ u_ws C T N, w ∈ Ts) (hown : s.vm.findClass own = some m.cls) (hK : va_K D vwCl tys s) (hw : Wd D cy sh ad n A H0 M H locs) (o k : Nat) (ho : ok n sh o ci) (h8 : ci < 8) (hc : vwCl[ci]? = some (C, T, N)) (hk : k < N) (ht : (fT ci)[k]? = some 1) (hlink : (Cond.fieldLink own index ref (T k).2.1 (T k).2.2.1).before args s = true) (hsame : ∀ x, s.fieldFound? (T k).1 (T k).2.1 (T k).2.2.1 = some x → s.fieldFound? ref (T k).2.1 (T k).2.2.1 = some x) (hdg : decode cc pc = .ok (.getfield index, 3))
    (kk : W p l e R s m args below meth c H locs cells slots Q (F0 m (pc + 3) ls (.long (M.2.1 o k) :: rest))) : W p l e R s m args below meth c H locs cells slots Q (F0 m pc ls (.ref (ad o) :: rest)) :=
  va_get hexec hb hts hin hown hK hw.1 o (by rw [cW_at ho.1, cE_obj ho.2 h8]) hc k hk hlink hsame (flds_at ht) hdg kk
theorem r_getR (hexec : p.tables.exec = Jvm.exec) (hb : c.code = cc) {own ref C : String} {T : u_T} {N ci index : Nat} {Ts : List Cond} (hts : ∀ w ∈ Ts, w.before args s = true) (hin : ∀ w ∈ u_ws C T N, w ∈ Ts) (hown : s.vm.findClass own = some m.cls) (hK : va_K D vwCl tys s) (hw : Wd D cy sh ad n A H0 M H locs) (o k : Nat) (ho : ok n sh o ci) (h8 : ci < 8) (hc : vwCl[ci]? = some (C, T, N)) (hk : k < N) (ht : (fT ci)[k]? = some 2) (hlink : (Cond.fieldLink own index ref (T k).2.1 (T k).2.2.1).before args s = true) (hsame : ∀ x, s.fieldFound? (T k).1 (T k).2.1 (T k).2.2.1 = some x → s.fieldFound? ref (T k).2.1 (T k).2.2.1 = some x) (hdg : decode cc pc = .ok (.getfield index, 3)) {q : Nat} (hq : M.2.2 o k = some q)
    (kk : W p l e R s m args below meth c H locs cells slots Q (F0 m (pc + 3) ls (.ref (ad q) :: rest))) : W p l e R s m args below meth c H locs cells slots Q (F0 m pc ls (.ref (ad o) :: rest)) :=
  va_get hexec hb hts hin hown hK hw.1 o (by rw [cW_at ho.1, cE_obj ho.2 h8]) hc k hk hlink hsame (by rw [flds_at ht]; simp [fV, hq, va_rf]) hdg kk
theorem r_putI (hexec : p.tables.exec = Jvm.exec) (hb : c.code = cc) {own ref C : String} {T : u_T} {N ci index : Nat} {Ts : List Cond} (hts : ∀ w ∈ Ts, w.before args s = true) (hin : ∀ w ∈ u_ws C T N, w ∈ Ts) (ty0 : Nat → FieldType) (hty : ∀ k, k < N → parseFieldDescriptor (T k).2.2.1 = some (ty0 k)) (hnm : ∀ a, a < N → ∀ b, b < N → a ≠ b → (T a).2.1 ≠ (T b).2.1) (hown : s.vm.findClass own = some m.cls) (hK : va_K D vwCl tys s) (hw : Wd D cy sh ad n A H0 M H locs) (o k : Nat) (ho : ok n sh o ci) (h8 : ci < 8) (hc : vwCl[ci]? = some (C, T, N)) (hk : k < N) (ht : (fT ci)[k]? = some 0) (hlink : (Cond.fieldLink own index ref (T k).2.1 (T k).2.2.1).before args s = true) (hsame : ∀ x, s.fieldFound? (T k).1 (T k).2.1 (T k).2.2.1 = some x → s.fieldFound? ref (T k).2.1 (T k).2.2.1 = some x) (hfin : (T k).2.2.2 = false) {v : Int32} (hn : narrow (ty0 k) (.int v) = .int v) (hfit : fits (ty0 k) (.int v) = true) (hdg : decode cc pc = .ok (.putfield index, 3))
    (kk : ∀ (H1 : Heap) (locs1 : List Loc), Wd D cy sh ad n A H0 (sI M o k v) H1 locs1 → W p l e R s m args below meth c H1 locs1 cells slots Q (F0 m (pc + 3) ls rest)) : W p l e R s m args below meth c H locs cells slots Q (F0 m pc ls (.int v :: .ref (ad o) :: rest)) :=
  va_put hexec hb hts hin ty0 hty hnm hown hK hw.1 hw.2.1 hw.2.2 o (by rw [cW_at ho.1, cE_obj ho.2 h8]) hc k hk hlink hsame hfin (hty k hk) hn hfit (by rw [flds_len]; exact (List.getElem?_eq_some_iff.mp ht).1) hdg (fun H1 locs1 h1 h2 h3 => kk H1 locs1 (by rw [cW_putI ho h8 ht] at h1 h2; exact ⟨h1, h2, h3⟩))
theorem r_putL (hexec : p.tables.exec = Jvm.exec) (hb : c.code = cc) {own ref C : String} {T : u_T} {N ci index : Nat} {Ts : List Cond} (hts : ∀ w ∈ Ts, w.before args s = true) (hin : ∀ w ∈ u_ws C T N, w ∈ Ts) (ty0 : Nat → FieldType) (hty : ∀ k, k < N → parseFieldDescriptor (T k).2.2.1 = some (ty0 k)) (hnm : ∀ a, a < N → ∀ b, b < N → a ≠ b → (T a).2.1 ≠ (T b).2.1) (hown : s.vm.findClass own = some m.cls) (hK : va_K D vwCl tys s) (hw : Wd D cy sh ad n A H0 M H locs) (o k : Nat) (ho : ok n sh o ci) (h8 : ci < 8) (hc : vwCl[ci]? = some (C, T, N)) (hk : k < N) (ht : (fT ci)[k]? = some 1) (hlink : (Cond.fieldLink own index ref (T k).2.1 (T k).2.2.1).before args s = true) (hsame : ∀ x, s.fieldFound? (T k).1 (T k).2.1 (T k).2.2.1 = some x → s.fieldFound? ref (T k).2.1 (T k).2.2.1 = some x) (hfin : (T k).2.2.2 = false) {v : Int64} (hn : narrow (ty0 k) (.long v) = .long v) (hfit : fits (ty0 k) (.long v) = true) (hdg : decode cc pc = .ok (.putfield index, 3))
    (kk : ∀ (H1 : Heap) (locs1 : List Loc), Wd D cy sh ad n A H0 (sL M o k v) H1 locs1 → W p l e R s m args below meth c H1 locs1 cells slots Q (F0 m (pc + 3) ls rest)) : W p l e R s m args below meth c H locs cells slots Q (F0 m pc ls (.long v :: .ref (ad o) :: rest)) :=
  va_put hexec hb hts hin ty0 hty hnm hown hK hw.1 hw.2.1 hw.2.2 o (by rw [cW_at ho.1, cE_obj ho.2 h8]) hc k hk hlink hsame hfin (hty k hk) hn hfit (by rw [flds_len]; exact (List.getElem?_eq_some_iff.mp ht).1) hdg (fun H1 locs1 h1 h2 h3 => kk H1 locs1 (by rw [cW_putL ho h8 ht] at h1 h2; exact ⟨h1, h2, h3⟩))
theorem r_iald (hexec : p.tables.exec = Jvm.exec) (hb : c.code = cc) (hK : va_K D vwCl (tyW cy) s) (hw : Wd D cy sh ad n A H0 M H locs) (a : Nat) {i : Int32} (ho : okA n sh a 8 i) (hdg : decode cc pc = .ok (.iaload, 1))
    (kk : W p l e R s m args below meth c H locs cells slots Q (F0 m (pc + 1) ls (.int (M.1 a i.toNatClampNeg) :: rest))) : W p l e R s m args below meth c H locs cells slots Q (F0 m pc ls (.int i :: .ref (ad a) :: rest)) :=
  va_iald hexec hb hK hw.1 a 0 (by rw [cW_at ho.1.1, cE_int ho.1.2]) rfl ho.2 hdg kk
theorem r_lald (hexec : p.tables.exec = Jvm.exec) (hb : c.code = cc) (hK : va_K D vwCl (tyW cy) s) (hw : Wd D cy sh ad n A H0 M H locs) (a : Nat) {i : Int32} (ho : okA n sh a 9 i) (hdg : decode cc pc = .ok (.laload, 1))
    (kk : W p l e R s m args below meth c H locs cells slots Q (F0 m (pc + 1) ls (.long (M.2.1 a i.toNatClampNeg) :: rest))) : W p l e R s m args below meth c H locs cells slots Q (F0 m pc ls (.int i :: .ref (ad a) :: rest)) :=
  va_lald hexec hb hK hw.1 a 1 (by rw [cW_at ho.1.1, cE_long ho.1.2]) rfl ho.2 hdg kk
theorem r_aald (hexec : p.tables.exec = Jvm.exec) (hb : c.code = cc) (hK : va_K D vwCl (tyW cy) s) (hw : Wd D cy sh ad n A H0 M H locs) (a t : Nat) {C : String} {i : Int32} (h2 : 2 ≤ t) (ht : (tyW cy)[t]? = some (cy t, .object C)) (ho : okA n sh a (t + 8) i) (hdg : decode cc pc = .ok (.aaload, 1)) {q : Nat} (hq : M.2.2 a i.toNatClampNeg = some q)
    (kk : W p l e R s m args below meth c H locs cells slots Q (F0 m (pc + 1) ls (.ref (ad q) :: rest))) : W p l e R s m args below meth c H locs cells slots Q (F0 m pc ls (.int i :: .ref (ad a) :: rest)) :=
  va_aldq hexec hb hK hw.1 a t (by rw [cW_at ho.1.1, cE_ref ho.1.2 h2]) ht ho.2 hdg (by simp only [hq]; exact kk)
theorem r_iast (hexec : p.tables.exec = Jvm.exec) (hb : c.code = cc) (hK : va_K D vwCl (tyW cy) s) (hw : Wd D cy sh ad n A H0 M H locs) (a : Nat) {i x : Int32} (ho : okA n sh a 8 i) (hdg : decode cc pc = .ok (.iastore, 1))
    (kk : ∀ (H1 : Heap) (locs1 : List Loc), Wd D cy sh ad n A H0 (sI M a i.toNatClampNeg x) H1 locs1 → W p l e R s m args below meth c H1 locs1 cells slots Q (F0 m (pc + 1) ls rest)) : W p l e R s m args below meth c H locs cells slots Q (F0 m pc ls (.int x :: .int i :: .ref (ad a) :: rest)) :=
  va_iast hexec hb hK hw.1 hw.2.1 hw.2.2 a 0 (by rw [cW_at ho.1.1, cE_int ho.1.2]) rfl ho.2 hdg (fun H1 locs1 h1 h2 h3 => kk H1 locs1 (by rw [cW_stI ho.1] at h1 h2; exact ⟨h1, h2, h3⟩))
theorem r_last (hexec : p.tables.exec = Jvm.exec) (hb : c.code = cc) (hK : va_K D vwCl (tyW cy) s) (hw : Wd D cy sh ad n A H0 M H locs) (a : Nat) {i : Int32} {x : Int64} (ho : okA n sh a 9 i) (hdg : decode cc pc = .ok (.lastore, 1))
    (kk : ∀ (H1 : Heap) (locs1 : List Loc), Wd D cy sh ad n A H0 (sL M a i.toNatClampNeg x) H1 locs1 → W p l e R s m args below meth c H1 locs1 cells slots Q (F0 m (pc + 1) ls rest)) : W p l e R s m args below meth c H locs cells slots Q (F0 m pc ls (.long x :: .int i :: .ref (ad a) :: rest)) :=
  va_last hexec hb hK hw.1 hw.2.1 hw.2.2 a 1 (by rw [cW_at ho.1.1, cE_long ho.1.2]) rfl ho.2 hdg (fun H1 locs1 h1 h2 h3 => kk H1 locs1 (by rw [cW_stL ho.1] at h1 h2; exact ⟨h1, h2, h3⟩))
theorem r_aast (hexec : p.tables.exec = Jvm.exec) (hb : c.code = cc) (hK : va_K D vwCl (tyW cy) s) (hw : Wd D cy sh ad n A H0 M H locs) (a t q ci : Nat) {r : vw_C} {i : Int32} (h2 : 2 ≤ t) (ht : (tyW cy)[t]? = some (cy t, .object r.1)) (ho : okA n sh a (t + 8) i) (hq : ok n sh q ci) (h8 : ci < 8) (hc : vwCl[ci]? = some r) (hdg : decode cc pc = .ok (.aastore, 1))
    (kk : ∀ (H1 : Heap) (locs1 : List Loc), Wd D cy sh ad n A H0 (sR M a i.toNatClampNeg (some q)) H1 locs1 → W p l e R s m args below meth c H1 locs1 cells slots Q (F0 m (pc + 1) ls rest)) : W p l e R s m args below meth c H locs cells slots Q (F0 m pc ls (.ref (ad q) :: .int i :: .ref (ad a) :: rest)) :=
  va_astq hexec hb hK hw.1 hw.2.1 hw.2.2 a t q ci (by rw [cW_at ho.1.1, cE_ref ho.1.2 h2]) ht (by rw [cW_at hq.1, cE_obj hq.2 h8]) hc ho.2 hdg (fun H1 locs1 h1 h2' h3 => kk H1 locs1 (by rw [cW_stR ho.1 h2] at h1 h2'; exact ⟨h1, h2', h3⟩))
end RR

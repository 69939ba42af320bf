/-! ===== worlds that grow: a memory of which some places are made already ===== -/
def mkP (I : Mm) (P : Nat → Nat → Bool) : Mm := (fun o k => if P o k = true then I.1 o k else 0, fun o k => if P o k = true then I.2.1 o k else 0, fun o k => if P o k = true then I.2.2 o k else none)
/-- one place more -/
def pU (P : Nat → Nat → Bool) (o k : Nat) : Nat → Nat → Bool := fun a b => decide (a = o ∧ b = k) || P a b
/-- the first w places of an object more -/
def pW (P : Nat → Nat → Bool) (o w : Nat) : Nat → Nat → Bool := fun a b => decide (a = o ∧ b < w) || P a b
theorem pU_t {P : Nat → Nat → Bool} {o k a b : Nat} : pU P o k a b = true ↔ (a = o ∧ b = k) ∨ P a b = true := by simp [pU]
theorem pW_t {P : Nat → Nat → Bool} {o w a b : Nat} : pW P o w a b = true ↔ (a = o ∧ b < w) ∨ P a b = true := by simp [pW]
theorem mask_ext {P P' : Nat → Nat → Bool} (h : ∀ a b, P a b = true ↔ P' a b = true) : P = P' := by
  funext a b
  exact Bool.eq_iff_iff.mpr (h a b)
def exA (ad : Nat → Nat) (n q : Nat) : Nat → Nat := fun o => if o = n then q else ad o
theorem exA_self {ad : Nat → Nat} {n q : Nat} : exA ad n q n = q := if_pos rfl
theorem exA_lt {ad : Nat → Nat} {n q o : Nat} (h : o < n) : exA ad n q o = ad o := if_neg (Nat.ne_of_lt h)
/-- what is made lies below n, and names nothing from n on -/
def GBo (I : Mm) (P : Nat → Nat → Bool) (n : Nat) : Prop := (∀ o k, n ≤ o → P o k = false) ∧ ∀ o k q, P o k = true → I.2.2 o k = some q → q < n
theorem GBo.up {I : Mm} {P : Nat → Nat → Bool} {n : Nat} (h : GBo I P n) : GBo I P (n + 1) := ⟨fun o k ho => h.1 o k (by omega), fun o k q h1 h2 => Nat.lt_succ_of_lt (h.2 o k q h1 h2)⟩
theorem GBo.put {I : Mm} {P : Nat → Nat → Bool} {n o k : Nat} (h : GBo I P n) (ho : o < n) (hq : ∀ q, I.2.2 o k = some q → q < n) : GBo I (pU P o k) n := by
  refine ⟨fun a b ha => ?_, fun a b q h1 h2 => ?_⟩
  · cases e : pU P o k a b with
    | false => rfl
    | true =>
      rcases pU_t.mp e with z | z
      · omega
      · rw [h.1 a b ha] at z
        cases z
  · rcases pU_t.mp h1 with z | z
    · obtain ⟨rfl, rfl⟩ := z
      exact hq q h2
    · exact h.2 a b q z h2
def dV (t : Nat) : Value := if t = 0 then .int 0 else if t = 1 then .long 0 else .null
theorem mkP_n1 {I : Mm} {P : Nat → Nat → Bool} {n : Nat} (h : GBo I P n) : (mkP I P).1 n = fun _ => 0 := by
  funext k
  simp [mkP, h.1 n k (Nat.le_refl n)]
theorem mkP_n2 {I : Mm} {P : Nat → Nat → Bool} {n : Nat} (h : GBo I P n) : (mkP I P).2.1 n = fun _ => 0 := by
  funext k
  simp [mkP, h.1 n k (Nat.le_refl n)]
theorem mkP_n3 {I : Mm} {P : Nat → Nat → Bool} {n : Nat} (h : GBo I P n) : (mkP I P).2.2 n = fun _ => none := by
  funext k
  simp [mkP, h.1 n k (Nat.le_refl n)]
theorem flds_zero {ad : Nat → Nat} {M : Mm} {o : Nat} (h1 : M.1 o = fun _ => 0) (h2 : M.2.1 o = fun _ => 0) (h3 : M.2.2 o = fun _ => none) (ts : List Nat) : flds ad M o ts = ts.map dV := by
  unfold flds
  apply List.ext_getElem?
  intro j
  rw [List.getElem?_map, List.getElem?_map, List.getElem?_zipIdx]
  cases ts[j]? with
  | none => rfl
  | some t =>
    simp only [Option.map_some, fV, h1, h2, h3, dV]
    rfl
section GW
variable {cy : Nat → ClassId} {sh : Nat → Nat × Nat} {ad : Nat → Nat} {n : Nat} {I : Mm} {P : Nat → Nat → Bool}
theorem cW_ex (h : GBo I P n) (q : Nat) : cW cy sh (exA ad n q) n (mkP I P) = cW cy sh ad n (mkP I P) := by
  unfold cW
  apply List.map_congr_left
  intro o ho
  have ho := List.mem_range.mp ho
  rw [exA_lt ho]
  have e : cE cy sh (exA ad n q) (mkP I P) o = cE cy sh ad (mkP I P) o := by
    refine cE_alike rfl rfl rfl (fun k => ?_)
    cases hk : (mkP I P).2.2 o k with
    | none => rfl
    | some z =>
      have hz : z < n := by
        unfold mkP at hk
        by_cases hp : P o k = true
        · simp only [hp, if_true] at hk
          exact h.2 o k z hp hk
        · simp only [hp] at hk
          cases hk
      simp only [Option.map_some, exA_lt hz]
  rw [e]
theorem cW_new (h : GBo I P n) (q : Nat) : cW cy sh (exA ad n q) (n + 1) (mkP I P) = cW cy sh ad n (mkP I P) ++ [(q, cE cy sh (exA ad n q) (mkP I P) n)] := by
  rw [cW_succ, cW_ex h, exA_self]
theorem mkP_ne {o k q : Nat} (hq : q ≠ o) : (mkP I (pU P o k)).1 q = (mkP I P).1 q ∧ (mkP I (pU P o k)).2.1 q = (mkP I P).2.1 q ∧ (mkP I (pU P o k)).2.2 q = (mkP I P).2.2 q := by
  refine ⟨?_, ?_, ?_⟩ <;> (funext j; simp [mkP, pU, hq])
theorem mkP_nk {o k j : Nat} (hj : j ≠ k) : (mkP I (pU P o k)).1 o j = (mkP I P).1 o j ∧ (mkP I (pU P o k)).2.1 o j = (mkP I P).2.1 o j ∧ (mkP I (pU P o k)).2.2 o j = (mkP I P).2.2 o j := by
  refine ⟨?_, ?_, ?_⟩ <;> simp [mkP, pU, hj]
theorem mkP_at {o k : Nat} : (mkP I (pU P o k)).1 o k = I.1 o k ∧ (mkP I (pU P o k)).2.1 o k = I.2.1 o k ∧ (mkP I (pU P o k)).2.2 o k = I.2.2 o k := by
  refine ⟨?_, ?_, ?_⟩ <;> simp [mkP, pU]
theorem mkP_set {o k : Nat} {x : va_E} (ho : o < n) (h1 : cE cy sh ad (mkP I (pU P o k)) o = x) : (cW cy sh ad n (mkP I P)).set o (ad o, x) = cW cy sh ad n (mkP I (pU P o k)) :=
  cW_set ho h1 (fun q hq => cE_cong (mkP_ne hq).1 (mkP_ne hq).2.1 (mkP_ne hq).2.2)
theorem cW_mput {o ci k t : Nat} {v : Value} (ho : ok n sh o ci) (h8 : ci < 8) (ht : (fT ci)[k]? = some t) (hv : fV ad I o t k = v) : (cW cy sh ad n (mkP I P)).set o (ad o, .inr (ci, (flds ad (mkP I P) o (fT ci)).set k v)) = cW cy sh ad n (mkP I (pU P o k)) := by
  refine mkP_set ho.1 ?_
  rw [cE_obj ho.2 h8, flds_set (M := mkP I P) (M' := mkP I (pU P o k)) (v := v) ht ((fV_cong mkP_at.1 mkP_at.2.1 mkP_at.2.2).trans hv) (fun t j hj => fV_cong (mkP_nk hj).1 (mkP_nk hj).2.1 (mkP_nk hj).2.2)]
theorem cW_mstI {o k : Nat} {v : Int32} (ho : ok n sh o 8) (hv : I.1 o k = v) : (cW cy sh ad n (mkP I P)).set o (ad o, .inl (cy 0, (sh o).2, .inl (upd ((mkP I P).1 o) k v))) = cW cy sh ad n (mkP I (pU P o k)) := by
  refine mkP_set ho.1 ?_
  rw [cE_int ho.2]
  have : (mkP I (pU P o k)).1 o = upd ((mkP I P).1 o) k v := by
    funext j
    by_cases hj : j = k
    · subst hj
      rw [mkP_at.1, pk_us, hv]
    · rw [(mkP_nk hj).1, pk_un hj]
  rw [this]
theorem cW_mstR {o k c q : Nat} (ho : ok n sh o (c + 8)) (hc : 2 ≤ c) (hv : I.2.2 o k = some q) : (cW cy sh ad n (mkP I P)).set o (ad o, .inl (cy c, (sh o).2, .inr (.inr (.inr (.inr (va_up (fun j => ((mkP I P).2.2 o j).map ad) k (some (ad q)))))))) = cW cy sh ad n (mkP I (pU P o k)) := by
  refine mkP_set ho.1 ?_
  rw [cE_ref ho.2 hc]
  have : (fun j => ((mkP I (pU P o k)).2.2 o j).map ad) = va_up (fun j => ((mkP I P).2.2 o j).map ad) k (some (ad q)) := by
    funext j
    by_cases hj : j = k
    · subst hj
      rw [mkP_at.2.2, hv]
      simp [va_up]
    · rw [(mkP_nk hj).2.2]
      simp [va_up, hj]
  rw [this]
end GW
def Wg (D : va_G) (cy : Nat → ClassId) (sh : Nat → Nat × Nat) (I : Mm) (ad : Nat → Nat) (n : Nat) (A : Nat → Prop) (H0 : Heap) (P : Nat → Nat → Bool) (H : Heap) (locs : List Loc) : Prop := Wd D cy sh ad n A H0 (mkP I P) H locs ∧ GBo I P n
section GR
variable {p : Program} {l : Launch} {e : Env} {R : Room} {s : State} {m : MethodId} {args : Array Value} {below : List Frame} {meth : Method} {c : Code} {H : Heap} {locs : List Loc} {cells slots : Nat} {Q : State → Prop}
variable {cc : ByteArray} {pc : Nat} {ls : Array Slot} {rest : List Value} {D : va_G} {A : Nat → Prop} {H0 : Heap}
variable {cy : Nat → ClassId} {sh : Nat → Nat × Nat} {ad : Nat → Nat} {n : Nat} {I : Mm} {P : Nat → Nat → Bool}
theorem g_new (hexec : p.tables.exec = Jvm.exec) (hb : c.code = cc) {own C : String} {T : u_T} {N ci index : Nat} {Ts : List Cond} (hts : ∀ w ∈ Ts, w.before args s = true) (hin : ∀ w ∈ u_ws C T N, w ∈ Ts) (ty : Nat → FieldType) (hty : ∀ k, k < N → parseFieldDescriptor (T k).2.2.1 = some (ty k)) (hown : s.vm.findClass own = some m.cls) (hcl : (Cond.classLink own index C).before args s = true) (hinst : (Cond.instantiable C N).before args s = true) (hini : (Cond.initialized C).before args s = true) (hK : va_K D vwCl (tyW cy) s) (hw : Wg D cy sh I ad n A H0 P H locs) (hA : ∀ q, H0.size ≤ q → A q) (hc : vwCl[ci]? = some (C, T, N)) (h8 : ci < 8) (hs : (sh n).1 = ci) (hfs : ∀ j, j < N → defaultValue (ty j) = vp_V ((fT ci).map dV) j) (hcells : cells + 1 ≤ R.cells) (hslots : slots + N ≤ R.slots) (hdg : decode cc pc = .ok (.new index, 3))
    (kk : ∀ (ad' : Nat → Nat) (H1 : Heap), (∀ q, q < n → ad' q = ad q) → Wg D cy sh I ad' (n + 1) A H0 P H1 locs → W p l e R s m args below meth c H1 locs (cells + 1) (slots + N) Q (F0 m (pc + 3) ls (.ref (ad' n) :: rest))) : W p l e R s m args below meth c H locs cells slots Q (F0 m pc ls rest) := by
  obtain ⟨⟨h1, h2, h3⟩, hg⟩ := hw
  refine va_new hexec hb hts hin ty hty hown hcl hinst hini hK h1 h2 h3 hA hc hfs hcells hslots hdg (fun q H1 p1 p2 p3 => ?_)
  have e : cW cy sh (exA ad n q) (n + 1) (mkP I P) = cW cy sh ad n (mkP I P) ++ [(q, .inr (ci, (fT ci).map dV))] := by
    rw [cW_new hg, cE_obj hs h8, flds_zero (mkP_n1 hg) (mkP_n2 hg) (mkP_n3 hg)]
  rw [← e] at p1 p2
  have z := kk (exA ad n q) H1 (fun o ho => exA_lt ho) ⟨⟨p1, p2, p3⟩, hg.up⟩
  rw [exA_self] at z
  exact z
theorem g_newI (hexec : p.tables.exec = Jvm.exec) (hb : c.code = cc) (harr : (Cond.arrayClass .int).before args s = true) (hK : va_K D vwCl (tyW cy) s) (hw : Wg D cy sh I ad n A H0 P H locs) (hA : ∀ q, H0.size ≤ q → A q) {N' : Nat} (hs : sh n = (8, N')) {x : Int32} (hn : ¬ x < 0) (hN : x.toNatClampNeg = N') (hbytes : N' * componentBytes .int ≤ 536870912) (hcells : cells + 1 ≤ R.cells) (hslots : slots + N' ≤ R.slots) (hdg : decode cc pc = .ok (.newarray .int, 2))
    (kk : ∀ (ad' : Nat → Nat) (H1 : Heap), (∀ q, q < n → ad' q = ad q) → Wg D cy sh I ad' (n + 1) A H0 P H1 locs → W p l e R s m args below meth c H1 locs (cells + 1) (slots + N') Q (F0 m (pc + 2) ls (.ref (ad' n) :: rest))) : W p l e R s m args below meth c H locs cells slots Q (F0 m pc ls (.int x :: rest)) := by
  obtain ⟨⟨h1, h2, h3⟩, hg⟩ := hw
  refine va_newa (atype := .int) (ty := .int) (N' := N') (a0 := (N', .inl (fun _ => 0))) hexec hb harr rfl hK h1 h2 h3 hA (fun _ => rfl) hn hN hbytes hcells hslots hdg (fun q cA H1 hK1 p1 p2 p3 => ?_)
  have e1 : s.vm.findClass ("[" ++ FieldType.int.toString) = some cA := (hK1.2 5 (cA, .int) rfl).2
  have e2 : s.vm.findClass ("[" ++ FieldType.int.toString) = some (cy 0) := (hK.2 0 (cy 0, .int) rfl).2
  have e3 : cA = cy 0 := Option.some.inj (e1.symm.trans e2)
  have e : cW cy sh (exA ad n q) (n + 1) (mkP I P) = cW cy sh ad n (mkP I P) ++ [(q, .inl (cA, (N', .inl (fun _ => 0))))] := by
    rw [cW_new hg, cE_int (by rw [hs]), mkP_n1 hg, hs, e3]
  rw [← e] at p1 p2
  have z := kk (exA ad n q) H1 (fun o ho => exA_lt ho) ⟨⟨p1, p2, p3⟩, hg.up⟩
  rw [exA_self] at z
  exact z
theorem g_newL (hexec : p.tables.exec = Jvm.exec) (hb : c.code = cc) (harr : (Cond.arrayClass .long).before args s = true) (hK : va_K D vwCl (tyW cy) s) (hw : Wg D cy sh I ad n A H0 P H locs) (hA : ∀ q, H0.size ≤ q → A q) {N' : Nat} (hs : sh n = (9, N')) {x : Int32} (hn : ¬ x < 0) (hN : x.toNatClampNeg = N') (hbytes : N' * componentBytes .long ≤ 536870912) (hcells : cells + 1 ≤ R.cells) (hslots : slots + N' ≤ R.slots) (hdg : decode cc pc = .ok (.newarray .long, 2))
    (kk : ∀ (ad' : Nat → Nat) (H1 : Heap), (∀ q, q < n → ad' q = ad q) → Wg D cy sh I ad' (n + 1) A H0 P H1 locs → W p l e R s m args below meth c H1 locs (cells + 1) (slots + N') Q (F0 m (pc + 2) ls (.ref (ad' n) :: rest))) : W p l e R s m args below meth c H locs cells slots Q (F0 m pc ls (.int x :: rest)) := by
  obtain ⟨⟨h1, h2, h3⟩, hg⟩ := hw
  refine va_newa (atype := .long) (ty := .long) (N' := N') (a0 := (N', .inr (.inl (fun _ => 0)))) hexec hb harr rfl hK h1 h2 h3 hA (fun _ => rfl) hn hN hbytes hcells hslots hdg (fun q cA H1 hK1 p1 p2 p3 => ?_)
  have e1 : s.vm.findClass ("[" ++ FieldType.long.toString) = some cA := (hK1.2 5 (cA, .long) rfl).2
  have e2 : s.vm.findClass ("[" ++ FieldType.long.toString) = some (cy 1) := (hK.2 1 (cy 1, .long) rfl).2
  have e3 : cA = cy 1 := Option.some.inj (e1.symm.trans e2)
  have e : cW cy sh (exA ad n q) (n + 1) (mkP I P) = cW cy sh ad n (mkP I P) ++ [(q, .inl (cA, (N', .inr (.inl (fun _ => 0)))))] := by
    rw [cW_new hg, cE_long (by rw [hs]), mkP_n2 hg, hs, e3]
  rw [← e] at p1 p2
  have z := kk (exA ad n q) H1 (fun o ho => exA_lt ho) ⟨⟨p1, p2, p3⟩, hg.up⟩
  rw [exA_self] at z
  exact z
theorem g_newR (hexec : p.tables.exec = Jvm.exec) (hb : c.code = cc) {own C : String} {index : Nat} (hown : s.vm.findClass own = some m.cls) (hclink : (Cond.classLink own index C).before args s = true) (hover : va_AO C s) (hK : va_K D vwCl (tyW cy) s) (hw : Wg D cy sh I ad n A H0 P H locs) (hA : ∀ q, H0.size ≤ q → A q) (t : Nat) (h2t : 2 ≤ t) (ht : (tyW cy)[t]? = some (cy t, .object C)) {N' : Nat} (hs : sh n = (t + 8, N')) {x : Int32} (hn : ¬ x < 0) (hN : x.toNatClampNeg = N') (hbytes : N' * 4 ≤ 536870912) (hcells : cells + 1 ≤ R.cells) (hslots : slots + N' ≤ R.slots) (hdg : decode cc pc = .ok (.anewarray index, 3))
    (kk : ∀ (ad' : Nat → Nat) (H1 : Heap), (∀ q, q < n → ad' q = ad q) → Wg D cy sh I ad' (n + 1) A H0 P H1 locs → W p l e R s m args below meth c H1 locs (cells + 1) (slots + N') Q (F0 m (pc + 3) ls (.ref (ad' n) :: rest))) : W p l e R s m args below meth c H locs cells slots Q (F0 m pc ls (.int x :: rest)) := by
  obtain ⟨⟨h1, h2, h3⟩, hg⟩ := hw
  refine va_newq (N' := N') hexec hb hown hclink hover hK h1 h2 h3 hA hn hN hbytes hcells hslots hdg (fun q cA H1 hK1 p1 p2 p3 => ?_)
  obtain ⟨k1, c1, a1, a2, a3, e1⟩ := (hK1.2 5 (cA, .object C) rfl).2
  obtain ⟨k2, c2, b1, b2, b3, e2⟩ := (hK.2 t (cy t, .object C) ht).2
  have e3 : cA = cy t := Option.some.inj (e1.symm.trans e2)
  have e : cW cy sh (exA ad n q) (n + 1) (mkP I P) = cW cy sh ad n (mkP I P) ++ [(q, .inl (cA, N', .inr (.inr (.inr (.inr (fun _ => none))))))] := by
    rw [cW_new hg, cE_ref (c := t) (by rw [hs]) h2t, mkP_n3 hg, hs, e3]
    rfl
  rw [← e] at p1 p2
  have z := kk (exA ad n q) H1 (fun o ho => exA_lt ho) ⟨⟨p1, p2, p3⟩, hg.up⟩
  rw [exA_self] at z
  exact z
theorem g_put (hexec : p.tables.exec = Jvm.exec) (hb : c.code = cc) {own ref C : String} {T : u_T} {N ci index : Nat} {Ts : List Cond} (hts : ∀ w ∈ Ts, w.before args s = true) (hin : ∀ w ∈ u_ws C T N, w ∈ Ts) (ty0 : Nat → FieldType) (hty : ∀ k, k < N → parseFieldDescriptor (T k).2.2.1 = some (ty0 k)) (hnm : ∀ a, a < N → ∀ b, b < N → a ≠ b → (T a).2.1 ≠ (T b).2.1) (hown : s.vm.findClass own = some m.cls) (hK : va_K D vwCl (tyW cy) s) (hw : Wg D cy sh I ad n A H0 P H locs) (o k t : Nat) (ho : ok n sh o ci) (h8 : ci < 8) (hc : vwCl[ci]? = some (C, T, N)) (hk : k < N) (ht : (fT ci)[k]? = some t) (hlink : (Cond.fieldLink own index ref (T k).2.1 (T k).2.2.1).before args s = true) (hsame : ∀ x, s.fieldFound? (T k).1 (T k).2.1 (T k).2.2.1 = some x → s.fieldFound? ref (T k).2.1 (T k).2.2.1 = some x) (hfin : (T k).2.2.2 = false) {v : Value} (hv : fV ad I o t k = v) (hq : ∀ q, I.2.2 o k = some q → q < n) (hn : narrow (ty0 k) v = v) (hfit : fits (ty0 k) v = true) (hdg : decode cc pc = .ok (.putfield index, 3))
    (kk : ∀ (H1 : Heap) (locs1 : List Loc), Wg D cy sh I ad n A H0 (pU P o k) H1 locs1 → W p l e R s m args below meth c H1 locs1 cells slots Q (F0 m (pc + 3) ls rest)) : W p l e R s m args below meth c H locs cells slots Q (F0 m pc ls (v :: .ref (ad o) :: rest)) := by
  obtain ⟨hw, hg⟩ := hw
  exact va_put hexec hb hts hin ty0 hty hnm hown hK hw.1 hw.2.1 hw.2.2 o (by rw [cW_at ho.1, cE_obj ho.2 h8]) hc k hk hlink hsame hfin (hty k hk) hn hfit (by rw [flds_len]; exact (List.getElem?_eq_some_iff.mp ht).1) hdg (fun H1 locs1 h1 h2 h3 => kk H1 locs1 ⟨by rw [cW_mput ho h8 ht hv] at h1 h2; exact ⟨h1, h2, h3⟩, hg.put ho.1 hq⟩)
theorem g_putF (hexec : p.tables.exec = Jvm.exec) (hb : c.code = cc) {own ref C : String} {T : u_T} {N ci index : Nat} {Ts : List Cond} (hts : ∀ w ∈ Ts, w.before args s = true) (hin : ∀ w ∈ u_ws C T N, w ∈ Ts) (ty0 : Nat → FieldType) (hty : ∀ k, k < N → parseFieldDescriptor (T k).2.2.1 = some (ty0 k)) (hnm : ∀ a, a < N → ∀ b, b < N → a ≠ b → (T a).2.1 ≠ (T b).2.1) (hown : s.vm.findClass own = some m.cls) (hK : va_K D vwCl (tyW cy) s) (hw : Wg D cy sh I ad n A H0 P H locs) (hin2 : meth.name = "<init>") (o k t : Nat) (ho : ok n sh o ci) (h8 : ci < 8) (hc : vwCl[ci]? = some (C, T, N)) (hk : k < N) (ht : (fT ci)[k]? = some t) (hlink : (Cond.fieldLink own index ref (T k).2.1 (T k).2.2.1).before args s = true) (hsame : ∀ x, s.fieldFound? (T k).1 (T k).2.1 (T k).2.2.1 = some x → s.fieldFound? ref (T k).2.1 (T k).2.2.1 = some x) (hfin : (T k).2.2.2 = true) (hdecl : (T k).1 = own) {v : Value} (hv : fV ad I o t k = v) (hq : ∀ q, I.2.2 o k = some q → q < n) (hn : narrow (ty0 k) v = v) (hfit : fits (ty0 k) v = true) (hdg : decode cc pc = .ok (.putfield index, 3))
    (kk : ∀ (H1 : Heap) (locs1 : List Loc), Wg D cy sh I ad n A H0 (pU P o k) H1 locs1 → W p l e R s m args below meth c H1 locs1 cells slots Q (F0 m (pc + 3) ls rest)) : W p l e R s m args below meth c H locs cells slots Q (F0 m pc ls (v :: .ref (ad o) :: rest)) := by
  obtain ⟨hw, hg⟩ := hw
  exact va_putF hexec hb hts hin ty0 hty hnm hown hK hw.1 hw.2.1 hw.2.2 o (by rw [cW_at ho.1, cE_obj ho.2 h8]) hc k hk hlink hsame hfin hin2 hdecl (hty k hk) hn hfit (by rw [flds_len]; exact (List.getElem?_eq_some_iff.mp ht).1) hdg (fun H1 locs1 h1 h2 h3 => kk H1 locs1 ⟨by rw [cW_mput ho h8 ht hv] at h1 h2; exact ⟨h1, h2, h3⟩, hg.put ho.1 hq⟩)
theorem g_iast (hexec : p.tables.exec = Jvm.exec) (hb : c.code = cc) (hK : va_K D vwCl (tyW cy) s) (hw : Wg D cy sh I ad n A H0 P H locs) (a k : Nat) {i x : Int32} (ho : okA n sh a 8 i) (hi : i.toNatClampNeg = k) (hv : I.1 a k = x) (hq : ∀ q, I.2.2 a k = some q → q < n) (hdg : decode cc pc = .ok (.iastore, 1))
    (kk : ∀ (H1 : Heap) (locs1 : List Loc), Wg D cy sh I ad n A H0 (pU P a k) H1 locs1 → W p l e R s m args below meth c H1 locs1 cells slots Q (F0 m (pc + 1) ls rest)) : W p l e R s m args below meth c H locs cells slots Q (F0 m pc ls (.int x :: .int i :: .ref (ad a) :: rest)) := by
  obtain ⟨hw, hg⟩ := hw
  subst hi
  exact va_iast hexec hb hK hw.1 hw.2.1 hw.2.2 a 0 (by rw [cW_at ho.1.1, cE_int ho.1.2]) rfl ho.2 hdg (fun H1 locs1 h1 h2 h3 => kk H1 locs1 ⟨by rw [cW_mstI ho.1 hv] at h1 h2; exact ⟨h1, h2, h3⟩, hg.put ho.1.1 hq⟩)
theorem g_aast (hexec : p.tables.exec = Jvm.exec) (hb : c.code = cc) (hK : va_K D vwCl (tyW cy) s) (hw : Wg D cy sh I ad n A H0 P H locs) (a k t q ci : Nat) {r : vw_C} {i : Int32} (h2 : 2 ≤ t) (ht : (tyW cy)[t]? = some (cy t, .object r.1)) (ho : okA n sh a (t + 8) i) (hi : i.toNatClampNeg = k) (hv : I.2.2 a k = some q) (hq : ok n sh q ci) (h8 : ci < 8) (hc : vwCl[ci]? = some r) (hdg : decode cc pc = .ok (.aastore, 1))
    (kk : ∀ (H1 : Heap) (locs1 : List Loc), Wg D cy sh I ad n A H0 (pU P a k) H1 locs1 → W p l e R s m args below meth c H1 locs1 cells slots Q (F0 m (pc + 1) ls rest)) : W p l e R s m args below meth c H locs cells slots Q (F0 m pc ls (.ref (ad q) :: .int i :: .ref (ad a) :: rest)) := by
  obtain ⟨hw, hg⟩ := hw
  subst hi
  exact va_astq hexec hb hK hw.1 hw.2.1 hw.2.2 a t q ci (by rw [cW_at ho.1.1, cE_ref ho.1.2 h2]) ht (by rw [cW_at hq.1, cE_obj hq.2 h8]) hc ho.2 hdg (fun H1 locs1 h1 h2' h3 => kk H1 locs1 ⟨by rw [cW_mstR ho.1 h2 hv] at h1 h2'; exact ⟨h1, h2', h3⟩, hg.put ho.1.1 (fun z hz => by rw [hv] at hz; cases hz; exact hq.1)⟩)
theorem mkP_ref {o k q : Nat} (hp : P o k = true) (hv : I.2.2 o k = some q) : (mkP I P).2.2 o k = some q := by
  show (if P o k = true then I.2.2 o k else none) = some q
  rw [if_pos hp, hv]
end GR
/-! the words that stay in the world, and a constructor's start -/
def Ex (U : State) : Prop := va_AO RX3 U ∧ va_AO RX0 U ∧ va_AO RX2 U ∧ va_Nw (.methodLinkNest RX1 52 yX3_init "TwiceRunning") U ∧ va_Nw (.methodLinkNest RX1 53 yX0_init "TwiceRunning") U ∧ va_Nw (.methodLinkNest RX6 25 yX5_init "TwiceRunning") U ∧ va_Nw (.methodLinkNest RX6 36 yX4_init "TwiceRunning") U ∧ va_Nw (.methodLinkNest RX6 51 yX2_init "TwiceRunning") U
theorem Ex.warm {s U : State} (h : Ex s) (hW : s.WarmedH U.vm) : Ex U := ⟨va_AO.moved hW.alike h.1, va_AO.moved hW.alike h.2.1, va_AO.moved hW.alike h.2.2.1, va_Nw.warmM hW h.2.2.2.1, va_Nw.warmM hW h.2.2.2.2.1, va_Nw.warmM hW h.2.2.2.2.2.1, va_Nw.warmM hW h.2.2.2.2.2.2.1, va_Nw.warmM hW h.2.2.2.2.2.2.2⟩
theorem Ex.same {s U : State} (h : Ex s) (hW : s.vm = U.vm) : Ex U := by
  have ha : s.vm.Alike U.vm := by rw [← hW]; exact Vm.Alike.refl s.vm
  exact ⟨va_AO.moved ha h.1, va_AO.moved ha h.2.1, va_AO.moved ha h.2.2.1, va_Nw.same rfl hW h.2.2.2.1, va_Nw.same rfl hW h.2.2.2.2.1, va_Nw.same rfl hW h.2.2.2.2.2.1, va_Nw.same rfl hW h.2.2.2.2.2.2.1, va_Nw.same rfl hW h.2.2.2.2.2.2.2⟩
def PreG (D : va_G) (cy : Nat → ClassId) (sh : Nat → Nat × Nat) (I : Mm) (A : Nat → Prop) (B : Nat) (ad : Nat → Nat) (n : Nat) (P : Nat → Nat → Bool) (U : State) : Prop := va_P D vwCl (cW cy sh ad n (mkP I P)) U.heap ∧ va_K D vwCl (tyW cy) U ∧ va_D A (cW cy sh ad n (mkP I P)) ∧ B ≤ U.heap.size ∧ GBo I P n ∧ Ex U
section GC
variable {p : Program} {l : Launch} {e : Env} {R : Room} {s U : State} {m : MethodId} {args : Array Value} {below : List Frame} {meth : Method} {c : Code} {H : Heap} {locs : List Loc} {cells slots : Nat} {Q : State → Prop}
variable {cc : ByteArray} {pc : Nat} {ls : Array Slot} {rest : List Value} {D : va_G} {A : Nat → Prop}
variable {cy : Nat → ClassId} {sh : Nat → Nat × Nat} {ad : Nat → Nat} {n n' o B mc ms : Nat} {I : Mm} {P P' : Nat → Nat → Bool}
variable {y : MethodName} {bytes : ByteArray} {maxL nL index : Nat} {rm : Room} {Ts : List Cond} {own : String}
theorem preG_at (hEx : Ex s) (hK : va_K D vwCl (tyW cy) s) (hB : B ≤ s.heap.size) (hw : Wg D cy sh I ad n A s.heap P H locs) (hU : U.heap = H) (hW : s.WarmedH U.vm) : PreG D cy sh I A B ad n P U :=
  ⟨by rw [hU]; exact hw.1.1, va_K.moved hW.alike hK, hw.1.2.1, by rw [hU]; exact Nat.le_trans hB hw.1.2.2.1, hw.2, hEx.warm hW⟩
theorem preG_blind {av : List Value} : FrameBlind (va_Pc av (PreG D cy sh I A B ad n P)) := by
  intro a U g mk q
  obtain ⟨q0, q1, q2, q3, q4, q5, q6⟩ := q
  exact ⟨q0, q1, va_K.moved (u := U) (U := U.calling g mk a) (Vm.Alike.refl U.vm) q2, q3, q4, q5, q6.same rfl⟩
abbrev QG (D : va_G) (cy : Nat → ClassId) (sh : Nat → Nat × Nat) (I : Mm) (A : Nat → Prop) (B : Nat) (ad : Nat → Nat) (n n' : Nat) (P' : Nat → Nat → Bool) : Array Value → State → Outcome → State → Prop := va_Qv (fun u : Nat → Nat => ∀ q, q < n → u q = ad q) (fun u => PreG D cy sh I A B u n' P') A
theorem g_callI (hF : CallFix p m c cc nL s args Ts own) (hM : Met l y (wU y bytes maxL none) rm (va_Pc [.ref (ad o)] (PreG D cy sh I A B ad n P)) (QG D cy sh I A B ad n n' P') mc ms A) (hG : GoodIn Ts (wU y bytes maxL none)) (hini : (Cond.initialized y.cls).before args s = true) (hl : (Cond.methodLink own index y).before args s = true) (hin : (Cond.instanceMethod y).before args s = true) (hy1 : y.name = "<init>") (hd : y.cls ≠ "java/lang/invoke/MethodHandle" ∧ y.cls ≠ "java/lang/invoke/VarHandle" ∧ (parseMethodDescriptor y.desc).map (fun d => d.parameters.length) = some 0) (hR : rm.frames + 1 ≤ R.frames ∧ 8 + (maxL + 11) + rm.locals ≤ R.locals) (hrc : rm.cells = mc) (hrs : rm.slots = ms) (hEx : Ex s) (hK : va_K D vwCl (tyW cy) s) (hB : B ≤ s.heap.size) (hw : Wg D cy sh I ad n A s.heap P H locs) (hsize : ls.size = nL) (hrm : (rest.map fun v => v.category).sum ≤ 8) (hf : cells + mc ≤ R.cells ∧ slots + ms ≤ R.slots) (hdg : decode cc pc = .ok (.invokespecial index, 3))
    (kk : ∀ (ad' : Nat → Nat) (H1 : Heap) (locs1 : List Loc), (∀ q, q < n → ad' q = ad q) → Wg D cy sh I ad' n' A s.heap P' H1 locs1 → W p l e R s m args below meth c H1 locs1 (cells + mc) (slots + ms) Q (F0 m (pc + 3) ls rest)) : W p l e R s m args below meth c H locs cells slots Q (F0 m pc ls (.ref (ad o) :: rest)) := by
  refine va_callv (va_runI (As := []) (rest := rest) hF hM (cwI 0 hF.2.2.2.2 hG rfl hrc hrs hini hl hin hy1 hd hR) ⟨preG_blind, fun U hU hW => ⟨rfl, preG_at hEx hK hB hw hU hW⟩⟩ rfl rfl hsize rfl (lv_room hrm) hdg hf) hw.1.2.2 (fun q _ h => h) (fun q h => h) (fun u t H1 locs1 ht hvm hp hBt hz1 hk1 hS => ?_)
  exact kk u H1 locs1 hp ⟨⟨by rw [← ht]; exact hBt.1, hBt.2.2.1, hS⟩, hBt.2.2.2.2.1⟩
theorem g_callN (hF : CallFix p m c cc nL s args Ts own) {host : String} (hM : Met l y (wU y bytes maxL none) rm (va_Pc [.ref (ad o)] (PreG D cy sh I A B ad n P)) (QG D cy sh I A B ad n n' P') mc ms A) (hG : GoodIn Ts (wU y bytes maxL none)) (hini : (Cond.initialized y.cls).before args s = true) (hl : va_Nw (.methodLinkNest own index y host) s) (hin : (Cond.instanceMethod y).before args s = true) (hy1 : y.name = "<init>") (hd : y.cls ≠ "java/lang/invoke/MethodHandle" ∧ y.cls ≠ "java/lang/invoke/VarHandle" ∧ (parseMethodDescriptor y.desc).map (fun d => d.parameters.length) = some 0) (hR : rm.frames + 1 ≤ R.frames ∧ 8 + (maxL + 11) + rm.locals ≤ R.locals) (hrc : rm.cells = mc) (hrs : rm.slots = ms) (hEx : Ex s) (hK : va_K D vwCl (tyW cy) s) (hB : B ≤ s.heap.size) (hw : Wg D cy sh I ad n A s.heap P H locs) (hsize : ls.size = nL) (hrm : (rest.map fun v => v.category).sum ≤ 8) (hf : cells + mc ≤ R.cells ∧ slots + ms ≤ R.slots) (hdg : decode cc pc = .ok (.invokespecial index, 3))
    (kk : ∀ (ad' : Nat → Nat) (H1 : Heap) (locs1 : List Loc), (∀ q, q < n → ad' q = ad q) → Wg D cy sh I ad' n' A s.heap P' H1 locs1 → W p l e R s m args below meth c H1 locs1 (cells + mc) (slots + ms) Q (F0 m (pc + 3) ls rest)) : W p l e R s m args below meth c H locs cells slots Q (F0 m pc ls (.ref (ad o) :: rest)) := by
  refine va_callv (va_runIN (As := []) (rest := rest) hF hM ⟨va_cnB 0 hF.2.2.2.2 hG rfl hrc hrs hl hini hd hR, hy1, hin⟩ ⟨preG_blind, fun U hU hW => ⟨rfl, preG_at hEx hK hB hw hU hW⟩⟩ rfl rfl hsize rfl (lv_room hrm) hdg hf) hw.1.2.2 (fun q _ h => h) (fun q h => h) (fun u t H1 locs1 ht hvm hp hBt hz1 hk1 hS => ?_)
  exact kk u H1 locs1 hp ⟨⟨by rw [← ht]; exact hBt.1, hBt.2.2.1, hS⟩, hBt.2.2.2.2.1⟩
end GC

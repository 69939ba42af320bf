/-! the text constants, by their places -/
def lenJS : List Nat := [4, 3, 5, 6, 4, 3, 4, 5, 4, 5, 3]
def bytJS : List (List Int32) := [[115, 105, 100, 101], [116, 114, 121], [115, 112, 97, 114, 101], [99, 104, 111, 111, 115, 101], [102, 101, 101, 100], [98, 97, 114], [116, 111, 108, 100], [116, 101, 108, 108, 115], [103, 97, 109, 101], [119, 111, 114, 116, 104], [108, 97, 119]]
def strs : List (String × Nat × String × Nat) := [(RX4, 97, "side", 0), (RX4, 99, "try", 1), (RX4, 101, "spare", 2), (RX4, 103, "choose", 3), (RX4, 105, "feed", 4), (RX4, 107, "bar", 5), (RX4, 109, "told", 6), (RX4, 69, "tells", 7), (RX4, 46, "game", 8), (RX4, 82, "worth", 9), (RX4, 55, "law", 10), (RX7, 189, "law", 10), (RX7, 191, "game", 8), (RX7, 187, "worth", 9), (RX7, 197, "side", 0), (RX7, 199, "try", 1), (RX7, 201, "spare", 2), (RX7, 203, "choose", 3), (RX7, 205, "feed", 4), (RX7, 207, "bar", 5), (RX7, 209, "told", 6), (RX7, 182, "tells", 7)]
def slen (i : Nat) : Int32 := nI (lenJS.getD i 0)
def sch (i : Nat) (k : Int32) : Int32 := (bytJS.getD i []).getD k.toNatClampNeg 0
theorem stm0 : (RX4, 97, "side", 0) ∈ strs := List.mem_of_getElem? (i := 0) rfl
theorem stm1 : (RX4, 99, "try", 1) ∈ strs := List.mem_of_getElem? (i := 1) rfl
theorem stm2 : (RX4, 101, "spare", 2) ∈ strs := List.mem_of_getElem? (i := 2) rfl
theorem stm3 : (RX4, 103, "choose", 3) ∈ strs := List.mem_of_getElem? (i := 3) rfl
theorem stm4 : (RX4, 105, "feed", 4) ∈ strs := List.mem_of_getElem? (i := 4) rfl
theorem stm5 : (RX4, 107, "bar", 5) ∈ strs := List.mem_of_getElem? (i := 5) rfl
theorem stm6 : (RX4, 109, "told", 6) ∈ strs := List.mem_of_getElem? (i := 6) rfl
theorem stm7 : (RX4, 69, "tells", 7) ∈ strs := List.mem_of_getElem? (i := 7) rfl
theorem stm8 : (RX4, 46, "game", 8) ∈ strs := List.mem_of_getElem? (i := 8) rfl
theorem stm9 : (RX4, 82, "worth", 9) ∈ strs := List.mem_of_getElem? (i := 9) rfl
theorem stm10 : (RX4, 55, "law", 10) ∈ strs := List.mem_of_getElem? (i := 10) rfl
theorem stm11 : (RX7, 189, "law", 10) ∈ strs := List.mem_of_getElem? (i := 11) rfl
theorem stm12 : (RX7, 191, "game", 8) ∈ strs := List.mem_of_getElem? (i := 12) rfl
theorem stm13 : (RX7, 187, "worth", 9) ∈ strs := List.mem_of_getElem? (i := 13) rfl
theorem stm14 : (RX7, 197, "side", 0) ∈ strs := List.mem_of_getElem? (i := 14) rfl
theorem stm15 : (RX7, 199, "try", 1) ∈ strs := List.mem_of_getElem? (i := 15) rfl
theorem stm16 : (RX7, 201, "spare", 2) ∈ strs := List.mem_of_getElem? (i := 16) rfl
theorem stm17 : (RX7, 203, "choose", 3) ∈ strs := List.mem_of_getElem? (i := 17) rfl
theorem stm18 : (RX7, 205, "feed", 4) ∈ strs := List.mem_of_getElem? (i := 18) rfl
theorem stm19 : (RX7, 207, "bar", 5) ∈ strs := List.mem_of_getElem? (i := 19) rfl
theorem stm20 : (RX7, 209, "told", 6) ∈ strs := List.mem_of_getElem? (i := 20) rfl
theorem stm21 : (RX7, 182, "tells", 7) ∈ strs := List.mem_of_getElem? (i := 21) rfl
def Zs (adK adV : Nat → Nat) (A : Nat → Prop) (U : State) : Prop := vk_S 11 lenJS bytJS adK adV A U U.heap ∧ (∀ q ∈ strs, vk_R q.1 q.2.1 q.2.2.1 (adK q.2.2.2) U) ∧ va_Z "java/lang/String" "COMPACT_STRINGS" "Z" (.int 1) A U U.heap ∧ va_Zq "jdk/internal/util/Preconditions" "SIOOBE_FORMATTER" "Ljava/util/function/BiFunction;" A U U.heap
theorem Zs.at {adK adV : Nat → Nat} {A : Nat → Prop} {s U : State} (h : Zs adK adV A s) (hW : s.WarmedH U.vm) (hk : ∀ q : Nat, q < s.heap.size → ¬ A q → U.heap[q]? = s.heap[q]?) : Zs adK adV A U := ⟨(h.1.kept hk).moved hW.alike, fun q hq => (h.2.1 q hq).warm hW, (h.2.2.1.kept hk).moved hW.alike, (h.2.2.2.kept hk).moved hW.alike⟩
theorem Zs.narrow {adK adV : Nat → Nat} {A B : Nat → Prop} {s : State} (h : Zs adK adV A s) (hAB : ∀ q, B q → A q) : Zs adK adV B s := ⟨h.1.narrow hAB, h.2.1, h.2.2.1.narrow hAB, h.2.2.2.narrow hAB⟩
theorem Zs.str {adK adV : Nat → Nat} {A : Nat → Prop} {s : State} (h : Zs adK adV A s) {own tx : String} {k i : Nat} (hm : (own, k, tx, i) ∈ strs) : vk_R own k tx (adK i) s := h.2.1 _ hm
def Aw (ad : Nat → Nat) (n : Nat) : Nat → Prop := fun q => ∃ o, o < n ∧ q = ad o
def Pre (D : va_G) (cy : Nat → ClassId) (sh : Nat → Nat × Nat) (ad : Nat → Nat) (n : Nat) (adK adV : Nat → Nat) (M : Mm) (U : State) : Prop := va_P D vwCl (cW cy sh ad n M) U.heap ∧ va_K D vwCl (tyW cy) U ∧ va_D (Aw ad n) (cW cy sh ad n M) ∧ Zs adK adV (Aw ad n) U
def lt {α β : Type} (a : α) (k : α → β) : β := k a
theorem lt_some {α β : Type} {a : α} {k : α → β} {r : β} (h : lt a k = r) : ∃ x, x = a ∧ k x = r := ⟨a, rfl, h⟩
theorem pre_at {D : va_G} {cy : Nat → ClassId} {sh : Nat → Nat × Nat} {ad : Nat → Nat} {n : Nat} {adK adV : Nat → Nat} {M : Mm} {s U : State} {H : Heap} {locs : List Loc} (hZ : Zs adK adV (Aw ad n) s) (hK : va_K D vwCl (tyW cy) s) (hw : Wd D cy sh ad n (Aw ad n) s.heap M H locs) (hU : U.heap = H) (hW : s.WarmedH U.vm) : Pre D cy sh ad n adK adV M U :=
  ⟨by rw [hU]; exact hw.1, va_K.moved hW.alike hK, hw.2.1, hZ.at hW (fun q h1 h2 => by rw [hU]; exact hw.2.2.2.1 q h1 h2)⟩
theorem pre_blind {D : va_G} {cy : Nat → ClassId} {sh : Nat → Nat × Nat} {ad : Nat → Nat} {n : Nat} {adK adV : Nat → Nat} {M : Mm} {av : List Value} : FrameBlind (va_Pc av (Pre D cy sh ad n adK adV M)) := by
  intro a U g mk q
  obtain ⟨q0, q1, q2, q3, q4⟩ := q
  exact ⟨q0, q1, va_K.moved (u := U) (U := U.calling g mk a) (Vm.Alike.refl U.vm) q2, q3, vk_S.moved (u := U) (U := U.calling g mk a) (Vm.Alike.refl U.vm) q4.1, fun z hz => vk_R.same (u := U) (U := U.calling g mk a) rfl (q4.2.1 z hz), va_Z.moved (u := U) (U := U.calling g mk a) (Vm.Alike.refl U.vm) q4.2.2.1, va_Zq.moved (u := U) (U := U.calling g mk a) (Vm.Alike.refl U.vm) q4.2.2.2⟩
theorem tsw_out {x : Int32} {lo hi : Int} (h : ∀ c : Int, lo ≤ c → c ≤ hi → ¬ x = Int32.ofInt c) : x.toInt < lo ∨ hi < x.toInt := by
  by_cases h1 : x.toInt < lo
  · exact Or.inl h1
  · by_cases h2 : hi < x.toInt
    · exact Or.inr h2
    · exact absurd (Int32.ofInt_toInt x).symm (h x.toInt (by omega) (by omega))
section CC
variable {p : Program} {l : Launch} {e : Env} {R : Room} {s : State} {m : MethodId} {args : Array Value} {below : List Frame} {meth : Method} {c : Code} {H : Heap} {locs : List Loc} {cells slots : Nat} {Q : State → Prop}
variable {cc : ByteArray} {pc : Nat} {ls : Array Slot} {rest st0 : List Value} {D : va_G} {H0 : Heap}
variable {cy : Nat → ClassId} {sh : Nat → Nat × Nat} {ad : Nat → Nat} {n : Nat} {adK adV : Nat → Nat} {M : Mm}
variable {y : MethodName} {bytes : ByteArray} {maxL nL na index : Nat} {ret : Option FieldType} {rm : Room} {Ts : List Cond} {own : String} {As : List Value}
theorem r_callVi (hF : CallFix p m c cc nL s args Ts own) {o ci : Nat} {C : String} {T : u_T} {N : Nat} {res : Mm × Int32} (hM : Met l y (wU y bytes maxL ret) rm (va_Pc (.ref (ad o) :: As) (Pre D cy sh ad n adK adV M)) (va_Qi (fun r (M2 : Mm) => r = res.2 ∧ M2 = res.1) (Pre D cy sh ad n adK adV) (Aw ad n)) 0 0 (Aw ad n)) (hG : GoodIn Ts (wsV own index C y (wU y bytes maxL ret))) (hd : y.cls ≠ "java/lang/invoke/MethodHandle" ∧ y.cls ≠ "java/lang/invoke/VarHandle" ∧ (parseMethodDescriptor y.desc).map (fun d => d.parameters.length) = some na) (hyc : y.cls = C) (hR : rm.frames + 1 ≤ R.frames ∧ 8 + (maxL + 11) + rm.locals ≤ R.locals) (hrc : rm.cells = 0) (hrs : rm.slots = 0) (hZ : Zs adK adV (Aw ad n) s) (hK : va_K D vwCl (tyW cy) s) (hw : Wd D cy sh ad n (Aw ad n) s.heap M H locs) (ho : ok n sh o ci) (h8 : ci < 8) (hc : vwCl[ci]? = some (C, T, N)) (hn : As.length = na) (hsize : ls.size = nL) (hst : st0 = As.reverse ++ .ref (ad o) :: rest) (hrm : (rest.map fun v => v.category).sum ≤ 8) (hf : cells ≤ R.cells ∧ slots ≤ R.slots) (hdg : decode cc pc = .ok (.invokevirtual index, 3))
    (kk : ∀ (H1 : Heap) (locs1 : List Loc), Wd D cy sh ad n (Aw ad n) s.heap res.1 H1 locs1 → W p l e R s m args below meth c H1 locs1 cells slots Q (F0 m (pc + 3) ls (.int res.2 :: rest))) : W p l e R s m args below meth c H locs cells slots Q (F0 m pc ls st0) := by
  refine va_calli (va_runV (As := As) (rest := rest) hF hM (cwV na hF.2.2.2.2 hG rfl hrc hrs ⟨hyc, hd⟩ hR) ⟨pre_blind, va_recv hK hw.1 hc (q0 := o) (by rw [cW_at ho.1, cE_obj ho.2 h8]), fun U hU hW => ⟨rfl, pre_at hZ hK hw hU hW⟩⟩ rfl hn hsize hst (lv_room hrm) hdg hf) hw.2.2 (fun q _ h => h) (fun q h => h) (fun r u t H1 locs1 ht hvm hp hB hz1 hk1 hS => ?_)
  obtain ⟨rfl, rfl⟩ := hp
  exact kk H1 locs1 ⟨by rw [← ht]; exact hB.1, hB.2.2.1, hS⟩
theorem r_callVl (hF : CallFix p m c cc nL s args Ts own) {o ci : Nat} {C : String} {T : u_T} {N : Nat} {res : Mm × Int64} (hM : Met l y (wU y bytes maxL ret) rm (va_Pc (.ref (ad o) :: As) (Pre D cy sh ad n adK adV M)) (va_Ql (fun r (M2 : Mm) => r = res.2 ∧ M2 = res.1) (Pre D cy sh ad n adK adV) (Aw ad n)) 0 0 (Aw ad n)) (hG : GoodIn Ts (wsV own index C y (wU y bytes maxL ret))) (hd : y.cls ≠ "java/lang/invoke/MethodHandle" ∧ y.cls ≠ "java/lang/invoke/VarHandle" ∧ (parseMethodDescriptor y.desc).map (fun d => d.parameters.length) = some na) (hyc : y.cls = C) (hR : rm.frames + 1 ≤ R.frames ∧ 8 + (maxL + 11) + rm.locals ≤ R.locals) (hrc : rm.cells = 0) (hrs : rm.slots = 0) (hZ : Zs adK adV (Aw ad n) s) (hK : va_K D vwCl (tyW cy) s) (hw : Wd D cy sh ad n (Aw ad n) s.heap M H locs) (ho : ok n sh o ci) (h8 : ci < 8) (hc : vwCl[ci]? = some (C, T, N)) (hn : As.length = na) (hsize : ls.size = nL) (hst : st0 = As.reverse ++ .ref (ad o) :: rest) (hrm : (rest.map fun v => v.category).sum ≤ 8) (hf : cells ≤ R.cells ∧ slots ≤ R.slots) (hdg : decode cc pc = .ok (.invokevirtual index, 3))
    (kk : ∀ (H1 : Heap) (locs1 : List Loc), Wd D cy sh ad n (Aw ad n) s.heap res.1 H1 locs1 → W p l e R s m args below meth c H1 locs1 cells slots Q (F0 m (pc + 3) ls (.long res.2 :: rest))) : W p l e R s m args below meth c H locs cells slots Q (F0 m pc ls st0) := by
  refine va_calll (va_runV (As := As) (rest := rest) hF hM (cwV na hF.2.2.2.2 hG rfl hrc hrs ⟨hyc, hd⟩ hR) ⟨pre_blind, va_recv hK hw.1 hc (q0 := o) (by rw [cW_at ho.1, cE_obj ho.2 h8]), fun U hU hW => ⟨rfl, pre_at hZ hK hw hU hW⟩⟩ rfl hn hsize hst (lv_room hrm) hdg hf) hw.2.2 (fun q _ h => h) (fun q h => h) (fun r u t H1 locs1 ht hvm hp hB hz1 hk1 hS => ?_)
  obtain ⟨rfl, rfl⟩ := hp
  exact kk H1 locs1 ⟨by rw [← ht]; exact hB.1, hB.2.2.1, hS⟩
theorem r_callVv (hF : CallFix p m c cc nL s args Ts own) {o ci : Nat} {C : String} {T : u_T} {N : Nat} {res : Mm × Unit} (hM : Met l y (wU y bytes maxL ret) rm (va_Pc (.ref (ad o) :: As) (Pre D cy sh ad n adK adV M)) (va_Qv (fun (M2 : Mm) => M2 = res.1) (Pre D cy sh ad n adK adV) (Aw ad n)) 0 0 (Aw ad n)) (hG : GoodIn Ts (wsV own index C y (wU y bytes maxL ret))) (hd : y.cls ≠ "java/lang/invoke/MethodHandle" ∧ y.cls ≠ "java/lang/invoke/VarHandle" ∧ (parseMethodDescriptor y.desc).map (fun d => d.parameters.length) = some na) (hyc : y.cls = C) (hR : rm.frames + 1 ≤ R.frames ∧ 8 + (maxL + 11) + rm.locals ≤ R.locals) (hrc : rm.cells = 0) (hrs : rm.slots = 0) (hZ : Zs adK adV (Aw ad n) s) (hK : va_K D vwCl (tyW cy) s) (hw : Wd D cy sh ad n (Aw ad n) s.heap M H locs) (ho : ok n sh o ci) (h8 : ci < 8) (hc : vwCl[ci]? = some (C, T, N)) (hn : As.length = na) (hsize : ls.size = nL) (hst : st0 = As.reverse ++ .ref (ad o) :: rest) (hrm : (rest.map fun v => v.category).sum ≤ 8) (hf : cells ≤ R.cells ∧ slots ≤ R.slots) (hdg : decode cc pc = .ok (.invokevirtual index, 3))
    (kk : ∀ (H1 : Heap) (locs1 : List Loc), Wd D cy sh ad n (Aw ad n) s.heap res.1 H1 locs1 → W p l e R s m args below meth c H1 locs1 cells slots Q (F0 m (pc + 3) ls rest)) : W p l e R s m args below meth c H locs cells slots Q (F0 m pc ls st0) := by
  refine va_callv (va_runV (As := As) (rest := rest) hF hM (cwV na hF.2.2.2.2 hG rfl hrc hrs ⟨hyc, hd⟩ hR) ⟨pre_blind, va_recv hK hw.1 hc (q0 := o) (by rw [cW_at ho.1, cE_obj ho.2 h8]), fun U hU hW => ⟨rfl, pre_at hZ hK hw hU hW⟩⟩ rfl hn hsize hst (lv_room hrm) hdg hf) hw.2.2 (fun q _ h => h) (fun q h => h) (fun u t H1 locs1 ht hvm hp hB hz1 hk1 hS => ?_)
  subst hp
  exact kk H1 locs1 ⟨by rw [← ht]; exact hB.1, hB.2.2.1, hS⟩
theorem r_callSi (hF : CallFix p m c cc nL s args Ts own) {res : Mm × Int32} (hM : Met l y (wU y bytes maxL ret) rm (va_Pc As (Pre D cy sh ad n adK adV M)) (va_Qi (fun r (M2 : Mm) => r = res.2 ∧ M2 = res.1) (Pre D cy sh ad n adK adV) (Aw ad n)) 0 0 (Aw ad n)) (hG : GoodIn Ts (va_wsS own index y (wU y bytes maxL ret))) (hd : y.cls ≠ "java/lang/invoke/MethodHandle" ∧ y.cls ≠ "java/lang/invoke/VarHandle" ∧ (parseMethodDescriptor y.desc).map (fun d => d.parameters.length) = some na) (hR : rm.frames + 1 ≤ R.frames ∧ 8 + (maxL + 11) + rm.locals ≤ R.locals) (hrc : rm.cells = 0) (hrs : rm.slots = 0) (hZ : Zs adK adV (Aw ad n) s) (hK : va_K D vwCl (tyW cy) s) (hw : Wd D cy sh ad n (Aw ad n) s.heap M H locs) (hn : As.length = na) (hsize : ls.size = nL) (hst : st0 = As.reverse ++ rest) (hrm : (rest.map fun v => v.category).sum ≤ 8) (hf : cells ≤ R.cells ∧ slots ≤ R.slots) (hdg : decode cc pc = .ok (.invokestatic index, 3))
    (kk : ∀ (H1 : Heap) (locs1 : List Loc), Wd D cy sh ad n (Aw ad n) s.heap res.1 H1 locs1 → W p l e R s m args below meth c H1 locs1 cells slots Q (F0 m (pc + 3) ls (.int res.2 :: rest))) : W p l e R s m args below meth c H locs cells slots Q (F0 m pc ls st0) := by
  refine va_calli (va_runS (As := As) (rest := rest) hF hM (va_cwS na hF.2.2.2.2 hG rfl hrc hrs hd hR) ⟨pre_blind, fun U hU hW => ⟨rfl, pre_at hZ hK hw hU hW⟩⟩ rfl hn hsize hst (lv_room hrm) hdg hf) hw.2.2 (fun q _ h => h) (fun q h => h) (fun r u t H1 locs1 ht hvm hp hB hz1 hk1 hS => ?_)
  obtain ⟨rfl, rfl⟩ := hp
  exact kk H1 locs1 ⟨by rw [← ht]; exact hB.1, hB.2.2.1, hS⟩
theorem r_callSl (hF : CallFix p m c cc nL s args Ts own) {res : Mm × Int64} (hM : Met l y (wU y bytes maxL ret) rm (va_Pc As (Pre D cy sh ad n adK adV M)) (va_Ql (fun r (M2 : Mm) => r = res.2 ∧ M2 = res.1) (Pre D cy sh ad n adK adV) (Aw ad n)) 0 0 (Aw ad n)) (hG : GoodIn Ts (va_wsS own index y (wU y bytes maxL ret))) (hd : y.cls ≠ "java/lang/invoke/MethodHandle" ∧ y.cls ≠ "java/lang/invoke/VarHandle" ∧ (parseMethodDescriptor y.desc).map (fun d => d.parameters.length) = some na) (hR : rm.frames + 1 ≤ R.frames ∧ 8 + (maxL + 11) + rm.locals ≤ R.locals) (hrc : rm.cells = 0) (hrs : rm.slots = 0) (hZ : Zs adK adV (Aw ad n) s) (hK : va_K D vwCl (tyW cy) s) (hw : Wd D cy sh ad n (Aw ad n) s.heap M H locs) (hn : As.length = na) (hsize : ls.size = nL) (hst : st0 = As.reverse ++ rest) (hrm : (rest.map fun v => v.category).sum ≤ 8) (hf : cells ≤ R.cells ∧ slots ≤ R.slots) (hdg : decode cc pc = .ok (.invokestatic index, 3))
    (kk : ∀ (H1 : Heap) (locs1 : List Loc), Wd D cy sh ad n (Aw ad n) s.heap res.1 H1 locs1 → W p l e R s m args below meth c H1 locs1 cells slots Q (F0 m (pc + 3) ls (.long res.2 :: rest))) : W p l e R s m args below meth c H locs cells slots Q (F0 m pc ls st0) := by
  refine va_calll (va_runS (As := As) (rest := rest) hF hM (va_cwS na hF.2.2.2.2 hG rfl hrc hrs hd hR) ⟨pre_blind, fun U hU hW => ⟨rfl, pre_at hZ hK hw hU hW⟩⟩ rfl hn hsize hst (lv_room hrm) hdg hf) hw.2.2 (fun q _ h => h) (fun q h => h) (fun r u t H1 locs1 ht hvm hp hB hz1 hk1 hS => ?_)
  obtain ⟨rfl, rfl⟩ := hp
  exact kk H1 locs1 ⟨by rw [← ht]; exact hB.1, hB.2.2.1, hS⟩
theorem r_callSv (hF : CallFix p m c cc nL s args Ts own) {res : Mm × Unit} (hM : Met l y (wU y bytes maxL ret) rm (va_Pc As (Pre D cy sh ad n adK adV M)) (va_Qv (fun (M2 : Mm) => M2 = res.1) (Pre D cy sh ad n adK adV) (Aw ad n)) 0 0 (Aw ad n)) (hG : GoodIn Ts (va_wsS own index y (wU y bytes maxL ret))) (hd : y.cls ≠ "java/lang/invoke/MethodHandle" ∧ y.cls ≠ "java/lang/invoke/VarHandle" ∧ (parseMethodDescriptor y.desc).map (fun d => d.parameters.length) = some na) (hR : rm.frames + 1 ≤ R.frames ∧ 8 + (maxL + 11) + rm.locals ≤ R.locals) (hrc : rm.cells = 0) (hrs : rm.slots = 0) (hZ : Zs adK adV (Aw ad n) s) (hK : va_K D vwCl (tyW cy) s) (hw : Wd D cy sh ad n (Aw ad n) s.heap M H locs) (hn : As.length = na) (hsize : ls.size = nL) (hst : st0 = As.reverse ++ rest) (hrm : (rest.map fun v => v.category).sum ≤ 8) (hf : cells ≤ R.cells ∧ slots ≤ R.slots) (hdg : decode cc pc = .ok (.invokestatic index, 3))
    (kk : ∀ (H1 : Heap) (locs1 : List Loc), Wd D cy sh ad n (Aw ad n) s.heap res.1 H1 locs1 → W p l e R s m args below meth c H1 locs1 cells slots Q (F0 m (pc + 3) ls rest)) : W p l e R s m args below meth c H locs cells slots Q (F0 m pc ls st0) := by
  refine va_callv (va_runS (As := As) (rest := rest) hF hM (va_cwS na hF.2.2.2.2 hG rfl hrc hrs hd hR) ⟨pre_blind, fun U hU hW => ⟨rfl, pre_at hZ hK hw hU hW⟩⟩ rfl hn hsize hst (lv_room hrm) hdg hf) hw.2.2 (fun q _ h => h) (fun q h => h) (fun u t H1 locs1 ht hvm hp hB hz1 hk1 hS => ?_)
  subst hp
  exact kk H1 locs1 ⟨by rw [← ht]; exact hB.1, hB.2.2.1, hS⟩
theorem r_iret {v : Int32} {res : Mm × Int32} (hx : p.tables.exec = Jvm.exec) (hb : c.code = cc) {ty : FieldType} (hr : meth.sig.returnType = some ty) (hn : narrow ty (.int v) = .int v) (hlocks : meth.locks = false) (hZ : Zs adK adV (Aw ad n) s) (hK : va_K D vwCl (tyW cy) s) (hw : Wd D cy sh ad n (Aw ad n) s.heap M H locs) (h : some (M, v) = some res) (hdg : decode cc pc = .ok (.ireturn, 1)) : W p l e R s m args below meth c H locs 0 0 (MQ below (va_Qi (fun r (M2 : Mm) => r = res.2 ∧ M2 = res.1) (Pre D cy sh ad n adK adV) (Aw ad n)) args s 0 0 (Aw ad n)) (F0 m pc ls [.int v]) :=
  W.zret (v := v) hx hb hr hn (fun t ht hW => ⟨⟨v, M, rfl, ⟨congrArg Prod.snd (Option.some.inj h), congrArg Prod.fst (Option.some.inj h)⟩, pre_at hZ hK hw ht hW⟩, hw.2.2.F ht⟩) hw.2.2.2.2 hdg hlocks
theorem r_lret {v : Int64} {res : Mm × Int64} (hx : p.tables.exec = Jvm.exec) (hb : c.code = cc) (hr : meth.sig.returnType = some .long) (hlocks : meth.locks = false) (hZ : Zs adK adV (Aw ad n) s) (hK : va_K D vwCl (tyW cy) s) (hw : Wd D cy sh ad n (Aw ad n) s.heap M H locs) (h : some (M, v) = some res) (hdg : decode cc pc = .ok (.lreturn, 1)) : W p l e R s m args below meth c H locs 0 0 (MQ below (va_Ql (fun r (M2 : Mm) => r = res.2 ∧ M2 = res.1) (Pre D cy sh ad n adK adV) (Aw ad n)) args s 0 0 (Aw ad n)) (F0 m pc ls [.long v]) :=
  W.lret (v := v) hx hb hr (fun t ht hW => ⟨⟨v, M, rfl, ⟨congrArg Prod.snd (Option.some.inj h), congrArg Prod.fst (Option.some.inj h)⟩, pre_at hZ hK hw ht hW⟩, hw.2.2.F ht⟩) hw.2.2.2.2 hdg hlocks
theorem r_vret {res : Mm × Unit} (hx : p.tables.exec = Jvm.exec) (hb : c.code = cc) (hr : meth.sig.returnType = none) (hlocks : meth.locks = false) (hZ : Zs adK adV (Aw ad n) s) (hK : va_K D vwCl (tyW cy) s) (hw : Wd D cy sh ad n (Aw ad n) s.heap M H locs) (h : some (M, ()) = some res) (hdg : decode cc pc = .ok (.return_, 1)) : W p l e R s m args below meth c H locs 0 0 (MQ below (va_Qv (fun (M2 : Mm) => M2 = res.1) (Pre D cy sh ad n adK adV) (Aw ad n)) args s 0 0 (Aw ad n)) (F0 m pc ls []) :=
  W.vret hx hb hr (fun t ht hW => ⟨⟨M, rfl, congrArg Prod.fst (Option.some.inj h), pre_at hZ hK hw ht hW⟩, hw.2.2.F ht⟩) hw.2.2.2.2 hdg hlocks
end CC
theorem lt_at {α β : Type} {a x : α} {k : α → β} {r : β} (e : x = a) (h : lt a k = r) : k x = r := by
  subst e
  exact h
theorem nar_bz {v : Int32} (h : bz v) : narrow .boolean (.int v) = .int v := by
  rcases h with rfl | rfl <;> rfl
theorem fit_bz {v : Int32} (h : bz v) : fits .boolean (.int v) = true := by
  rcases h with rfl | rfl <;> rfl
abbrev QI (D : va_G) (cy : Nat → ClassId) (sh : Nat → Nat × Nat) (ad : Nat → Nat) (n : Nat) (adK adV : Nat → Nat) (below : List Frame) (args : Array Value) (s : State) (res : Mm × Int32) : State → Prop := MQ below (va_Qi (fun r (M2 : Mm) => r = res.2 ∧ M2 = res.1) (Pre D cy sh ad n adK adV) (Aw ad n)) args s 0 0 (Aw ad n)
abbrev QL (D : va_G) (cy : Nat → ClassId) (sh : Nat → Nat × Nat) (ad : Nat → Nat) (n : Nat) (adK adV : Nat → Nat) (below : List Frame) (args : Array Value) (s : State) (res : Mm × Int64) : State → Prop := MQ below (va_Ql (fun r (M2 : Mm) => r = res.2 ∧ M2 = res.1) (Pre D cy sh ad n adK adV) (Aw ad n)) args s 0 0 (Aw ad n)
abbrev QV (D : va_G) (cy : Nat → ClassId) (sh : Nat → Nat × Nat) (ad : Nat → Nat) (n : Nat) (adK adV : Nat → Nat) (below : List Frame) (args : Array Value) (s : State) (res : Mm × Unit) : State → Prop := MQ below (va_Qv (fun (M2 : Mm) => M2 = res.1) (Pre D cy sh ad n adK adV) (Aw ad n)) args s 0 0 (Aw ad n)
/-- the objects of the class's world, in the order in which they are made: kind, length -/
def tX : List (Nat × Nat) :=
  [(6, 0),
   (1, 0), (10, 6), (11, 8), (8, 10), (3, 0), (3, 0), (3, 0), (3, 0), (3, 0), (3, 0), (0, 0), (0, 0), (0, 0), (0, 0), (0, 0), (0, 0), (0, 0), (0, 0),
   (1, 0), (10, 6), (11, 8), (8, 10), (3, 0), (3, 0), (3, 0), (3, 0), (3, 0), (3, 0), (0, 0), (0, 0), (0, 0), (0, 0), (0, 0), (0, 0), (0, 0), (0, 0),
   (5, 0),
   (1, 0), (10, 6), (11, 8), (8, 10), (3, 0), (3, 0), (3, 0), (3, 0), (3, 0), (3, 0), (0, 0), (0, 0), (0, 0), (0, 0), (0, 0), (0, 0), (0, 0), (0, 0),
   (9, 6), (9, 6), (9, 8), (9, 8), (9, 6),
   (4, 0), (8, 120), (12, 4), (8, 7), (2, 0), (8, 40), (2, 0), (8, 40), (2, 0), (8, 40), (2, 0), (8, 40)]
def shX (o : Nat) : Nat × Nat := tX.getD o (99, 0)
abbrev nX : Nat := 73
def tM : List (Nat × Nat) :=
  [(7, 0), (8, 89), (8, 89), (8, 89), (8, 7), (8, 120), (9, 48), (9, 8), (9, 6), (9, 6), (8, 6), (9, 6), (8, 4), (9, 6), (8, 4), (8, 4), (8, 160), (8, 40)]
def shM (o : Nat) : Nat × Nat := tM.getD o (99, 0)
abbrev nM : Nat := 18
def cpI (M : Mm) (a0 a1 sp dp n : Nat) : Mm := (fun a b => if a = a1 then va_cpy (M.1 a0) (M.1 a1) sp dp n b else M.1 a b, M.2)
def cpL (M : Mm) (a0 a1 sp dp n : Nat) : Mm := (M.1, fun a b => if a = a1 then va_cpy (M.2.1 a0) (M.2.1 a1) sp dp n b else M.2.1 a b, M.2.2)
abbrev okC (n : Nat) (sh : Nat → Nat × Nat) (c a0 a1 : Nat) (sp dp k : Int32) : Prop := ok n sh a0 c ∧ ok n sh a1 c ∧ ¬ sp < 0 ∧ ¬ dp < 0 ∧ ¬ k < 0 ∧ sp.toNatClampNeg + k.toNatClampNeg ≤ (sh a0).2 ∧ dp.toNatClampNeg + k.toNatClampNeg ≤ (sh a1).2
section RC
variable {p : Program} {l : Launch} {e : Env} {R : Room} {s : State} {m : MethodId} {args : Array Value} {below : List Frame} {meth : Method} {c : Code} {H : Heap} {locs : List Loc} {cells slots : Nat} {Q : State → Prop}
variable {cc : ByteArray} {pc : Nat} {ls : Array Slot} {rest : List Value} {D : va_G} {A : Nat → Prop} {H0 : Heap}
variable {cy : Nat → ClassId} {sh : Nat → Nat × Nat} {ad : Nat → Nat} {n : Nat} {M : Mm}
theorem r_copyi (hexec : p.tables.exec = Jvm.exec) (hb : c.code = cc) (hml : c.maxLocals = ls.size) {own : String} {index : Nat} (hown : s.vm.findClass own = some m.cls) (hlink : (Cond.methodLink own index arraycopyName).before args s = true) (hnat : (Cond.native arraycopyName).before args s = true) (hstat : (Cond.static arraycopyName).before args s = true) (hini : (Cond.initialized "java/lang/System").before args s = true) (hK : va_K D vwCl (tyW cy) s) (hw : Wd D cy sh ad n A H0 M H locs) (a0 a1 : Nat) {sp dp k : Int32} (ho : okC n sh 8 a0 a1 sp dp k) (hframes : 1 ≤ R.frames) (hlocals : (rest.map fun v => v.category).sum + (nativeFrameWords "java/lang/System" "arraycopy" 5 + 11) ≤ R.locals) (hdg : decode cc pc = .ok (.invokestatic index, 3))
    (kk : ∀ (H1 : Heap) (locs1 : List Loc), Wd D cy sh ad n A H0 (cpI M a0 a1 sp.toNatClampNeg dp.toNatClampNeg k.toNatClampNeg) H1 locs1 → W p l e R s m args below meth c H1 locs1 cells slots Q (F0 m (pc + 3) ls rest)) : W p l e R s m args below meth c H locs cells slots Q (F0 m pc ls (.int k :: .int dp :: .ref (ad a1) :: .int sp :: .ref (ad a0) :: rest)) := by
  obtain ⟨h0, h1, h2, h3, h4, h5, h6⟩ := ho
  refine va_copyi hexec hb hml hown hlink hnat hstat hini hK hw.1 hw.2.1 hw.2.2 a0 a1 0 0 (by rw [cW_at h0.1, cE_int h0.2]) (by rw [cW_at h1.1, cE_int h1.2]) rfl rfl rfl h2 h3 h4 h5 h6 (fun _ _ => rfl) hframes hlocals hdg (fun H1 locs1 g1 g2 g3 => kk H1 locs1 ?_)
  have e : (cW cy sh ad n M).set a1 (ad a1, .inl (cy 0, (sh a1).2, .inl (va_cpy (M.1 a0) (M.1 a1) sp.toNatClampNeg dp.toNatClampNeg k.toNatClampNeg))) = cW cy sh ad n (cpI M a0 a1 sp.toNatClampNeg dp.toNatClampNeg k.toNatClampNeg) := by
    refine cW_set h1.1 ?_ (fun q hq => cE_cong (by funext j; simp [cpI, hq]) rfl rfl)
    rw [cE_int h1.2]
    have : (cpI M a0 a1 sp.toNatClampNeg dp.toNatClampNeg k.toNatClampNeg).1 a1 = va_cpy (M.1 a0) (M.1 a1) sp.toNatClampNeg dp.toNatClampNeg k.toNatClampNeg := by
      funext j
      simp [cpI]
    rw [this]
  rw [e] at g1 g2
  exact ⟨g1, g2, g3⟩
theorem r_copyl (hexec : p.tables.exec = Jvm.exec) (hb : c.code = cc) (hml : c.maxLocals = ls.size) {own : String} {index : Nat} (hown : s.vm.findClass own = some m.cls) (hlink : (Cond.methodLink own index arraycopyName).before args s = true) (hnat : (Cond.native arraycopyName).before args s = true) (hstat : (Cond.static arraycopyName).before args s = true) (hini : (Cond.initialized "java/lang/System").before args s = true) (hK : va_K D vwCl (tyW cy) s) (hw : Wd D cy sh ad n A H0 M H locs) (a0 a1 : Nat) {sp dp k : Int32} (ho : okC n sh 9 a0 a1 sp dp k) (hframes : 1 ≤ R.frames) (hlocals : (rest.map fun v => v.category).sum + (nativeFrameWords "java/lang/System" "arraycopy" 5 + 11) ≤ R.locals) (hdg : decode cc pc = .ok (.invokestatic index, 3))
    (kk : ∀ (H1 : Heap) (locs1 : List Loc), Wd D cy sh ad n A H0 (cpL M a0 a1 sp.toNatClampNeg dp.toNatClampNeg k.toNatClampNeg) H1 locs1 → W p l e R s m args below meth c H1 locs1 cells slots Q (F0 m (pc + 3) ls rest)) : W p l e R s m args below meth c H locs cells slots Q (F0 m pc ls (.int k :: .int dp :: .ref (ad a1) :: .int sp :: .ref (ad a0) :: rest)) := by
  obtain ⟨h0, h1, h2, h3, h4, h5, h6⟩ := ho
  refine va_copyl hexec hb hml hown hlink hnat hstat hini hK hw.1 hw.2.1 hw.2.2 a0 a1 1 1 (by rw [cW_at h0.1, cE_long h0.2]) (by rw [cW_at h1.1, cE_long h1.2]) rfl rfl rfl h2 h3 h4 h5 h6 (fun _ _ => rfl) hframes hlocals hdg (fun H1 locs1 g1 g2 g3 => kk H1 locs1 ?_)
  have e : (cW cy sh ad n M).set a1 (ad a1, .inl (cy 1, (sh a1).2, .inr (.inl (va_cpy (M.2.1 a0) (M.2.1 a1) sp.toNatClampNeg dp.toNatClampNeg k.toNatClampNeg)))) = cW cy sh ad n (cpL M a0 a1 sp.toNatClampNeg dp.toNatClampNeg k.toNatClampNeg) := by
    refine cW_set h1.1 ?_ (fun q hq => cE_cong rfl (by funext j; simp [cpL, hq]) rfl)
    rw [cE_long h1.2]
    have : (cpL M a0 a1 sp.toNatClampNeg dp.toNatClampNeg k.toNatClampNeg).2.1 a1 = va_cpy (M.2.1 a0) (M.2.1 a1) sp.toNatClampNeg dp.toNatClampNeg k.toNatClampNeg := by
      funext j
      simp [cpL]
    rw [this]
  rw [e] at g1 g2
  exact ⟨g1, g2, g3⟩
end RC

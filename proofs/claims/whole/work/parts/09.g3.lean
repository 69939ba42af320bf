/-! ===== the law's frame: two worlds side by side, and the script ===== -/
def Nw (s : State) : Nat → Prop := fun q => s.heap.size ≤ q
def LF (D : va_G) (cy : Nat → ClassId) (adX adM adK adV : Nat → Nat) (b : Nat) (s : State) : Prop := (∀ o q, o < nX → q < nX → adX o = adX q → o = q) ∧ (∀ o q, o < nM → q < nM → adM o = adM q → o = q) ∧ (∀ o q, o < nX → q < nM → adX o ≠ adM q) ∧ (∀ o, o < nX → s.heap.size ≤ adX o) ∧ (∀ o, o < nM → s.heap.size ≤ adM o) ∧ b < s.heap.size ∧ va_K D vwCl (tyW cy) s ∧ Zs adK adV (Nw s) s
def LW (D : va_G) (cy : Nat → ClassId) (adX adM : Nat → Nat) (b L : Nat) (xs : Nat → Int32) (s : State) (MX MY : Mm) (H : Heap) (locs : List Loc) : Prop := va_P D vwCl (cW cy shX adX nX MX) H ∧ va_P D vwCl (cW cy shM adM nM MY) H ∧ va_X b L xs s H ∧ va_S (Nw s) s.heap H locs
section LL
variable {p : Program} {l : Launch} {e : Env} {R : Room} {s U : State} {m : MethodId} {args : Array Value} {below : List Frame} {meth : Method} {c : Code} {H : Heap} {locs : List Loc} {cells slots : Nat} {Q : State → Prop}
variable {cc : ByteArray} {pc : Nat} {ls : Array Slot} {rest st0 : List Value} {D : va_G}
variable {cy : Nat → ClassId} {adX adM adK adV : Nat → Nat} {b L : Nat} {xs : Nat → Int32} {MX MY : Mm}
variable {y : MethodName} {bytes : ByteArray} {maxL nL na index : Nat} {ret : Option FieldType} {rm : Room} {Ts : List Cond} {own : String} {As : List Value}
theorem l_preX (hF : LF D cy adX adM adK adV b s) (hw : LW D cy adX adM b L xs s MX MY H locs) (hU : U.heap = H) (hW : s.WarmedH U.vm) : Pre D cy shX adX nX adK adV MX U := by
  obtain ⟨f1, f2, f3, f4, f5, f6, f7, f8⟩ := hF
  refine ⟨by rw [hU]; exact hw.1, va_K.moved hW.alike f7, wD_iff.mpr ⟨f1, fun o ho => ⟨o, ho, rfl⟩⟩, (f8.at hW (fun q h1 h2 => by rw [hU]; exact hw.2.2.2.2.1 q h1 h2)).narrow (fun q hq => ?_)⟩
  obtain ⟨o, ho, rfl⟩ := hq
  exact f4 o ho
theorem l_preM (hF : LF D cy adX adM adK adV b s) (hw : LW D cy adX adM b L xs s MX MY H locs) (hU : U.heap = H) (hW : s.WarmedH U.vm) : Pre D cy shM adM nM adK adV MY U := by
  obtain ⟨f1, f2, f3, f4, f5, f6, f7, f8⟩ := hF
  refine ⟨by rw [hU]; exact hw.2.1, va_K.moved hW.alike f7, wD_iff.mpr ⟨f2, fun o ho => ⟨o, ho, rfl⟩⟩, (f8.at hW (fun q h1 h2 => by rw [hU]; exact hw.2.2.2.2.1 q h1 h2)).narrow (fun q hq => ?_)⟩
  obtain ⟨o, ho, rfl⟩ := hq
  exact f5 o ho
theorem l_stepX {MX' : Mm} {H1 : Heap} {locs1 : List Loc} (hF : LF D cy adX adM adK adV b s) (hw : LW D cy adX adM b L xs s MX MY H locs) (hB : va_P D vwCl (cW cy shX adX nX MX') H1) (hk : ∀ q : Nat, q < H.size → ¬ Aw adX nX q → H1[q]? = H[q]?) (hS : va_S (Nw s) s.heap H1 locs1) : LW D cy adX adM b L xs s MX' MY H1 locs1 := by
  obtain ⟨f1, f2, f3, f4, f5, f6, f7, f8⟩ := hF
  obtain ⟨w1, w2, w3, w4⟩ := hw
  refine ⟨hB, w2.kept (fun k x hx => ?_), w3.kept (hk b (Nat.lt_of_lt_of_le f6 w4.1) (fun z => ?_)), hS⟩
  · have hlt := (w2 k x hx).lt
    obtain ⟨o, ho, rfl⟩ := cW_mem.mp (List.mem_of_getElem? hx)
    refine hk _ hlt (fun z => ?_)
    obtain ⟨q, hq, z⟩ := z
    exact f3 q o hq ho z.symm
  · obtain ⟨q, hq, z⟩ := z
    have := f4 q hq
    omega
theorem l_stepM {MY' : Mm} {H1 : Heap} {locs1 : List Loc} (hF : LF D cy adX adM adK adV b s) (hw : LW D cy adX adM b L xs s MX MY H locs) (hB : va_P D vwCl (cW cy shM adM nM MY') H1) (hk : ∀ q : Nat, q < H.size → ¬ Aw adM nM q → H1[q]? = H[q]?) (hS : va_S (Nw s) s.heap H1 locs1) : LW D cy adX adM b L xs s MX MY' H1 locs1 := by
  obtain ⟨f1, f2, f3, f4, f5, f6, f7, f8⟩ := hF
  obtain ⟨w1, w2, w3, w4⟩ := hw
  refine ⟨w1.kept (fun k x hx => ?_), hB, w3.kept (hk b (Nat.lt_of_lt_of_le f6 w4.1) (fun z => ?_)), hS⟩
  · have hlt := (w1 k x hx).lt
    obtain ⟨o, ho, rfl⟩ := cW_mem.mp (List.mem_of_getElem? hx)
    refine hk _ hlt (fun z => ?_)
    obtain ⟨q, hq, z⟩ := z
    exact f3 o q ho hq z
  · obtain ⟨q, hq, z⟩ := z
    have := f5 q hq
    omega
theorem l_callXi (hC : CallFix p m c cc nL s args Ts own) (hF : LF D cy adX adM adK adV b s) (hw : LW D cy adX adM b L xs s MX MY H locs) {C : String} {T : u_T} {N : Nat} {res : Mm × Int32} (hM : Met l y (wU y bytes maxL ret) rm (va_Pc (.ref (adX 0) :: As) (Pre D cy shX adX nX adK adV MX)) (va_Qi (fun r (M2 : Mm) => r = res.2 ∧ M2 = res.1) (Pre D cy shX adX nX adK adV) (Aw adX nX)) 0 0 (Aw adX nX)) (hG : GoodIn Ts (wsV own index C y (wU y bytes maxL ret))) (hd : y.cls ≠ "java/lang/invoke/MethodHandle" ∧ y.cls ≠ "java/lang/invoke/VarHandle" ∧ (parseMethodDescriptor y.desc).map (fun d => d.parameters.length) = some na) (hyc : y.cls = C) (hR : rm.frames + 1 ≤ R.frames ∧ 8 + (maxL + 11) + rm.locals ≤ R.locals) (hrc : rm.cells = 0) (hrs : rm.slots = 0) (hc : vwCl[6]? = some (C, T, N)) (hn : As.length = na) (hsize : ls.size = nL) (hst : st0 = As.reverse ++ .ref (adX 0) :: rest) (hrm : (rest.map fun v => v.category).sum ≤ 8) (hf : cells ≤ R.cells ∧ slots ≤ R.slots) (hdg : decode cc pc = .ok (.invokevirtual index, 3))
    (kk : ∀ (H1 : Heap) (locs1 : List Loc), LW D cy adX adM b L xs s res.1 MY H1 locs1 → W p l e R s m args below meth c H1 locs1 cells slots Q (F0 m (pc + 3) ls (.int res.2 :: rest))) : W p l e R s m args below meth c H locs cells slots Q (F0 m pc ls st0) := by
  refine va_calli (va_runV (As := As) (rest := rest) hC hM (cwV na hC.2.2.2.2 hG rfl hrc hrs ⟨hyc, hd⟩ hR) ⟨pre_blind, va_recv hF.2.2.2.2.2.2.1 hw.1 hc (q0 := 0) (by rw [cW_at (by decide), cE_obj (show (shX 0).1 = 6 from rfl) (by decide)]), fun U hU hW => ⟨rfl, l_preX hF hw hU hW⟩⟩ rfl hn hsize hst (lv_room hrm) hdg hf) hw.2.2.2 (fun q _ h => ?_) (fun q h => ?_) (fun r u t H1 locs1 ht hvm hp hB hz1 hk1 hS => ?_)
  · obtain ⟨o, ho, rfl⟩ := h
    exact hF.2.2.2.1 o ho
  · obtain ⟨o, ho, rfl⟩ := h
    exact hF.2.2.2.1 o ho
  · obtain ⟨rfl, rfl⟩ := hp
    exact kk H1 locs1 (l_stepX hF hw (by rw [← ht]; exact hB.1) hk1 hS)
theorem l_callMi (hC : CallFix p m c cc nL s args Ts own) (hF : LF D cy adX adM adK adV b s) (hw : LW D cy adX adM b L xs s MX MY H locs) {C : String} {T : u_T} {N : Nat} {res : Mm × Int32} (hM : Met l y (wU y bytes maxL ret) rm (va_Pc (.ref (adM 0) :: As) (Pre D cy shM adM nM adK adV MY)) (va_Qi (fun r (M2 : Mm) => r = res.2 ∧ M2 = res.1) (Pre D cy shM adM nM adK adV) (Aw adM nM)) 0 0 (Aw adM nM)) (hG : GoodIn Ts (wsV own index C y (wU y bytes maxL ret))) (hd : y.cls ≠ "java/lang/invoke/MethodHandle" ∧ y.cls ≠ "java/lang/invoke/VarHandle" ∧ (parseMethodDescriptor y.desc).map (fun d => d.parameters.length) = some na) (hyc : y.cls = C) (hR : rm.frames + 1 ≤ R.frames ∧ 8 + (maxL + 11) + rm.locals ≤ R.locals) (hrc : rm.cells = 0) (hrs : rm.slots = 0) (hc : vwCl[7]? = some (C, T, N)) (hn : As.length = na) (hsize : ls.size = nL) (hst : st0 = As.reverse ++ .ref (adM 0) :: rest) (hrm : (rest.map fun v => v.category).sum ≤ 8) (hf : cells ≤ R.cells ∧ slots ≤ R.slots) (hdg : decode cc pc = .ok (.invokevirtual index, 3))
    (kk : ∀ (H1 : Heap) (locs1 : List Loc), LW D cy adX adM b L xs s MX res.1 H1 locs1 → W p l e R s m args below meth c H1 locs1 cells slots Q (F0 m (pc + 3) ls (.int res.2 :: rest))) : W p l e R s m args below meth c H locs cells slots Q (F0 m pc ls st0) := by
  refine va_calli (va_runV (As := As) (rest := rest) hC hM (cwV na hC.2.2.2.2 hG rfl hrc hrs ⟨hyc, hd⟩ hR) ⟨pre_blind, va_recv hF.2.2.2.2.2.2.1 hw.2.1 hc (q0 := 0) (by rw [cW_at (by decide), cE_obj (show (shM 0).1 = 7 from rfl) (by decide)]), fun U hU hW => ⟨rfl, l_preM hF hw hU hW⟩⟩ rfl hn hsize hst (lv_room hrm) hdg hf) hw.2.2.2 (fun q _ h => ?_) (fun q h => ?_) (fun r u t H1 locs1 ht hvm hp hB hz1 hk1 hS => ?_)
  · obtain ⟨o, ho, rfl⟩ := h
    exact hF.2.2.2.2.1 o ho
  · obtain ⟨o, ho, rfl⟩ := h
    exact hF.2.2.2.2.1 o ho
  · obtain ⟨rfl, rfl⟩ := hp
    exact kk H1 locs1 (l_stepM hF hw (by rw [← ht]; exact hB.1) hk1 hS)
theorem l_callXl (hC : CallFix p m c cc nL s args Ts own) (hF : LF D cy adX adM adK adV b s) (hw : LW D cy adX adM b L xs s MX MY H locs) {C : String} {T : u_T} {N : Nat} {res : Mm × Int64} (hM : Met l y (wU y bytes maxL ret) rm (va_Pc (.ref (adX 0) :: As) (Pre D cy shX adX nX adK adV MX)) (va_Ql (fun r (M2 : Mm) => r = res.2 ∧ M2 = res.1) (Pre D cy shX adX nX adK adV) (Aw adX nX)) 0 0 (Aw adX nX)) (hG : GoodIn Ts (wsV own index C y (wU y bytes maxL ret))) (hd : y.cls ≠ "java/lang/invoke/MethodHandle" ∧ y.cls ≠ "java/lang/invoke/VarHandle" ∧ (parseMethodDescriptor y.desc).map (fun d => d.parameters.length) = some na) (hyc : y.cls = C) (hR : rm.frames + 1 ≤ R.frames ∧ 8 + (maxL + 11) + rm.locals ≤ R.locals) (hrc : rm.cells = 0) (hrs : rm.slots = 0) (hc : vwCl[6]? = some (C, T, N)) (hn : As.length = na) (hsize : ls.size = nL) (hst : st0 = As.reverse ++ .ref (adX 0) :: rest) (hrm : (rest.map fun v => v.category).sum ≤ 8) (hf : cells ≤ R.cells ∧ slots ≤ R.slots) (hdg : decode cc pc = .ok (.invokevirtual index, 3))
    (kk : ∀ (H1 : Heap) (locs1 : List Loc), LW D cy adX adM b L xs s res.1 MY H1 locs1 → W p l e R s m args below meth c H1 locs1 cells slots Q (F0 m (pc + 3) ls (.long res.2 :: rest))) : W p l e R s m args below meth c H locs cells slots Q (F0 m pc ls st0) := by
  refine va_calll (va_runV (As := As) (rest := rest) hC hM (cwV na hC.2.2.2.2 hG rfl hrc hrs ⟨hyc, hd⟩ hR) ⟨pre_blind, va_recv hF.2.2.2.2.2.2.1 hw.1 hc (q0 := 0) (by rw [cW_at (by decide), cE_obj (show (shX 0).1 = 6 from rfl) (by decide)]), fun U hU hW => ⟨rfl, l_preX hF hw hU hW⟩⟩ rfl hn hsize hst (lv_room hrm) hdg hf) hw.2.2.2 (fun q _ h => ?_) (fun q h => ?_) (fun r u t H1 locs1 ht hvm hp hB hz1 hk1 hS => ?_)
  · obtain ⟨o, ho, rfl⟩ := h
    exact hF.2.2.2.1 o ho
  · obtain ⟨o, ho, rfl⟩ := h
    exact hF.2.2.2.1 o ho
  · obtain ⟨rfl, rfl⟩ := hp
    exact kk H1 locs1 (l_stepX hF hw (by rw [← ht]; exact hB.1) hk1 hS)
theorem l_callMl (hC : CallFix p m c cc nL s args Ts own) (hF : LF D cy adX adM adK adV b s) (hw : LW D cy adX adM b L xs s MX MY H locs) {C : String} {T : u_T} {N : Nat} {res : Mm × Int64} (hM : Met l y (wU y bytes maxL ret) rm (va_Pc (.ref (adM 0) :: As) (Pre D cy shM adM nM adK adV MY)) (va_Ql (fun r (M2 : Mm) => r = res.2 ∧ M2 = res.1) (Pre D cy shM adM nM adK adV) (Aw adM nM)) 0 0 (Aw adM nM)) (hG : GoodIn Ts (wsV own index C y (wU y bytes maxL ret))) (hd : y.cls ≠ "java/lang/invoke/MethodHandle" ∧ y.cls ≠ "java/lang/invoke/VarHandle" ∧ (parseMethodDescriptor y.desc).map (fun d => d.parameters.length) = some na) (hyc : y.cls = C) (hR : rm.frames + 1 ≤ R.frames ∧ 8 + (maxL + 11) + rm.locals ≤ R.locals) (hrc : rm.cells = 0) (hrs : rm.slots = 0) (hc : vwCl[7]? = some (C, T, N)) (hn : As.length = na) (hsize : ls.size = nL) (hst : st0 = As.reverse ++ .ref (adM 0) :: rest) (hrm : (rest.map fun v => v.category).sum ≤ 8) (hf : cells ≤ R.cells ∧ slots ≤ R.slots) (hdg : decode cc pc = .ok (.invokevirtual index, 3))
    (kk : ∀ (H1 : Heap) (locs1 : List Loc), LW D cy adX adM b L xs s MX res.1 H1 locs1 → W p l e R s m args below meth c H1 locs1 cells slots Q (F0 m (pc + 3) ls (.long res.2 :: rest))) : W p l e R s m args below meth c H locs cells slots Q (F0 m pc ls st0) := by
  refine va_calll (va_runV (As := As) (rest := rest) hC hM (cwV na hC.2.2.2.2 hG rfl hrc hrs ⟨hyc, hd⟩ hR) ⟨pre_blind, va_recv hF.2.2.2.2.2.2.1 hw.2.1 hc (q0 := 0) (by rw [cW_at (by decide), cE_obj (show (shM 0).1 = 7 from rfl) (by decide)]), fun U hU hW => ⟨rfl, l_preM hF hw hU hW⟩⟩ rfl hn hsize hst (lv_room hrm) hdg hf) hw.2.2.2 (fun q _ h => ?_) (fun q h => ?_) (fun r u t H1 locs1 ht hvm hp hB hz1 hk1 hS => ?_)
  · obtain ⟨o, ho, rfl⟩ := h
    exact hF.2.2.2.2.1 o ho
  · obtain ⟨o, ho, rfl⟩ := h
    exact hF.2.2.2.2.1 o ho
  · obtain ⟨rfl, rfl⟩ := hp
    exact kk H1 locs1 (l_stepM hF hw (by rw [← ht]; exact hB.1) hk1 hS)
end LL

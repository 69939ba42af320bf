theorem dX1_forceOf_0 : decode cX1_forceOf 0 = .ok (.aload_n 0, 1) := by decide +kernel
theorem dX1_forceOf_1 : decode cX1_forceOf 1 = .ok (.getfield 11, 3) := by decide +kernel
theorem dX1_forceOf_4 : decode cX1_forceOf 4 = .ok (.iload_n 1, 1) := by decide +kernel
theorem dX1_forceOf_5 : decode cX1_forceOf 5 = .ok (.aaload, 1) := by decide +kernel
theorem dX1_forceOf_6 : decode cX1_forceOf 6 = .ok (.getfield 73, 3) := by decide +kernel
theorem dX1_forceOf_9 : decode cX1_forceOf 9 = .ok (.aload_n 0, 1) := by decide +kernel
theorem dX1_forceOf_10 : decode cX1_forceOf 10 = .ok (.getfield 11, 3) := by decide +kernel
theorem dX1_forceOf_13 : decode cX1_forceOf 13 = .ok (.iload_n 1, 1) := by decide +kernel
theorem dX1_forceOf_14 : decode cX1_forceOf 14 = .ok (.aaload, 1) := by decide +kernel
theorem dX1_forceOf_15 : decode cX1_forceOf 15 = .ok (.getfield 111, 3) := by decide +kernel
theorem dX1_forceOf_18 : decode cX1_forceOf 18 = .ok (.ifCond .eq 7, 3) := by decide +kernel
theorem dX1_forceOf_21 : decode cX1_forceOf 21 = .ok (.iconst 1, 1) := by decide +kernel
theorem dX1_forceOf_22 : decode cX1_forceOf 22 = .ok (.goto 4, 3) := by decide +kernel
theorem dX1_forceOf_25 : decode cX1_forceOf 25 = .ok (.iconst 0, 1) := by decide +kernel
theorem dX1_forceOf_26 : decode cX1_forceOf 26 = .ok (.isub, 1) := by decide +kernel
theorem dX1_forceOf_27 : decode cX1_forceOf 27 = .ok (.istore_n 3, 1) := by decide +kernel
theorem dX1_forceOf_28 : decode cX1_forceOf 28 = .ok (.iload_n 3, 1) := by decide +kernel
theorem dX1_forceOf_29 : decode cX1_forceOf 29 = .ok (.iconst 1, 1) := by decide +kernel
theorem dX1_forceOf_30 : decode cX1_forceOf 30 = .ok (.invokestatic 115, 3) := by decide +kernel
theorem dX1_forceOf_33 : decode cX1_forceOf 33 = .ok (.iload_n 2, 1) := by decide +kernel
theorem dX1_forceOf_34 : decode cX1_forceOf 34 = .ok (.imul, 1) := by decide +kernel
theorem dX1_forceOf_35 : decode cX1_forceOf 35 = .ok (.ireturn, 1) := by decide +kernel
set_option maxHeartbeats 4000000 in
set_option maxRecDepth 100000 in
theorem c_X1_forceOf (l : Launch) (D : va_G) (cy : Nat → ClassId) (ad adK adV : Nat → Nat) (M : Mm) (o0 : Nat) (a1 : Int32) (a2 : Int32) (res : Mm × Int32) (h : f_X1_forceOf M o0 a1 a2 = some res) : Met l yX1_forceOf (wU yX1_forceOf cX1_forceOf 4 (some .int)) rmX1_forceOf (va_Pc [.ref (ad o0), .int a1, .int a2] (Pre D cy shX ad nX adK adV M)) (va_Qi (fun r (M2 : Mm) => r = res.2 ∧ M2 = res.1) (Pre D cy shX ad nX adK adV) (Aw ad nX)) 0 0 (Aw ad nX) := by
  refine Met.ofW (cc := cX1_forceOf) (maxL := 4) (ret := (some .int)) (by decide) rfl ?_
  intro p e s m args below meth c s₁ B hml hv
  obtain ⟨hargs, hPre⟩ := hv
  have hx := B.exec
  have hb := B.bytes
  have hr := B.returns
  have hts := atoms_spec (ws := wU yX1_forceOf cX1_forceOf 4 (some .int)) B.pre
  have hq : ∀ w ∈ gW, w.before args s = true := fun w hw => hts w (List.mem_cons_of_mem _ hw)
  have hcm : ∀ w ∈ gW, w ∈ wU yX1_forceOf cX1_forceOf 4 (some .int) := fun w hw => List.mem_cons_of_mem _ hw
  have hown : s.vm.findClass RX1 = some m.cls := findClass_of_methodNamed B.named
  have hlocks := B.notSynchronized
  have hF : CallFix p m c cX1_forceOf 4 s args (wU yX1_forceOf cX1_forceOf 4 (some .int)) RX1 := ⟨hx, hb, hml, hown, hts⟩
  have hK := hPre.2.1
  have hZ := hPre.2.2.2
  have hw : Wd D cy shX ad nX (Aw ad nX) s.heap M s.heap [] := ⟨hPre.1, hPre.2.2.1, va_S.rf⟩
  have iw1 : ∀ w ∈ u_ws RX1 TX1 11, w ∈ wU yX1_forceOf cX1_forceOf 4 (some .int) := fun w hw => List.mem_cons_of_mem _ (iX1 w hw)
  have iw3 : ∀ w ∈ u_ws RX3 TX3 6, w ∈ wU yX1_forceOf cX1_forceOf 4 (some .int) := fun w hw => List.mem_cons_of_mem _ (iX3 w hw)
  rw [show entryFrame m args 4 = entryFrame m ([.ref (ad o0), .int a1, .int a2] : List Value).toArray 4 from by rw [hargs]]
  have hl := lv_entry ([.ref (ad o0), .int a1, .int a2]) (n := 4) (Nat.le_of_ble_eq_true rfl)
  rw [lg_entry_eq]
  generalize (lg_sl ([.ref (ad o0), .int a1, .int a2]) ++ List.replicate (4 - (lg_sl ([.ref (ad o0), .int a1, .int a2])).length) Slot.unset).toArray = ls at hl ⊢
  have hl : lv_has ls 4 [(0, .ref (ad o0)), (1, .int a1), (2, .int a2)] := hl
  have hb26 : ∀ (M : Mm) (x2 : Int32) (t0 : Int32) (t1 : Int32), f_X1_forceOf_b26 M x2 t0 t1 = some res → ∀ (H : Heap) (locs : List Loc) (ls : Array Slot), Wd D cy shX ad nX (Aw ad nX) s.heap M H locs → lv_has ls 4 [(2, .int x2)] → W p l e (headSpec (wU yX1_forceOf cX1_forceOf 4 (some .int)) rmX1_forceOf).room s m args below meth c H locs 0 0 (QI D cy shX ad nX adK adV below args s res) (F0 m 26 ls [.int t1, .int t0]) := by
    intro M x2 t0 t1 h H locs ls hw hl
    unfold f_X1_forceOf_b26 at h
    refine lv_isub hx hb dX1_forceOf_26 ?_
    refine lv_istore_n (lv' := [(3, .int (t0 - t1)), (2, .int x2)]) hx hb dX1_forceOf_27 rfl hl (by decide) rfl (fun ls hl => ?_)
    refine lv_iload_n hx hb dX1_forceOf_28 rfl (lv_at hl 0 rfl) ?_
    refine lv_iconst (v := (1 : Int32)) hx hb dX1_forceOf_29 (by decide) ?_
    refine va_mmax hx hb (hml.trans hl.1.symm) hown (hq _ qw611) (hq _ qw612) (hq _ qw70) (hq _ qw613) (Nat.le_of_ble_eq_true rfl) (Nat.le_of_ble_eq_true rfl) (Nat.zero_le _) (Nat.zero_le _) dX1_forceOf_30 ?_
    refine lv_iload_n hx hb dX1_forceOf_33 rfl (lv_at hl 1 rfl) ?_
    refine lv_imul hx hb dX1_forceOf_34 ?_
    exact r_iret hx hb hr rfl hlocks hZ hK hw h dX1_forceOf_35
  unfold f_X1_forceOf at h
  refine lv_aload_n hx hb dX1_forceOf_0 rfl (lv_at hl 0 rfl) ?_
  replace h := gd_some h
  obtain ⟨g1, h⟩ := h
  replace h := bd_some h
  obtain ⟨q2, eq2, h⟩ := h
  refine r_getR hx hb hts iw1 hown hK hw o0 0 g1 (by decide) rfl (by decide) rfl (hq _ qw182) (fun _ h9 => h9) dX1_forceOf_1 eq2 ?_
  refine lv_iload_n hx hb dX1_forceOf_4 rfl (lv_at hl 1 rfl) ?_
  replace h := gd_some h
  obtain ⟨g3, h⟩ := h
  replace h := bd_some h
  obtain ⟨q4, eq4, h⟩ := h
  refine r_aald hx hb hK hw q2 2 (by decide) rfl g3 dX1_forceOf_5 eq4 ?_
  replace h := gd_some h
  obtain ⟨g5, h⟩ := h
  refine r_getI hx hb hts iw3 hown hK hw q4 1 g5 (by decide) rfl (by decide) rfl (hq _ qw103) (fun _ h9 => h9) dX1_forceOf_6 ?_
  refine lv_aload_n hx hb dX1_forceOf_9 rfl (lv_at hl 0 rfl) ?_
  replace h := bd_some h
  obtain ⟨q6, eq6, h⟩ := h
  refine r_getR hx hb hts iw1 hown hK hw o0 0 g1 (by decide) rfl (by decide) rfl (hq _ qw182) (fun _ h9 => h9) dX1_forceOf_10 eq6 ?_
  refine lv_iload_n hx hb dX1_forceOf_13 rfl (lv_at hl 1 rfl) ?_
  replace h := gd_some h
  obtain ⟨g7, h⟩ := h
  replace h := bd_some h
  obtain ⟨q8, eq8, h⟩ := h
  refine r_aald hx hb hK hw q6 2 (by decide) rfl g7 dX1_forceOf_14 eq8 ?_
  replace h := gd_some h
  obtain ⟨g9, h⟩ := h
  refine r_getI hx hb hts iw3 hown hK hw q8 5 g9 (by decide) rfl (by decide) rfl (hq _ qw115) (fun _ h9 => h9) dX1_forceOf_15 ?_
  refine lv_if_eq (tgt := 25) hx hb dX1_forceOf_18 (by decide) (fun c10 => ?_) (fun c10 => ?_)
  · replace h := if_some_t c10 h
    refine lv_iconst (v := (0 : Int32)) hx hb dX1_forceOf_25 (by decide) ?_
    exact hb26 _ _ _ _ h _ _ _ hw (lv_sub hl [2] rfl)
  · replace h := if_some_f c10 h
    refine lv_iconst (v := (1 : Int32)) hx hb dX1_forceOf_21 (by decide) ?_
    refine lv_goto (tgt := 26) hx hb dX1_forceOf_22 (by decide) ?_
    exact hb26 _ _ _ _ h _ _ _ hw (lv_sub hl [2] rfl)
theorem dX1_chanceOfFirst_0 : decode cX1_chanceOfFirst 0 = .ok (.aload_n 0, 1) := by decide +kernel
theorem dX1_chanceOfFirst_1 : decode cX1_chanceOfFirst 1 = .ok (.aload_n 0, 1) := by decide +kernel
theorem dX1_chanceOfFirst_2 : decode cX1_chanceOfFirst 2 = .ok (.getfield 19, 3) := by decide +kernel
theorem dX1_chanceOfFirst_5 : decode cX1_chanceOfFirst 5 = .ok (.aload_n 0, 1) := by decide +kernel
theorem dX1_chanceOfFirst_6 : decode cX1_chanceOfFirst 6 = .ok (.getfield 34, 3) := by decide +kernel
theorem dX1_chanceOfFirst_9 : decode cX1_chanceOfFirst 9 = .ok (.aaload, 1) := by decide +kernel
theorem dX1_chanceOfFirst_10 : decode cX1_chanceOfFirst 10 = .ok (.getfield 79, 3) := by decide +kernel
theorem dX1_chanceOfFirst_13 : decode cX1_chanceOfFirst 13 = .ok (.iload_n 1, 1) := by decide +kernel
theorem dX1_chanceOfFirst_14 : decode cX1_chanceOfFirst 14 = .ok (.invokevirtual 118, 3) := by decide +kernel
theorem dX1_chanceOfFirst_17 : decode cX1_chanceOfFirst 17 = .ok (.istore_n 3, 1) := by decide +kernel
theorem dX1_chanceOfFirst_18 : decode cX1_chanceOfFirst 18 = .ok (.iload_n 3, 1) := by decide +kernel
theorem dX1_chanceOfFirst_19 : decode cX1_chanceOfFirst 19 = .ok (.aload_n 0, 1) := by decide +kernel
theorem dX1_chanceOfFirst_20 : decode cX1_chanceOfFirst 20 = .ok (.aload_n 0, 1) := by decide +kernel
theorem dX1_chanceOfFirst_21 : decode cX1_chanceOfFirst 21 = .ok (.getfield 19, 3) := by decide +kernel
theorem dX1_chanceOfFirst_24 : decode cX1_chanceOfFirst 24 = .ok (.aload_n 0, 1) := by decide +kernel
theorem dX1_chanceOfFirst_25 : decode cX1_chanceOfFirst 25 = .ok (.getfield 34, 3) := by decide +kernel
theorem dX1_chanceOfFirst_28 : decode cX1_chanceOfFirst 28 = .ok (.aaload, 1) := by decide +kernel
theorem dX1_chanceOfFirst_29 : decode cX1_chanceOfFirst 29 = .ok (.getfield 82, 3) := by decide +kernel
theorem dX1_chanceOfFirst_32 : decode cX1_chanceOfFirst 32 = .ok (.iload_n 2, 1) := by decide +kernel
theorem dX1_chanceOfFirst_33 : decode cX1_chanceOfFirst 33 = .ok (.invokevirtual 118, 3) := by decide +kernel
theorem dX1_chanceOfFirst_36 : decode cX1_chanceOfFirst 36 = .ok (.iadd, 1) := by decide +kernel
theorem dX1_chanceOfFirst_37 : decode cX1_chanceOfFirst 37 = .ok (.istore 4, 2) := by decide +kernel
theorem dX1_chanceOfFirst_39 : decode cX1_chanceOfFirst 39 = .ok (.iload 4, 2) := by decide +kernel
theorem dX1_chanceOfFirst_41 : decode cX1_chanceOfFirst 41 = .ok (.ifCond .ne 7, 3) := by decide +kernel
theorem dX1_chanceOfFirst_44 : decode cX1_chanceOfFirst 44 = .ok (.iconst 5, 1) := by decide +kernel
theorem dX1_chanceOfFirst_45 : decode cX1_chanceOfFirst 45 = .ok (.goto 10, 3) := by decide +kernel
theorem dX1_chanceOfFirst_48 : decode cX1_chanceOfFirst 48 = .ok (.bipush 10, 2) := by decide +kernel
theorem dX1_chanceOfFirst_50 : decode cX1_chanceOfFirst 50 = .ok (.iload_n 3, 1) := by decide +kernel
theorem dX1_chanceOfFirst_51 : decode cX1_chanceOfFirst 51 = .ok (.imul, 1) := by decide +kernel
theorem dX1_chanceOfFirst_52 : decode cX1_chanceOfFirst 52 = .ok (.iload 4, 2) := by decide +kernel
theorem dX1_chanceOfFirst_54 : decode cX1_chanceOfFirst 54 = .ok (.idiv, 1) := by decide +kernel
theorem dX1_chanceOfFirst_55 : decode cX1_chanceOfFirst 55 = .ok (.ireturn, 1) := by decide +kernel
set_option maxHeartbeats 4000000 in
set_option maxRecDepth 100000 in
theorem c_X1_chanceOfFirst (l : Launch) (D : va_G) (cy : Nat → ClassId) (ad adK adV : Nat → Nat) (M : Mm) (o0 : Nat) (a1 : Int32) (a2 : Int32) (res : Mm × Int32) (h : f_X1_chanceOfFirst M o0 a1 a2 = some res) : Met l yX1_chanceOfFirst (wU yX1_chanceOfFirst cX1_chanceOfFirst 5 (some .int)) rmX1_chanceOfFirst (va_Pc [.ref (ad o0), .int a1, .int a2] (Pre D cy shX ad nX adK adV M)) (va_Qi (fun r (M2 : Mm) => r = res.2 ∧ M2 = res.1) (Pre D cy shX ad nX adK adV) (Aw ad nX)) 0 0 (Aw ad nX) := by
  refine Met.ofW (cc := cX1_chanceOfFirst) (maxL := 5) (ret := (some .int)) (by decide) rfl ?_
  intro p e s m args below meth c s₁ B hml hv
  obtain ⟨hargs, hPre⟩ := hv
  have hx := B.exec
  have hb := B.bytes
  have hr := B.returns
  have hts := atoms_spec (ws := wU yX1_chanceOfFirst cX1_chanceOfFirst 5 (some .int)) B.pre
  have hq : ∀ w ∈ gW, w.before args s = true := fun w hw => hts w (List.mem_cons_of_mem _ hw)
  have hcm : ∀ w ∈ gW, w ∈ wU yX1_chanceOfFirst cX1_chanceOfFirst 5 (some .int) := fun w hw => List.mem_cons_of_mem _ hw
  have hown : s.vm.findClass RX1 = some m.cls := findClass_of_methodNamed B.named
  have hlocks := B.notSynchronized
  have hF : CallFix p m c cX1_chanceOfFirst 5 s args (wU yX1_chanceOfFirst cX1_chanceOfFirst 5 (some .int)) RX1 := ⟨hx, hb, hml, hown, hts⟩
  have hK := hPre.2.1
  have hZ := hPre.2.2.2
  have hw : Wd D cy shX ad nX (Aw ad nX) s.heap M s.heap [] := ⟨hPre.1, hPre.2.2.1, va_S.rf⟩
  have iw0 : ∀ w ∈ u_ws RX0 TX0 9, w ∈ wU yX1_chanceOfFirst cX1_chanceOfFirst 5 (some .int) := fun w hw => List.mem_cons_of_mem _ (iX0 w hw)
  have iw1 : ∀ w ∈ u_ws RX1 TX1 11, w ∈ wU yX1_chanceOfFirst cX1_chanceOfFirst 5 (some .int) := fun w hw => List.mem_cons_of_mem _ (iX1 w hw)
  rw [show entryFrame m args 5 = entryFrame m ([.ref (ad o0), .int a1, .int a2] : List Value).toArray 5 from by rw [hargs]]
  have hl := lv_entry ([.ref (ad o0), .int a1, .int a2]) (n := 5) (Nat.le_of_ble_eq_true rfl)
  rw [lg_entry_eq]
  generalize (lg_sl ([.ref (ad o0), .int a1, .int a2]) ++ List.replicate (5 - (lg_sl ([.ref (ad o0), .int a1, .int a2])).length) Slot.unset).toArray = ls at hl ⊢
  have hl : lv_has ls 5 [(0, .ref (ad o0)), (1, .int a1), (2, .int a2)] := hl
  unfold f_X1_chanceOfFirst at h
  refine lv_aload_n hx hb dX1_chanceOfFirst_0 rfl (lv_at hl 0 rfl) ?_
  refine lv_aload_n hx hb dX1_chanceOfFirst_1 rfl (lv_at hl 0 rfl) ?_
  replace h := gd_some h
  obtain ⟨g1, h⟩ := h
  replace h := bd_some h
  obtain ⟨q2, eq2, h⟩ := h
  refine r_getR hx hb hts iw1 hown hK hw o0 1 g1 (by decide) rfl (by decide) rfl (hq _ qw185) (fun _ h9 => h9) dX1_chanceOfFirst_2 eq2 ?_
  refine lv_aload_n hx hb dX1_chanceOfFirst_5 rfl (lv_at hl 0 rfl) ?_
  refine r_getI hx hb hts iw1 hown hK hw o0 5 g1 (by decide) rfl (by decide) rfl (hq _ qw198) (fun _ h9 => h9) dX1_chanceOfFirst_6 ?_
  replace h := gd_some h
  obtain ⟨g3, h⟩ := h
  replace h := bd_some h
  obtain ⟨q4, eq4, h⟩ := h
  refine r_aald hx hb hK hw q2 3 (by decide) rfl g3 dX1_chanceOfFirst_9 eq4 ?_
  replace h := gd_some h
  obtain ⟨g5, h⟩ := h
  refine r_getI hx hb hts iw0 hown hK hw q4 0 g5 (by decide) rfl (by decide) rfl (hq _ qw138) (fun _ h9 => h9) dX1_chanceOfFirst_10 ?_
  refine lv_iload_n hx hb dX1_chanceOfFirst_13 rfl (lv_at hl 1 rfl) ?_
  replace h := bd_some h
  obtain ⟨r6, er6, h⟩ := h
  refine r_callVi (As := [.int (M.1 q4 0), .int a1]) (rest := []) hF (c_X1_forceOf l D cy ad adK adV M o0 (M.1 q4 0) a1 r6 er6) (gW_goodV hcm qw610 qw607 qw608 qw609 qw62) hdX1_forceOf rfl ⟨Nat.le_of_ble_eq_true rfl, Nat.le_of_ble_eq_true rfl⟩ rfl rfl hZ hK hw g1 (by decide) rfl rfl hl.1 rfl (Nat.le_of_ble_eq_true rfl) ⟨Nat.zero_le _, Nat.zero_le _⟩ dX1_chanceOfFirst_14 (fun H locs hw => ?_)
  refine lv_istore_n (lv' := [(3, .int r6.2), (0, .ref (ad o0)), (1, .int a1), (2, .int a2)]) hx hb dX1_chanceOfFirst_17 rfl hl (by decide) rfl (fun ls hl => ?_)
  refine lv_iload_n hx hb dX1_chanceOfFirst_18 rfl (lv_at hl 0 rfl) ?_
  refine lv_aload_n hx hb dX1_chanceOfFirst_19 rfl (lv_at hl 1 rfl) ?_
  refine lv_aload_n hx hb dX1_chanceOfFirst_20 rfl (lv_at hl 1 rfl) ?_
  replace h := bd_some h
  obtain ⟨q7, eq7, h⟩ := h
  refine r_getR hx hb hts iw1 hown hK hw o0 1 g1 (by decide) rfl (by decide) rfl (hq _ qw185) (fun _ h9 => h9) dX1_chanceOfFirst_21 eq7 ?_
  refine lv_aload_n hx hb dX1_chanceOfFirst_24 rfl (lv_at hl 1 rfl) ?_
  refine r_getI hx hb hts iw1 hown hK hw o0 5 g1 (by decide) rfl (by decide) rfl (hq _ qw198) (fun _ h9 => h9) dX1_chanceOfFirst_25 ?_
  replace h := gd_some h
  obtain ⟨g8, h⟩ := h
  replace h := bd_some h
  obtain ⟨q9, eq9, h⟩ := h
  refine r_aald hx hb hK hw q7 3 (by decide) rfl g8 dX1_chanceOfFirst_28 eq9 ?_
  replace h := gd_some h
  obtain ⟨g10, h⟩ := h
  refine r_getI hx hb hts iw0 hown hK hw q9 1 g10 (by decide) rfl (by decide) rfl (hq _ qw142) (fun _ h9 => h9) dX1_chanceOfFirst_29 ?_
  refine lv_iload_n hx hb dX1_chanceOfFirst_32 rfl (lv_at hl 3 rfl) ?_
  replace h := bd_some h
  obtain ⟨r11, er11, h⟩ := h
  refine r_callVi (As := [.int (r6.1.1 q9 1), .int a2]) (rest := [.int r6.2]) hF (c_X1_forceOf l D cy ad adK adV r6.1 o0 (r6.1.1 q9 1) a2 r11 er11) (gW_goodV hcm qw610 qw607 qw608 qw609 qw62) hdX1_forceOf rfl ⟨Nat.le_of_ble_eq_true rfl, Nat.le_of_ble_eq_true rfl⟩ rfl rfl hZ hK hw g1 (by decide) rfl rfl hl.1 rfl (Nat.le_of_ble_eq_true rfl) ⟨Nat.zero_le _, Nat.zero_le _⟩ dX1_chanceOfFirst_33 (fun H locs hw => ?_)
  refine lv_iadd hx hb dX1_chanceOfFirst_36 ?_
  refine lv_istore (lv' := [(4, .int (r6.2 + r11.2)), (3, .int r6.2), (0, .ref (ad o0)), (1, .int a1), (2, .int a2)]) hx hb dX1_chanceOfFirst_37 hl (by decide) rfl (fun ls hl => ?_)
  refine lv_iload hx hb dX1_chanceOfFirst_39 (lv_at hl 0 rfl) ?_
  refine lv_if_ne (tgt := 48) hx hb dX1_chanceOfFirst_41 (by decide) (fun c12 => ?_) (fun c12 => ?_)
  · replace h := if_some_f c12 h
    refine lv_bipush (v := (10 : Int32)) hx hb dX1_chanceOfFirst_48 (by decide) ?_
    refine lv_iload_n hx hb dX1_chanceOfFirst_50 rfl (lv_at hl 1 rfl) ?_
    refine lv_imul hx hb dX1_chanceOfFirst_51 ?_
    refine lv_iload hx hb dX1_chanceOfFirst_52 (lv_at hl 0 rfl) ?_
    replace h := gd_some h
    obtain ⟨g13, h⟩ := h
    refine lv_idiv hx hb dX1_chanceOfFirst_54 g13 ?_
    exact r_iret hx hb hr rfl hlocks hZ hK hw h dX1_chanceOfFirst_55
  · replace h := if_some_t c12 h
    refine lv_iconst (v := (5 : Int32)) hx hb dX1_chanceOfFirst_44 (by decide) ?_
    refine lv_goto (tgt := 55) hx hb dX1_chanceOfFirst_45 (by decide) ?_
    exact r_iret hx hb hr rfl hlocks hZ hK hw h dX1_chanceOfFirst_55
theorem dX1_givenIfWonBy_0 : decode cX1_givenIfWonBy 0 = .ok (.aload_n 0, 1) := by decide +kernel
theorem dX1_givenIfWonBy_1 : decode cX1_givenIfWonBy 1 = .ok (.getfield 19, 3) := by decide +kernel
theorem dX1_givenIfWonBy_4 : decode cX1_givenIfWonBy 4 = .ok (.aload_n 0, 1) := by decide +kernel
theorem dX1_givenIfWonBy_5 : decode cX1_givenIfWonBy 5 = .ok (.getfield 34, 3) := by decide +kernel
theorem dX1_givenIfWonBy_8 : decode cX1_givenIfWonBy 8 = .ok (.aaload, 1) := by decide +kernel
theorem dX1_givenIfWonBy_9 : decode cX1_givenIfWonBy 9 = .ok (.astore_n 2, 1) := by decide +kernel
theorem dX1_givenIfWonBy_10 : decode cX1_givenIfWonBy 10 = .ok (.aload_n 0, 1) := by decide +kernel
theorem dX1_givenIfWonBy_11 : decode cX1_givenIfWonBy 11 = .ok (.iload_n 1, 1) := by decide +kernel
theorem dX1_givenIfWonBy_12 : decode cX1_givenIfWonBy 12 = .ok (.invokevirtual 98, 3) := by decide +kernel
theorem dX1_givenIfWonBy_15 : decode cX1_givenIfWonBy 15 = .ok (.ifCond .ne 5, 3) := by decide +kernel
theorem dX1_givenIfWonBy_18 : decode cX1_givenIfWonBy 18 = .ok (.iload_n 1, 1) := by decide +kernel
theorem dX1_givenIfWonBy_19 : decode cX1_givenIfWonBy 19 = .ok (.ireturn, 1) := by decide +kernel
theorem dX1_givenIfWonBy_20 : decode cX1_givenIfWonBy 20 = .ok (.iload_n 1, 1) := by decide +kernel
theorem dX1_givenIfWonBy_21 : decode cX1_givenIfWonBy 21 = .ok (.aload_n 2, 1) := by decide +kernel
theorem dX1_givenIfWonBy_22 : decode cX1_givenIfWonBy 22 = .ok (.getfield 79, 3) := by decide +kernel
theorem dX1_givenIfWonBy_25 : decode cX1_givenIfWonBy 25 = .ok (.if_icmp .ne 10, 3) := by decide +kernel
theorem dX1_givenIfWonBy_28 : decode cX1_givenIfWonBy 28 = .ok (.aload_n 2, 1) := by decide +kernel
theorem dX1_givenIfWonBy_29 : decode cX1_givenIfWonBy 29 = .ok (.getfield 82, 3) := by decide +kernel
theorem dX1_givenIfWonBy_32 : decode cX1_givenIfWonBy 32 = .ok (.goto 7, 3) := by decide +kernel
theorem dX1_givenIfWonBy_35 : decode cX1_givenIfWonBy 35 = .ok (.aload_n 2, 1) := by decide +kernel
theorem dX1_givenIfWonBy_36 : decode cX1_givenIfWonBy 36 = .ok (.getfield 79, 3) := by decide +kernel
theorem dX1_givenIfWonBy_39 : decode cX1_givenIfWonBy 39 = .ok (.istore_n 3, 1) := by decide +kernel
theorem dX1_givenIfWonBy_40 : decode cX1_givenIfWonBy 40 = .ok (.aload_n 0, 1) := by decide +kernel
theorem dX1_givenIfWonBy_41 : decode cX1_givenIfWonBy 41 = .ok (.iload_n 3, 1) := by decide +kernel
theorem dX1_givenIfWonBy_42 : decode cX1_givenIfWonBy 42 = .ok (.invokevirtual 98, 3) := by decide +kernel
theorem dX1_givenIfWonBy_45 : decode cX1_givenIfWonBy 45 = .ok (.ifCond .ne 5, 3) := by decide +kernel
theorem dX1_givenIfWonBy_48 : decode cX1_givenIfWonBy 48 = .ok (.iload_n 3, 1) := by decide +kernel
theorem dX1_givenIfWonBy_49 : decode cX1_givenIfWonBy 49 = .ok (.ireturn, 1) := by decide +kernel
theorem dX1_givenIfWonBy_50 : decode cX1_givenIfWonBy 50 = .ok (.aload_n 0, 1) := by decide +kernel
theorem dX1_givenIfWonBy_51 : decode cX1_givenIfWonBy 51 = .ok (.getfield 11, 3) := by decide +kernel
theorem dX1_givenIfWonBy_54 : decode cX1_givenIfWonBy 54 = .ok (.iload_n 1, 1) := by decide +kernel
theorem dX1_givenIfWonBy_55 : decode cX1_givenIfWonBy 55 = .ok (.aaload, 1) := by decide +kernel
theorem dX1_givenIfWonBy_56 : decode cX1_givenIfWonBy 56 = .ok (.getfield 121, 3) := by decide +kernel
theorem dX1_givenIfWonBy_59 : decode cX1_givenIfWonBy 59 = .ok (.aload_n 0, 1) := by decide +kernel
theorem dX1_givenIfWonBy_60 : decode cX1_givenIfWonBy 60 = .ok (.getfield 11, 3) := by decide +kernel
theorem dX1_givenIfWonBy_63 : decode cX1_givenIfWonBy 63 = .ok (.iload_n 3, 1) := by decide +kernel
theorem dX1_givenIfWonBy_64 : decode cX1_givenIfWonBy 64 = .ok (.aaload, 1) := by decide +kernel
theorem dX1_givenIfWonBy_65 : decode cX1_givenIfWonBy 65 = .ok (.getfield 121, 3) := by decide +kernel
theorem dX1_givenIfWonBy_68 : decode cX1_givenIfWonBy 68 = .ok (.isub, 1) := by decide +kernel
theorem dX1_givenIfWonBy_69 : decode cX1_givenIfWonBy 69 = .ok (.istore 4, 2) := by decide +kernel
theorem dX1_givenIfWonBy_71 : decode cX1_givenIfWonBy 71 = .ok (.iload 4, 2) := by decide +kernel
theorem dX1_givenIfWonBy_73 : decode cX1_givenIfWonBy 73 = .ok (.ifCond .ne 9, 3) := by decide +kernel
theorem dX1_givenIfWonBy_76 : decode cX1_givenIfWonBy 76 = .ok (.iload_n 1, 1) := by decide +kernel
theorem dX1_givenIfWonBy_77 : decode cX1_givenIfWonBy 77 = .ok (.iload_n 3, 1) := by decide +kernel
theorem dX1_givenIfWonBy_78 : decode cX1_givenIfWonBy 78 = .ok (.invokestatic 105, 3) := by decide +kernel
theorem dX1_givenIfWonBy_81 : decode cX1_givenIfWonBy 81 = .ok (.ireturn, 1) := by decide +kernel
theorem dX1_givenIfWonBy_82 : decode cX1_givenIfWonBy 82 = .ok (.iload 4, 2) := by decide +kernel
theorem dX1_givenIfWonBy_84 : decode cX1_givenIfWonBy 84 = .ok (.ifCond .ge 7, 3) := by decide +kernel
theorem dX1_givenIfWonBy_87 : decode cX1_givenIfWonBy 87 = .ok (.iload_n 1, 1) := by decide +kernel
theorem dX1_givenIfWonBy_88 : decode cX1_givenIfWonBy 88 = .ok (.goto 4, 3) := by decide +kernel
theorem dX1_givenIfWonBy_91 : decode cX1_givenIfWonBy 91 = .ok (.iload_n 3, 1) := by decide +kernel
theorem dX1_givenIfWonBy_92 : decode cX1_givenIfWonBy 92 = .ok (.ireturn, 1) := by decide +kernel
set_option maxHeartbeats 4000000 in
set_option maxRecDepth 100000 in
theorem c_X1_givenIfWonBy (l : Launch) (D : va_G) (cy : Nat → ClassId) (ad adK adV : Nat → Nat) (M : Mm) (o0 : Nat) (a1 : Int32) (res : Mm × Int32) (h : f_X1_givenIfWonBy M o0 a1 = some res) : Met l yX1_givenIfWonBy (wU yX1_givenIfWonBy cX1_givenIfWonBy 5 (some .int)) rmX1_givenIfWonBy (va_Pc [.ref (ad o0), .int a1] (Pre D cy shX ad nX adK adV M)) (va_Qi (fun r (M2 : Mm) => r = res.2 ∧ M2 = res.1) (Pre D cy shX ad nX adK adV) (Aw ad nX)) 0 0 (Aw ad nX) := by
  refine Met.ofW (cc := cX1_givenIfWonBy) (maxL := 5) (ret := (some .int)) (by decide) rfl ?_
  intro p e s m args below meth c s₁ B hml hv
  obtain ⟨hargs, hPre⟩ := hv
  have hx := B.exec
  have hb := B.bytes
  have hr := B.returns
  have hts := atoms_spec (ws := wU yX1_givenIfWonBy cX1_givenIfWonBy 5 (some .int)) B.pre
  have hq : ∀ w ∈ gW, w.before args s = true := fun w hw => hts w (List.mem_cons_of_mem _ hw)
  have hcm : ∀ w ∈ gW, w ∈ wU yX1_givenIfWonBy cX1_givenIfWonBy 5 (some .int) := fun w hw => List.mem_cons_of_mem _ hw
  have hown : s.vm.findClass RX1 = some m.cls := findClass_of_methodNamed B.named
  have hlocks := B.notSynchronized
  have hF : CallFix p m c cX1_givenIfWonBy 5 s args (wU yX1_givenIfWonBy cX1_givenIfWonBy 5 (some .int)) RX1 := ⟨hx, hb, hml, hown, hts⟩
  have hK := hPre.2.1
  have hZ := hPre.2.2.2
  have hw : Wd D cy shX ad nX (Aw ad nX) s.heap M s.heap [] := ⟨hPre.1, hPre.2.2.1, va_S.rf⟩
  have iw0 : ∀ w ∈ u_ws RX0 TX0 9, w ∈ wU yX1_givenIfWonBy cX1_givenIfWonBy 5 (some .int) := fun w hw => List.mem_cons_of_mem _ (iX0 w hw)
  have iw1 : ∀ w ∈ u_ws RX1 TX1 11, w ∈ wU yX1_givenIfWonBy cX1_givenIfWonBy 5 (some .int) := fun w hw => List.mem_cons_of_mem _ (iX1 w hw)
  have iw3 : ∀ w ∈ u_ws RX3 TX3 6, w ∈ wU yX1_givenIfWonBy cX1_givenIfWonBy 5 (some .int) := fun w hw => List.mem_cons_of_mem _ (iX3 w hw)
  rw [show entryFrame m args 5 = entryFrame m ([.ref (ad o0), .int a1] : List Value).toArray 5 from by rw [hargs]]
  have hl := lv_entry ([.ref (ad o0), .int a1]) (n := 5) (Nat.le_of_ble_eq_true rfl)
  rw [lg_entry_eq]
  generalize (lg_sl ([.ref (ad o0), .int a1]) ++ List.replicate (5 - (lg_sl ([.ref (ad o0), .int a1])).length) Slot.unset).toArray = ls at hl ⊢
  have hl : lv_has ls 5 [(0, .ref (ad o0)), (1, .int a1)] := hl
  have hb39 : ∀ (M : Mm) (x0 : Nat) (x1 : Int32) (t0 : Int32), f_X1_givenIfWonBy_b39 M x0 x1 t0 = some res → ∀ (H : Heap) (locs : List Loc) (ls : Array Slot), Wd D cy shX ad nX (Aw ad nX) s.heap M H locs → lv_has ls 5 [(0, .ref (ad x0)), (1, .int x1)] → W p l e (headSpec (wU yX1_givenIfWonBy cX1_givenIfWonBy 5 (some .int)) rmX1_givenIfWonBy).room s m args below meth c H locs 0 0 (QI D cy shX ad nX adK adV below args s res) (F0 m 39 ls [.int t0]) := by
    intro M x0 x1 t0 h H locs ls hw hl
    unfold f_X1_givenIfWonBy_b39 at h
    refine lv_istore_n (lv' := [(3, .int t0), (0, .ref (ad x0)), (1, .int x1)]) hx hb dX1_givenIfWonBy_39 rfl hl (by decide) rfl (fun ls hl => ?_)
    refine lv_aload_n hx hb dX1_givenIfWonBy_40 rfl (lv_at hl 1 rfl) ?_
    refine lv_iload_n hx hb dX1_givenIfWonBy_41 rfl (lv_at hl 0 rfl) ?_
    replace h := gd_some h
    obtain ⟨g2, h⟩ := h
    replace h := bd_some h
    obtain ⟨r1, er1, h⟩ := h
    refine r_callVi (As := [.int t0]) (rest := []) hF (c_X1_isBarred l D cy ad adK adV M x0 t0 r1 er1) (gW_goodV hcm qw395 qw597 qw393 qw394 qw62) hdX1_isBarred rfl ⟨Nat.le_of_ble_eq_true rfl, Nat.le_of_ble_eq_true rfl⟩ rfl rfl hZ hK hw g2 (by decide) rfl rfl hl.1 rfl (Nat.le_of_ble_eq_true rfl) ⟨Nat.zero_le _, Nat.zero_le _⟩ dX1_givenIfWonBy_42 (fun H locs hw => ?_)
    refine lv_if_ne (tgt := 50) hx hb dX1_givenIfWonBy_45 (by decide) (fun c3 => ?_) (fun c3 => ?_)
    · replace h := if_some_f c3 h
      refine lv_aload_n hx hb dX1_givenIfWonBy_50 rfl (lv_at hl 1 rfl) ?_
      replace h := bd_some h
      obtain ⟨q4, eq4, h⟩ := h
      refine r_getR hx hb hts iw1 hown hK hw x0 0 g2 (by decide) rfl (by decide) rfl (hq _ qw182) (fun _ h9 => h9) dX1_givenIfWonBy_51 eq4 ?_
      refine lv_iload_n hx hb dX1_givenIfWonBy_54 rfl (lv_at hl 2 rfl) ?_
      replace h := gd_some h
      obtain ⟨g5, h⟩ := h
      replace h := bd_some h
      obtain ⟨q6, eq6, h⟩ := h
      refine r_aald hx hb hK hw q4 2 (by decide) rfl g5 dX1_givenIfWonBy_55 eq6 ?_
      replace h := gd_some h
      obtain ⟨g7, h⟩ := h
      refine r_getI hx hb hts iw3 hown hK hw q6 3 g7 (by decide) rfl (by decide) rfl (hq _ qw110) (fun _ h9 => h9) dX1_givenIfWonBy_56 ?_
      refine lv_aload_n hx hb dX1_givenIfWonBy_59 rfl (lv_at hl 1 rfl) ?_
      replace h := bd_some h
      obtain ⟨q8, eq8, h⟩ := h
      refine r_getR hx hb hts iw1 hown hK hw x0 0 g2 (by decide) rfl (by decide) rfl (hq _ qw182) (fun _ h9 => h9) dX1_givenIfWonBy_60 eq8 ?_
      refine lv_iload_n hx hb dX1_givenIfWonBy_63 rfl (lv_at hl 0 rfl) ?_
      replace h := gd_some h
      obtain ⟨g9, h⟩ := h
      replace h := bd_some h
      obtain ⟨q10, eq10, h⟩ := h
      refine r_aald hx hb hK hw q8 2 (by decide) rfl g9 dX1_givenIfWonBy_64 eq10 ?_
      replace h := gd_some h
      obtain ⟨g11, h⟩ := h
      refine r_getI hx hb hts iw3 hown hK hw q10 3 g11 (by decide) rfl (by decide) rfl (hq _ qw110) (fun _ h9 => h9) dX1_givenIfWonBy_65 ?_
      refine lv_isub hx hb dX1_givenIfWonBy_68 ?_
      refine lv_istore (lv' := [(4, .int ((r1.1.1 q6 3) - (r1.1.1 q10 3))), (3, .int t0), (0, .ref (ad x0)), (1, .int x1)]) hx hb dX1_givenIfWonBy_69 hl (by decide) rfl (fun ls hl => ?_)
      refine lv_iload hx hb dX1_givenIfWonBy_71 (lv_at hl 0 rfl) ?_
      refine lv_if_ne (tgt := 82) hx hb dX1_givenIfWonBy_73 (by decide) (fun c12 => ?_) (fun c12 => ?_)
      · replace h := if_some_f c12 h
        refine lv_iload hx hb dX1_givenIfWonBy_82 (lv_at hl 0 rfl) ?_
        refine lv_if_ge (tgt := 91) hx hb dX1_givenIfWonBy_84 (by decide) (fun c13 => ?_) (fun c13 => ?_)
        · replace h := if_some_t c13 h
          refine lv_iload_n hx hb dX1_givenIfWonBy_91 rfl (lv_at hl 1 rfl) ?_
          exact r_iret hx hb hr rfl hlocks hZ hK hw h dX1_givenIfWonBy_92
        · replace h := if_some_f c13 h
          refine lv_iload_n hx hb dX1_givenIfWonBy_87 rfl (lv_at hl 3 rfl) ?_
          refine lv_goto (tgt := 92) hx hb dX1_givenIfWonBy_88 (by decide) ?_
          exact r_iret hx hb hr rfl hlocks hZ hK hw h dX1_givenIfWonBy_92
      · replace h := if_some_t c12 h
        refine lv_iload_n hx hb dX1_givenIfWonBy_76 rfl (lv_at hl 3 rfl) ?_
        refine lv_iload_n hx hb dX1_givenIfWonBy_77 rfl (lv_at hl 1 rfl) ?_
        refine va_mmin hx hb (hml.trans hl.1.symm) hown (hq _ qw602) (hq _ qw489) (hq _ qw70) (hq _ qw490) (Nat.le_of_ble_eq_true rfl) (Nat.le_of_ble_eq_true rfl) (Nat.zero_le _) (Nat.zero_le _) dX1_givenIfWonBy_78 ?_
        exact r_iret hx hb hr rfl hlocks hZ hK hw h dX1_givenIfWonBy_81
    · replace h := if_some_t c3 h
      refine lv_iload_n hx hb dX1_givenIfWonBy_48 rfl (lv_at hl 0 rfl) ?_
      exact r_iret hx hb hr rfl hlocks hZ hK hw h dX1_givenIfWonBy_49
  unfold f_X1_givenIfWonBy at h
  refine lv_aload_n hx hb dX1_givenIfWonBy_0 rfl (lv_at hl 0 rfl) ?_
  replace h := gd_some h
  obtain ⟨g14, h⟩ := h
  replace h := bd_some h
  obtain ⟨q15, eq15, h⟩ := h
  refine r_getR hx hb hts iw1 hown hK hw o0 1 g14 (by decide) rfl (by decide) rfl (hq _ qw185) (fun _ h9 => h9) dX1_givenIfWonBy_1 eq15 ?_
  refine lv_aload_n hx hb dX1_givenIfWonBy_4 rfl (lv_at hl 0 rfl) ?_
  refine r_getI hx hb hts iw1 hown hK hw o0 5 g14 (by decide) rfl (by decide) rfl (hq _ qw198) (fun _ h9 => h9) dX1_givenIfWonBy_5 ?_
  replace h := gd_some h
  obtain ⟨g16, h⟩ := h
  replace h := bd_some h
  obtain ⟨q17, eq17, h⟩ := h
  refine r_aald hx hb hK hw q15 3 (by decide) rfl g16 dX1_givenIfWonBy_8 eq17 ?_
  refine lv_astore_n (lv' := [(2, .ref (ad q17)), (0, .ref (ad o0)), (1, .int a1)]) hx hb dX1_givenIfWonBy_9 rfl hl (by decide) rfl (fun ls hl => ?_)
  refine lv_aload_n hx hb dX1_givenIfWonBy_10 rfl (lv_at hl 1 rfl) ?_
  refine lv_iload_n hx hb dX1_givenIfWonBy_11 rfl (lv_at hl 2 rfl) ?_
  replace h := bd_some h
  obtain ⟨r18, er18, h⟩ := h
  refine r_callVi (As := [.int a1]) (rest := []) hF (c_X1_isBarred l D cy ad adK adV M o0 a1 r18 er18) (gW_goodV hcm qw395 qw597 qw393 qw394 qw62) hdX1_isBarred rfl ⟨Nat.le_of_ble_eq_true rfl, Nat.le_of_ble_eq_true rfl⟩ rfl rfl hZ hK hw g14 (by decide) rfl rfl hl.1 rfl (Nat.le_of_ble_eq_true rfl) ⟨Nat.zero_le _, Nat.zero_le _⟩ dX1_givenIfWonBy_12 (fun H locs hw => ?_)
  refine lv_if_ne (tgt := 20) hx hb dX1_givenIfWonBy_15 (by decide) (fun c19 => ?_) (fun c19 => ?_)
  · replace h := if_some_f c19 h
    refine lv_iload_n hx hb dX1_givenIfWonBy_20 rfl (lv_at hl 2 rfl) ?_
    refine lv_aload_n hx hb dX1_givenIfWonBy_21 rfl (lv_at hl 0 rfl) ?_
    replace h := gd_some h
    obtain ⟨g20, h⟩ := h
    refine r_getI hx hb hts iw0 hown hK hw q17 0 g20 (by decide) rfl (by decide) rfl (hq _ qw138) (fun _ h9 => h9) dX1_givenIfWonBy_22 ?_
    refine lv_icmp_ne (tgt := 35) hx hb dX1_givenIfWonBy_25 (by decide) (fun c21 => ?_) (fun c21 => ?_)
    · replace h := if_some_f c21 h
      refine lv_aload_n hx hb dX1_givenIfWonBy_35 rfl (lv_at hl 0 rfl) ?_
      refine r_getI hx hb hts iw0 hown hK hw q17 0 g20 (by decide) rfl (by decide) rfl (hq _ qw138) (fun _ h9 => h9) dX1_givenIfWonBy_36 ?_
      exact hb39 _ _ _ _ h _ _ _ hw (lv_sub hl [1, 2] rfl)
    · replace h := if_some_t c21 h
      refine lv_aload_n hx hb dX1_givenIfWonBy_28 rfl (lv_at hl 0 rfl) ?_
      refine r_getI hx hb hts iw0 hown hK hw q17 1 g20 (by decide) rfl (by decide) rfl (hq _ qw142) (fun _ h9 => h9) dX1_givenIfWonBy_29 ?_
      refine lv_goto (tgt := 39) hx hb dX1_givenIfWonBy_32 (by decide) ?_
      exact hb39 _ _ _ _ h _ _ _ hw (lv_sub hl [1, 2] rfl)
  · replace h := if_some_t c19 h
    refine lv_iload_n hx hb dX1_givenIfWonBy_18 rfl (lv_at hl 2 rfl) ?_
    exact r_iret hx hb hr rfl hlocks hZ hK hw h dX1_givenIfWonBy_19
theorem dX3_remember_0 : decode cX3_remember 0 = .ok (.iload_n 1, 1) := by decide +kernel
theorem dX3_remember_1 : decode cX3_remember 1 = .ok (.ifCond .eq 26, 3) := by decide +kernel
theorem dX3_remember_4 : decode cX3_remember 4 = .ok (.aload_n 0, 1) := by decide +kernel
theorem dX3_remember_5 : decode cX3_remember 5 = .ok (.dup, 1) := by decide +kernel
theorem dX3_remember_6 : decode cX3_remember 6 = .ok (.getfield 21, 3) := by decide +kernel
theorem dX3_remember_9 : decode cX3_remember 9 = .ok (.iload_n 2, 1) := by decide +kernel
theorem dX3_remember_10 : decode cX3_remember 10 = .ok (.iadd, 1) := by decide +kernel
theorem dX3_remember_11 : decode cX3_remember 11 = .ok (.putfield 21, 3) := by decide +kernel
theorem dX3_remember_14 : decode cX3_remember 14 = .ok (.aload_n 0, 1) := by decide +kernel
theorem dX3_remember_15 : decode cX3_remember 15 = .ok (.dup, 1) := by decide +kernel
theorem dX3_remember_16 : decode cX3_remember 16 = .ok (.getfield 24, 3) := by decide +kernel
theorem dX3_remember_19 : decode cX3_remember 19 = .ok (.iconst 1, 1) := by decide +kernel
theorem dX3_remember_20 : decode cX3_remember 20 = .ok (.iadd, 1) := by decide +kernel
theorem dX3_remember_21 : decode cX3_remember 21 = .ok (.putfield 24, 3) := by decide +kernel
theorem dX3_remember_24 : decode cX3_remember 24 = .ok (.goto 8, 3) := by decide +kernel
theorem dX3_remember_27 : decode cX3_remember 27 = .ok (.aload_n 0, 1) := by decide +kernel
theorem dX3_remember_28 : decode cX3_remember 28 = .ok (.iconst 0, 1) := by decide +kernel
theorem dX3_remember_29 : decode cX3_remember 29 = .ok (.putfield 24, 3) := by decide +kernel
theorem dX3_remember_32 : decode cX3_remember 32 = .ok (.aload_n 0, 1) := by decide +kernel
theorem dX3_remember_33 : decode cX3_remember 33 = .ok (.iload_n 3, 1) := by decide +kernel
theorem dX3_remember_34 : decode cX3_remember 34 = .ok (.iconst 3, 1) := by decide +kernel
theorem dX3_remember_35 : decode cX3_remember 35 = .ok (.if_icmp .ne 7, 3) := by decide +kernel
theorem dX3_remember_38 : decode cX3_remember 38 = .ok (.iconst 1, 1) := by decide +kernel
theorem dX3_remember_39 : decode cX3_remember 39 = .ok (.goto 4, 3) := by decide +kernel
theorem dX3_remember_42 : decode cX3_remember 42 = .ok (.iconst 0, 1) := by decide +kernel
theorem dX3_remember_43 : decode cX3_remember 43 = .ok (.putfield 27, 3) := by decide +kernel
theorem dX3_remember_46 : decode cX3_remember 46 = .ok (.return_, 1) := by decide +kernel
set_option maxHeartbeats 4000000 in
set_option maxRecDepth 100000 in
theorem c_X3_remember (l : Launch) (D : va_G) (cy : Nat → ClassId) (ad adK adV : Nat → Nat) (M : Mm) (o0 : Nat) (a1 : Int32) (a2 : Int32) (a3 : Int32) (res : Mm × Unit) (h : f_X3_remember M o0 a1 a2 a3 = some res) : Met l yX3_remember (wU yX3_remember cX3_remember 4 none) rmX3_remember (va_Pc [.ref (ad o0), .int a1, .int a2, .int a3] (Pre D cy shX ad nX adK adV M)) (va_Qv (fun (M2 : Mm) => M2 = res.1) (Pre D cy shX ad nX adK adV) (Aw ad nX)) 0 0 (Aw ad nX) := by
  refine Met.ofW (cc := cX3_remember) (maxL := 4) (ret := none) (by decide) rfl ?_
  intro p e s m args below meth c s₁ B hml hv
  obtain ⟨hargs, hPre⟩ := hv
  have hx := B.exec
  have hb := B.bytes
  have hr := B.returns
  have hts := atoms_spec (ws := wU yX3_remember cX3_remember 4 none) B.pre
  have hq : ∀ w ∈ gW, w.before args s = true := fun w hw => hts w (List.mem_cons_of_mem _ hw)
  have hcm : ∀ w ∈ gW, w ∈ wU yX3_remember cX3_remember 4 none := fun w hw => List.mem_cons_of_mem _ hw
  have hown : s.vm.findClass RX3 = some m.cls := findClass_of_methodNamed B.named
  have hlocks := B.notSynchronized
  have hF : CallFix p m c cX3_remember 4 s args (wU yX3_remember cX3_remember 4 none) RX3 := ⟨hx, hb, hml, hown, hts⟩
  have hK := hPre.2.1
  have hZ := hPre.2.2.2
  have hw : Wd D cy shX ad nX (Aw ad nX) s.heap M s.heap [] := ⟨hPre.1, hPre.2.2.1, va_S.rf⟩
  have iw3 : ∀ w ∈ u_ws RX3 TX3 6, w ∈ wU yX3_remember cX3_remember 4 none := fun w hw => List.mem_cons_of_mem _ (iX3 w hw)
  rw [show entryFrame m args 4 = entryFrame m ([.ref (ad o0), .int a1, .int a2, .int a3] : List Value).toArray 4 from by rw [hargs]]
  have hl := lv_entry ([.ref (ad o0), .int a1, .int a2, .int a3]) (n := 4) (Nat.le_of_ble_eq_true rfl)
  rw [lg_entry_eq]
  generalize (lg_sl ([.ref (ad o0), .int a1, .int a2, .int a3]) ++ List.replicate (4 - (lg_sl ([.ref (ad o0), .int a1, .int a2, .int a3])).length) Slot.unset).toArray = ls at hl ⊢
  have hl : lv_has ls 4 [(0, .ref (ad o0)), (1, .int a1), (2, .int a2), (3, .int a3)] := hl
  have hb43 : ∀ (M : Mm) (t0 : Nat) (t1 : Int32), f_X3_remember_b43 M t0 t1 = some res → ∀ (H : Heap) (locs : List Loc) (ls : Array Slot), Wd D cy shX ad nX (Aw ad nX) s.heap M H locs → lv_has ls 4 [] → W p l e (headSpec (wU yX3_remember cX3_remember 4 none) rmX3_remember).room s m args below meth c H locs 0 0 (QV D cy shX ad nX adK adV below args s res) (F0 m 43 ls [.int t1, .ref (ad t0)]) := by
    intro M t0 t1 h H locs ls hw hl
    unfold f_X3_remember_b43 at h
    replace h := gd_some h
    obtain ⟨g1, h⟩ := h
    replace h := gd_some h
    obtain ⟨z2, h⟩ := h
    refine r_putI hx hb hts iw3 tyX3 tyX3_ok nmX3 hown hK hw t0 5 g1 (by decide) rfl (by decide) rfl (hq _ qw113) (fun _ h9 => h9) rfl (nar_bz z2) (fit_bz z2) dX3_remember_43 (fun H locs hw => ?_)
    replace h := lt_some h
    obtain ⟨M3, eM3, h⟩ := h
    rw [← eM3] at hw
    exact r_vret hx hb hr hlocks hZ hK hw h dX3_remember_46
  have hb32 : ∀ (M : Mm) (x0 : Nat) (x3 : Int32), f_X3_remember_b32 M x0 x3 = some res → ∀ (H : Heap) (locs : List Loc) (ls : Array Slot), Wd D cy shX ad nX (Aw ad nX) s.heap M H locs → lv_has ls 4 [(0, .ref (ad x0)), (3, .int x3)] → W p l e (headSpec (wU yX3_remember cX3_remember 4 none) rmX3_remember).room s m args below meth c H locs 0 0 (QV D cy shX ad nX adK adV below args s res) (F0 m 32 ls []) := by
    intro M x0 x3 h H locs ls hw hl
    unfold f_X3_remember_b32 at h
    refine lv_aload_n hx hb dX3_remember_32 rfl (lv_at hl 0 rfl) ?_
    refine lv_iload_n hx hb dX3_remember_33 rfl (lv_at hl 1 rfl) ?_
    refine lv_iconst (v := (3 : Int32)) hx hb dX3_remember_34 (by decide) ?_
    refine lv_icmp_ne (tgt := 42) hx hb dX3_remember_35 (by decide) (fun c4 => ?_) (fun c4 => ?_)
    · replace h := if_some_f c4 h
      refine lv_iconst (v := (0 : Int32)) hx hb dX3_remember_42 (by decide) ?_
      exact hb43 _ _ _ h _ _ _ hw (lv_sub hl [] rfl)
    · replace h := if_some_t c4 h
      refine lv_iconst (v := (1 : Int32)) hx hb dX3_remember_38 (by decide) ?_
      refine lv_goto (tgt := 43) hx hb dX3_remember_39 (by decide) ?_
      exact hb43 _ _ _ h _ _ _ hw (lv_sub hl [] rfl)
  unfold f_X3_remember at h
  refine lv_iload_n hx hb dX3_remember_0 rfl (lv_at hl 1 rfl) ?_
  refine lv_if_eq (tgt := 27) hx hb dX3_remember_1 (by decide) (fun c5 => ?_) (fun c5 => ?_)
  · replace h := if_some_t c5 h
    refine lv_aload_n hx hb dX3_remember_27 rfl (lv_at hl 0 rfl) ?_
    refine lv_iconst (v := (0 : Int32)) hx hb dX3_remember_28 (by decide) ?_
    replace h := gd_some h
    obtain ⟨g6, h⟩ := h
    refine r_putI hx hb hts iw3 tyX3 tyX3_ok nmX3 hown hK hw o0 4 g6 (by decide) rfl (by decide) rfl (hq _ qw111) (fun _ h9 => h9) rfl rfl rfl dX3_remember_29 (fun H locs hw => ?_)
    replace h := lt_some h
    obtain ⟨M7, eM7, h⟩ := h
    rw [← eM7] at hw
    exact hb32 _ _ _ h _ _ _ hw (lv_sub hl [0, 3] rfl)
  · replace h := if_some_f c5 h
    refine lv_aload_n hx hb dX3_remember_4 rfl (lv_at hl 0 rfl) ?_
    refine lv_dup hx hb dX3_remember_5 rfl ?_
    replace h := gd_some h
    obtain ⟨g8, h⟩ := h
    refine r_getI hx hb hts iw3 hown hK hw o0 3 g8 (by decide) rfl (by decide) rfl (hq _ qw107) (fun _ h9 => h9) dX3_remember_6 ?_
    refine lv_iload_n hx hb dX3_remember_9 rfl (lv_at hl 2 rfl) ?_
    refine lv_iadd hx hb dX3_remember_10 ?_
    refine r_putI hx hb hts iw3 tyX3 tyX3_ok nmX3 hown hK hw o0 3 g8 (by decide) rfl (by decide) rfl (hq _ qw107) (fun _ h9 => h9) rfl rfl rfl dX3_remember_11 (fun H locs hw => ?_)
    replace h := lt_some h
    obtain ⟨M9, eM9, h⟩ := h
    rw [← eM9] at hw
    refine lv_aload_n hx hb dX3_remember_14 rfl (lv_at hl 0 rfl) ?_
    refine lv_dup hx hb dX3_remember_15 rfl ?_
    refine r_getI hx hb hts iw3 hown hK hw o0 4 g8 (by decide) rfl (by decide) rfl (hq _ qw111) (fun _ h9 => h9) dX3_remember_16 ?_
    refine lv_iconst (v := (1 : Int32)) hx hb dX3_remember_19 (by decide) ?_
    refine lv_iadd hx hb dX3_remember_20 ?_
    refine r_putI hx hb hts iw3 tyX3 tyX3_ok nmX3 hown hK hw o0 4 g8 (by decide) rfl (by decide) rfl (hq _ qw111) (fun _ h9 => h9) rfl rfl rfl dX3_remember_21 (fun H locs hw => ?_)
    replace h := lt_some h
    obtain ⟨M10, eM10, h⟩ := h
    rw [← eM10] at hw
    refine lv_goto (tgt := 32) hx hb dX3_remember_24 (by decide) ?_
    exact hb32 _ _ _ h _ _ _ hw (lv_sub hl [0, 3] rfl)
theorem dX1_settle_0 : decode cX1_settle 0 = .ok (.aload_n 0, 1) := by decide +kernel
theorem dX1_settle_1 : decode cX1_settle 1 = .ok (.getfield 19, 3) := by decide +kernel
theorem dX1_settle_4 : decode cX1_settle 4 = .ok (.aload_n 0, 1) := by decide +kernel
theorem dX1_settle_5 : decode cX1_settle 5 = .ok (.getfield 34, 3) := by decide +kernel
theorem dX1_settle_8 : decode cX1_settle 8 = .ok (.aaload, 1) := by decide +kernel
theorem dX1_settle_9 : decode cX1_settle 9 = .ok (.astore 4, 2) := by decide +kernel
theorem dX1_settle_11 : decode cX1_settle 11 = .ok (.aload_n 0, 1) := by decide +kernel
theorem dX1_settle_12 : decode cX1_settle 12 = .ok (.getfield 11, 3) := by decide +kernel
theorem dX1_settle_15 : decode cX1_settle 15 = .ok (.aload 4, 2) := by decide +kernel
theorem dX1_settle_17 : decode cX1_settle 17 = .ok (.getfield 79, 3) := by decide +kernel
theorem dX1_settle_20 : decode cX1_settle 20 = .ok (.aaload, 1) := by decide +kernel
theorem dX1_settle_21 : decode cX1_settle 21 = .ok (.astore 5, 2) := by decide +kernel
theorem dX1_settle_23 : decode cX1_settle 23 = .ok (.aload_n 0, 1) := by decide +kernel
theorem dX1_settle_24 : decode cX1_settle 24 = .ok (.getfield 11, 3) := by decide +kernel
theorem dX1_settle_27 : decode cX1_settle 27 = .ok (.aload 4, 2) := by decide +kernel
theorem dX1_settle_29 : decode cX1_settle 29 = .ok (.getfield 82, 3) := by decide +kernel
theorem dX1_settle_32 : decode cX1_settle 32 = .ok (.aaload, 1) := by decide +kernel
theorem dX1_settle_33 : decode cX1_settle 33 = .ok (.astore 6, 2) := by decide +kernel
theorem dX1_settle_35 : decode cX1_settle 35 = .ok (.aload_n 0, 1) := by decide +kernel
theorem dX1_settle_36 : decode cX1_settle 36 = .ok (.iload_n 1, 1) := by decide +kernel
theorem dX1_settle_37 : decode cX1_settle 37 = .ok (.invokevirtual 124, 3) := by decide +kernel
theorem dX1_settle_40 : decode cX1_settle 40 = .ok (.istore 7, 2) := by decide +kernel
theorem dX1_settle_42 : decode cX1_settle 42 = .ok (.aload 4, 2) := by decide +kernel
theorem dX1_settle_44 : decode cX1_settle 44 = .ok (.iload_n 1, 1) := by decide +kernel
theorem dX1_settle_45 : decode cX1_settle 45 = .ok (.putfield 127, 3) := by decide +kernel
theorem dX1_settle_48 : decode cX1_settle 48 = .ok (.aload 4, 2) := by decide +kernel
theorem dX1_settle_50 : decode cX1_settle 50 = .ok (.iload 7, 2) := by decide +kernel
theorem dX1_settle_52 : decode cX1_settle 52 = .ok (.putfield 92, 3) := by decide +kernel
theorem dX1_settle_55 : decode cX1_settle 55 = .ok (.aload 4, 2) := by decide +kernel
theorem dX1_settle_57 : decode cX1_settle 57 = .ok (.aload 5, 2) := by decide +kernel
theorem dX1_settle_59 : decode cX1_settle 59 = .ok (.getfield 95, 3) := by decide +kernel
theorem dX1_settle_62 : decode cX1_settle 62 = .ok (.putfield 130, 3) := by decide +kernel
theorem dX1_settle_65 : decode cX1_settle 65 = .ok (.aload 4, 2) := by decide +kernel
theorem dX1_settle_67 : decode cX1_settle 67 = .ok (.aload 6, 2) := by decide +kernel
theorem dX1_settle_69 : decode cX1_settle 69 = .ok (.getfield 95, 3) := by decide +kernel
theorem dX1_settle_72 : decode cX1_settle 72 = .ok (.putfield 133, 3) := by decide +kernel
theorem dX1_settle_75 : decode cX1_settle 75 = .ok (.aload 4, 2) := by decide +kernel
theorem dX1_settle_77 : decode cX1_settle 77 = .ok (.aload 5, 2) := by decide +kernel
theorem dX1_settle_79 : decode cX1_settle 79 = .ok (.getfield 111, 3) := by decide +kernel
theorem dX1_settle_82 : decode cX1_settle 82 = .ok (.putfield 136, 3) := by decide +kernel
theorem dX1_settle_85 : decode cX1_settle 85 = .ok (.aload 4, 2) := by decide +kernel
theorem dX1_settle_87 : decode cX1_settle 87 = .ok (.aload 6, 2) := by decide +kernel
theorem dX1_settle_89 : decode cX1_settle 89 = .ok (.getfield 111, 3) := by decide +kernel
theorem dX1_settle_92 : decode cX1_settle 92 = .ok (.putfield 139, 3) := by decide +kernel
theorem dX1_settle_95 : decode cX1_settle 95 = .ok (.aload 5, 2) := by decide +kernel
theorem dX1_settle_97 : decode cX1_settle 97 = .ok (.iload 7, 2) := by decide +kernel
theorem dX1_settle_99 : decode cX1_settle 99 = .ok (.aload 4, 2) := by decide +kernel
theorem dX1_settle_101 : decode cX1_settle 101 = .ok (.getfield 79, 3) := by decide +kernel
theorem dX1_settle_104 : decode cX1_settle 104 = .ok (.if_icmp .ne 7, 3) := by decide +kernel
theorem dX1_settle_107 : decode cX1_settle 107 = .ok (.iconst 1, 1) := by decide +kernel
theorem dX1_settle_108 : decode cX1_settle 108 = .ok (.goto 4, 3) := by decide +kernel
theorem dX1_settle_111 : decode cX1_settle 111 = .ok (.iconst 0, 1) := by decide +kernel
theorem dX1_settle_112 : decode cX1_settle 112 = .ok (.aload 4, 2) := by decide +kernel
theorem dX1_settle_114 : decode cX1_settle 114 = .ok (.getfield 85, 3) := by decide +kernel
theorem dX1_settle_117 : decode cX1_settle 117 = .ok (.iload_n 2, 1) := by decide +kernel
theorem dX1_settle_118 : decode cX1_settle 118 = .ok (.invokevirtual 142, 3) := by decide +kernel
theorem dX1_settle_121 : decode cX1_settle 121 = .ok (.aload 6, 2) := by decide +kernel
theorem dX1_settle_123 : decode cX1_settle 123 = .ok (.iload 7, 2) := by decide +kernel
theorem dX1_settle_125 : decode cX1_settle 125 = .ok (.aload 4, 2) := by decide +kernel
theorem dX1_settle_127 : decode cX1_settle 127 = .ok (.getfield 82, 3) := by decide +kernel
theorem dX1_settle_130 : decode cX1_settle 130 = .ok (.if_icmp .ne 7, 3) := by decide +kernel
theorem dX1_settle_133 : decode cX1_settle 133 = .ok (.iconst 1, 1) := by decide +kernel
theorem dX1_settle_134 : decode cX1_settle 134 = .ok (.goto 4, 3) := by decide +kernel
theorem dX1_settle_137 : decode cX1_settle 137 = .ok (.iconst 0, 1) := by decide +kernel
theorem dX1_settle_138 : decode cX1_settle 138 = .ok (.aload 4, 2) := by decide +kernel
theorem dX1_settle_140 : decode cX1_settle 140 = .ok (.getfield 85, 3) := by decide +kernel
theorem dX1_settle_143 : decode cX1_settle 143 = .ok (.iload_n 3, 1) := by decide +kernel
theorem dX1_settle_144 : decode cX1_settle 144 = .ok (.invokevirtual 142, 3) := by decide +kernel
theorem dX1_settle_147 : decode cX1_settle 147 = .ok (.aload_n 0, 1) := by decide +kernel
theorem dX1_settle_148 : decode cX1_settle 148 = .ok (.dup, 1) := by decide +kernel
theorem dX1_settle_149 : decode cX1_settle 149 = .ok (.getfield 34, 3) := by decide +kernel
theorem dX1_settle_152 : decode cX1_settle 152 = .ok (.iconst 1, 1) := by decide +kernel
theorem dX1_settle_153 : decode cX1_settle 153 = .ok (.iadd, 1) := by decide +kernel
theorem dX1_settle_154 : decode cX1_settle 154 = .ok (.putfield 34, 3) := by decide +kernel
theorem dX1_settle_157 : decode cX1_settle 157 = .ok (.iload 7, 2) := by decide +kernel
theorem dX1_settle_159 : decode cX1_settle 159 = .ok (.ireturn, 1) := by decide +kernel
set_option maxHeartbeats 4000000 in
set_option maxRecDepth 100000 in
theorem c_X1_settle (l : Launch) (D : va_G) (cy : Nat → ClassId) (ad adK adV : Nat → Nat) (M : Mm) (o0 : Nat) (a1 : Int32) (a2 : Int32) (a3 : Int32) (res : Mm × Int32) (h : f_X1_settle M o0 a1 a2 a3 = some res) : Met l yX1_settle (wU yX1_settle cX1_settle 8 (some .int)) rmX1_settle (va_Pc [.ref (ad o0), .int a1, .int a2, .int a3] (Pre D cy shX ad nX adK adV M)) (va_Qi (fun r (M2 : Mm) => r = res.2 ∧ M2 = res.1) (Pre D cy shX ad nX adK adV) (Aw ad nX)) 0 0 (Aw ad nX) := by
  refine Met.ofW (cc := cX1_settle) (maxL := 8) (ret := (some .int)) (by decide) rfl ?_
  intro p e s m args below meth c s₁ B hml hv
  obtain ⟨hargs, hPre⟩ := hv
  have hx := B.exec
  have hb := B.bytes
  have hr := B.returns
  have hts := atoms_spec (ws := wU yX1_settle cX1_settle 8 (some .int)) B.pre
  have hq : ∀ w ∈ gW, w.before args s = true := fun w hw => hts w (List.mem_cons_of_mem _ hw)
  have hcm : ∀ w ∈ gW, w ∈ wU yX1_settle cX1_settle 8 (some .int) := fun w hw => List.mem_cons_of_mem _ hw
  have hown : s.vm.findClass RX1 = some m.cls := findClass_of_methodNamed B.named
  have hlocks := B.notSynchronized
  have hF : CallFix p m c cX1_settle 8 s args (wU yX1_settle cX1_settle 8 (some .int)) RX1 := ⟨hx, hb, hml, hown, hts⟩
  have hK := hPre.2.1
  have hZ := hPre.2.2.2
  have hw : Wd D cy shX ad nX (Aw ad nX) s.heap M s.heap [] := ⟨hPre.1, hPre.2.2.1, va_S.rf⟩
  have iw0 : ∀ w ∈ u_ws RX0 TX0 9, w ∈ wU yX1_settle cX1_settle 8 (some .int) := fun w hw => List.mem_cons_of_mem _ (iX0 w hw)
  have iw1 : ∀ w ∈ u_ws RX1 TX1 11, w ∈ wU yX1_settle cX1_settle 8 (some .int) := fun w hw => List.mem_cons_of_mem _ (iX1 w hw)
  have iw3 : ∀ w ∈ u_ws RX3 TX3 6, w ∈ wU yX1_settle cX1_settle 8 (some .int) := fun w hw => List.mem_cons_of_mem _ (iX3 w hw)
  rw [show entryFrame m args 8 = entryFrame m ([.ref (ad o0), .int a1, .int a2, .int a3] : List Value).toArray 8 from by rw [hargs]]
  have hl := lv_entry ([.ref (ad o0), .int a1, .int a2, .int a3]) (n := 8) (Nat.le_of_ble_eq_true rfl)
  rw [lg_entry_eq]
  generalize (lg_sl ([.ref (ad o0), .int a1, .int a2, .int a3]) ++ List.replicate (8 - (lg_sl ([.ref (ad o0), .int a1, .int a2, .int a3])).length) Slot.unset).toArray = ls at hl ⊢
  have hl : lv_has ls 8 [(0, .ref (ad o0)), (1, .int a1), (2, .int a2), (3, .int a3)] := hl
  have hb138 : ∀ (M : Mm) (x0 : Nat) (x3 : Int32) (x4 : Nat) (x7 : Int32) (t0 : Nat) (t1 : Int32), f_X1_settle_b138 M x0 x3 x4 x7 t0 t1 = some res → ∀ (H : Heap) (locs : List Loc) (ls : Array Slot), Wd D cy shX ad nX (Aw ad nX) s.heap M H locs → lv_has ls 8 [(0, .ref (ad x0)), (3, .int x3), (4, .ref (ad x4)), (7, .int x7)] → W p l e (headSpec (wU yX1_settle cX1_settle 8 (some .int)) rmX1_settle).room s m args below meth c H locs 0 0 (QI D cy shX ad nX adK adV below args s res) (F0 m 138 ls [.int t1, .ref (ad t0)]) := by
    intro M x0 x3 x4 x7 t0 t1 h H locs ls hw hl
    unfold f_X1_settle_b138 at h
    refine lv_aload hx hb dX1_settle_138 (lv_at hl 2 rfl) ?_
    replace h := gd_some h
    obtain ⟨g1, h⟩ := h
    refine r_getI hx hb hts iw0 hown hK hw x4 2 g1 (by decide) rfl (by decide) rfl (hq _ qw146) (fun _ h9 => h9) dX1_settle_140 ?_
    refine lv_iload_n hx hb dX1_settle_143 rfl (lv_at hl 1 rfl) ?_
    replace h := gd_some h
    obtain ⟨g3, h⟩ := h
    replace h := bd_some h
    obtain ⟨r2, er2, h⟩ := h
    refine r_callVv (As := [.int t1, .int (M.1 x4 2), .int x3]) (rest := []) hF (c_X3_remember l D cy ad adK adV M t0 t1 (M.1 x4 2) x3 r2 er2) (gW_goodV hcm qw636 qw633 qw634 qw635 qw63) hdX3_remember rfl ⟨Nat.le_of_ble_eq_true rfl, Nat.le_of_ble_eq_true rfl⟩ rfl rfl hZ hK hw g3 (by decide) rfl rfl hl.1 rfl (Nat.le_of_ble_eq_true rfl) ⟨Nat.zero_le _, Nat.zero_le _⟩ dX1_settle_144 (fun H locs hw => ?_)
    refine lv_aload_n hx hb dX1_settle_147 rfl (lv_at hl 0 rfl) ?_
    refine lv_dup hx hb dX1_settle_148 rfl ?_
    replace h := gd_some h
    obtain ⟨g4, h⟩ := h
    refine r_getI hx hb hts iw1 hown hK hw x0 5 g4 (by decide) rfl (by decide) rfl (hq _ qw198) (fun _ h9 => h9) dX1_settle_149 ?_
    refine lv_iconst (v := (1 : Int32)) hx hb dX1_settle_152 (by decide) ?_
    refine lv_iadd hx hb dX1_settle_153 ?_
    refine r_putI hx hb hts iw1 tyX1 tyX1_ok nmX1 hown hK hw x0 5 g4 (by decide) rfl (by decide) rfl (hq _ qw198) (fun _ h9 => h9) rfl rfl rfl dX1_settle_154 (fun H locs hw => ?_)
    replace h := lt_some h
    obtain ⟨M5, eM5, h⟩ := h
    rw [← eM5] at hw
    refine lv_iload hx hb dX1_settle_157 (lv_at hl 3 rfl) ?_
    exact r_iret hx hb hr rfl hlocks hZ hK hw h dX1_settle_159
  have hb112 : ∀ (M : Mm) (x0 : Nat) (x2 : Int32) (x3 : Int32) (x4 : Nat) (x6 : Nat) (x7 : Int32) (t0 : Nat) (t1 : Int32), f_X1_settle_b112 M x0 x2 x3 x4 x6 x7 t0 t1 = some res → ∀ (H : Heap) (locs : List Loc) (ls : Array Slot), Wd D cy shX ad nX (Aw ad nX) s.heap M H locs → lv_has ls 8 [(0, .ref (ad x0)), (2, .int x2), (3, .int x3), (4, .ref (ad x4)), (6, .ref (ad x6)), (7, .int x7)] → W p l e (headSpec (wU yX1_settle cX1_settle 8 (some .int)) rmX1_settle).room s m args below meth c H locs 0 0 (QI D cy shX ad nX adK adV below args s res) (F0 m 112 ls [.int t1, .ref (ad t0)]) := by
    intro M x0 x2 x3 x4 x6 x7 t0 t1 h H locs ls hw hl
    unfold f_X1_settle_b112 at h
    refine lv_aload hx hb dX1_settle_112 (lv_at hl 3 rfl) ?_
    replace h := gd_some h
    obtain ⟨g6, h⟩ := h
    refine r_getI hx hb hts iw0 hown hK hw x4 2 g6 (by decide) rfl (by decide) rfl (hq _ qw146) (fun _ h9 => h9) dX1_settle_114 ?_
    refine lv_iload_n hx hb dX1_settle_117 rfl (lv_at hl 1 rfl) ?_
    replace h := gd_some h
    obtain ⟨g8, h⟩ := h
    replace h := bd_some h
    obtain ⟨r7, er7, h⟩ := h
    refine r_callVv (As := [.int t1, .int (M.1 x4 2), .int x2]) (rest := []) hF (c_X3_remember l D cy ad adK adV M t0 t1 (M.1 x4 2) x2 r7 er7) (gW_goodV hcm qw636 qw633 qw634 qw635 qw63) hdX3_remember rfl ⟨Nat.le_of_ble_eq_true rfl, Nat.le_of_ble_eq_true rfl⟩ rfl rfl hZ hK hw g8 (by decide) rfl rfl hl.1 rfl (Nat.le_of_ble_eq_true rfl) ⟨Nat.zero_le _, Nat.zero_le _⟩ dX1_settle_118 (fun H locs hw => ?_)
    refine lv_aload hx hb dX1_settle_121 (lv_at hl 4 rfl) ?_
    refine lv_iload hx hb dX1_settle_123 (lv_at hl 5 rfl) ?_
    refine lv_aload hx hb dX1_settle_125 (lv_at hl 3 rfl) ?_
    refine r_getI hx hb hts iw0 hown hK hw x4 1 g6 (by decide) rfl (by decide) rfl (hq _ qw142) (fun _ h9 => h9) dX1_settle_127 ?_
    refine lv_icmp_ne (tgt := 137) hx hb dX1_settle_130 (by decide) (fun c9 => ?_) (fun c9 => ?_)
    · replace h := if_some_f c9 h
      refine lv_iconst (v := (0 : Int32)) hx hb dX1_settle_137 (by decide) ?_
      exact hb138 _ _ _ _ _ _ _ h _ _ _ hw (lv_sub hl [0, 2, 3, 5] rfl)
    · replace h := if_some_t c9 h
      refine lv_iconst (v := (1 : Int32)) hx hb dX1_settle_133 (by decide) ?_
      refine lv_goto (tgt := 138) hx hb dX1_settle_134 (by decide) ?_
      exact hb138 _ _ _ _ _ _ _ h _ _ _ hw (lv_sub hl [0, 2, 3, 5] rfl)
  unfold f_X1_settle at h
  refine lv_aload_n hx hb dX1_settle_0 rfl (lv_at hl 0 rfl) ?_
  replace h := gd_some h
  obtain ⟨g10, h⟩ := h
  replace h := bd_some h
  obtain ⟨q11, eq11, h⟩ := h
  refine r_getR hx hb hts iw1 hown hK hw o0 1 g10 (by decide) rfl (by decide) rfl (hq _ qw185) (fun _ h9 => h9) dX1_settle_1 eq11 ?_
  refine lv_aload_n hx hb dX1_settle_4 rfl (lv_at hl 0 rfl) ?_
  refine r_getI hx hb hts iw1 hown hK hw o0 5 g10 (by decide) rfl (by decide) rfl (hq _ qw198) (fun _ h9 => h9) dX1_settle_5 ?_
  replace h := gd_some h
  obtain ⟨g12, h⟩ := h
  replace h := bd_some h
  obtain ⟨q13, eq13, h⟩ := h
  refine r_aald hx hb hK hw q11 3 (by decide) rfl g12 dX1_settle_8 eq13 ?_
  refine lv_astore (lv' := [(4, .ref (ad q13)), (0, .ref (ad o0)), (1, .int a1), (2, .int a2), (3, .int a3)]) hx hb dX1_settle_9 hl (by decide) rfl (fun ls hl => ?_)
  refine lv_aload_n hx hb dX1_settle_11 rfl (lv_at hl 1 rfl) ?_
  replace h := bd_some h
  obtain ⟨q14, eq14, h⟩ := h
  refine r_getR hx hb hts iw1 hown hK hw o0 0 g10 (by decide) rfl (by decide) rfl (hq _ qw182) (fun _ h9 => h9) dX1_settle_12 eq14 ?_
  refine lv_aload hx hb dX1_settle_15 (lv_at hl 0 rfl) ?_
  replace h := gd_some h
  obtain ⟨g15, h⟩ := h
  refine r_getI hx hb hts iw0 hown hK hw q13 0 g15 (by decide) rfl (by decide) rfl (hq _ qw138) (fun _ h9 => h9) dX1_settle_17 ?_
  replace h := gd_some h
  obtain ⟨g16, h⟩ := h
  replace h := bd_some h
  obtain ⟨q17, eq17, h⟩ := h
  refine r_aald hx hb hK hw q14 2 (by decide) rfl g16 dX1_settle_20 eq17 ?_
  refine lv_astore (lv' := [(5, .ref (ad q17)), (4, .ref (ad q13)), (0, .ref (ad o0)), (1, .int a1), (2, .int a2), (3, .int a3)]) hx hb dX1_settle_21 hl (by decide) rfl (fun ls hl => ?_)
  refine lv_aload_n hx hb dX1_settle_23 rfl (lv_at hl 2 rfl) ?_
  replace h := bd_some h
  obtain ⟨q18, eq18, h⟩ := h
  refine r_getR hx hb hts iw1 hown hK hw o0 0 g10 (by decide) rfl (by decide) rfl (hq _ qw182) (fun _ h9 => h9) dX1_settle_24 eq18 ?_
  refine lv_aload hx hb dX1_settle_27 (lv_at hl 1 rfl) ?_
  refine r_getI hx hb hts iw0 hown hK hw q13 1 g15 (by decide) rfl (by decide) rfl (hq _ qw142) (fun _ h9 => h9) dX1_settle_29 ?_
  replace h := gd_some h
  obtain ⟨g19, h⟩ := h
  replace h := bd_some h
  obtain ⟨q20, eq20, h⟩ := h
  refine r_aald hx hb hK hw q18 2 (by decide) rfl g19 dX1_settle_32 eq20 ?_
  refine lv_astore (lv' := [(6, .ref (ad q20)), (5, .ref (ad q17)), (4, .ref (ad q13)), (0, .ref (ad o0)), (1, .int a1), (2, .int a2), (3, .int a3)]) hx hb dX1_settle_33 hl (by decide) rfl (fun ls hl => ?_)
  refine lv_aload_n hx hb dX1_settle_35 rfl (lv_at hl 3 rfl) ?_
  refine lv_iload_n hx hb dX1_settle_36 rfl (lv_at hl 4 rfl) ?_
  replace h := bd_some h
  obtain ⟨r21, er21, h⟩ := h
  refine r_callVi (As := [.int a1]) (rest := []) hF (c_X1_givenIfWonBy l D cy ad adK adV M o0 a1 r21 er21) (gW_goodV hcm qw632 qw629 qw630 qw631 qw62) hdX1_givenIfWonBy rfl ⟨Nat.le_of_ble_eq_true rfl, Nat.le_of_ble_eq_true rfl⟩ rfl rfl hZ hK hw g10 (by decide) rfl rfl hl.1 rfl (Nat.le_of_ble_eq_true rfl) ⟨Nat.zero_le _, Nat.zero_le _⟩ dX1_settle_37 (fun H locs hw => ?_)
  refine lv_istore (lv' := [(7, .int r21.2), (6, .ref (ad q20)), (5, .ref (ad q17)), (4, .ref (ad q13)), (0, .ref (ad o0)), (1, .int a1), (2, .int a2), (3, .int a3)]) hx hb dX1_settle_40 hl (by decide) rfl (fun ls hl => ?_)
  refine lv_aload hx hb dX1_settle_42 (lv_at hl 3 rfl) ?_
  refine lv_iload_n hx hb dX1_settle_44 rfl (lv_at hl 5 rfl) ?_
  refine r_putI hx hb hts iw0 tyX0 tyX0_ok nmX0 hown hK hw q13 3 g15 (by decide) rfl (by decide) rfl (hq _ qw150) (fun _ h9 => h9) rfl rfl rfl dX1_settle_45 (fun H locs hw => ?_)
  replace h := lt_some h
  obtain ⟨M22, eM22, h⟩ := h
  rw [← eM22] at hw
  refine lv_aload hx hb dX1_settle_48 (lv_at hl 3 rfl) ?_
  refine lv_iload hx hb dX1_settle_50 (lv_at hl 0 rfl) ?_
  refine r_putI hx hb hts iw0 tyX0 tyX0_ok nmX0 hown hK hw q13 4 g15 (by decide) rfl (by decide) rfl (hq _ qw154) (fun _ h9 => h9) rfl rfl rfl dX1_settle_52 (fun H locs hw => ?_)
  replace h := lt_some h
  obtain ⟨M23, eM23, h⟩ := h
  rw [← eM23] at hw
  refine lv_aload hx hb dX1_settle_55 (lv_at hl 3 rfl) ?_
  refine lv_aload hx hb dX1_settle_57 (lv_at hl 2 rfl) ?_
  replace h := gd_some h
  obtain ⟨g24, h⟩ := h
  refine r_getI hx hb hts iw3 hown hK hw q17 4 g24 (by decide) rfl (by decide) rfl (hq _ qw112) (fun _ h9 => h9) dX1_settle_59 ?_
  refine r_putI hx hb hts iw0 tyX0 tyX0_ok nmX0 hown hK hw q13 5 g15 (by decide) rfl (by decide) rfl (hq _ qw156) (fun _ h9 => h9) rfl rfl rfl dX1_settle_62 (fun H locs hw => ?_)
  replace h := lt_some h
  obtain ⟨M25, eM25, h⟩ := h
  rw [← eM25] at hw
  refine lv_aload hx hb dX1_settle_65 (lv_at hl 3 rfl) ?_
  refine lv_aload hx hb dX1_settle_67 (lv_at hl 1 rfl) ?_
  replace h := gd_some h
  obtain ⟨g26, h⟩ := h
  refine r_getI hx hb hts iw3 hown hK hw q20 4 g26 (by decide) rfl (by decide) rfl (hq _ qw112) (fun _ h9 => h9) dX1_settle_69 ?_
  refine r_putI hx hb hts iw0 tyX0 tyX0_ok nmX0 hown hK hw q13 6 g15 (by decide) rfl (by decide) rfl (hq _ qw158) (fun _ h9 => h9) rfl rfl rfl dX1_settle_72 (fun H locs hw => ?_)
  replace h := lt_some h
  obtain ⟨M27, eM27, h⟩ := h
  rw [← eM27] at hw
  refine lv_aload hx hb dX1_settle_75 (lv_at hl 3 rfl) ?_
  refine lv_aload hx hb dX1_settle_77 (lv_at hl 2 rfl) ?_
  refine r_getI hx hb hts iw3 hown hK hw q17 5 g24 (by decide) rfl (by decide) rfl (hq _ qw115) (fun _ h9 => h9) dX1_settle_79 ?_
  replace h := gd_some h
  obtain ⟨z28, h⟩ := h
  refine r_putI hx hb hts iw0 tyX0 tyX0_ok nmX0 hown hK hw q13 7 g15 (by decide) rfl (by decide) rfl (hq _ qw160) (fun _ h9 => h9) rfl (nar_bz z28) (fit_bz z28) dX1_settle_82 (fun H locs hw => ?_)
  replace h := lt_some h
  obtain ⟨M29, eM29, h⟩ := h
  rw [← eM29] at hw
  refine lv_aload hx hb dX1_settle_85 (lv_at hl 3 rfl) ?_
  refine lv_aload hx hb dX1_settle_87 (lv_at hl 1 rfl) ?_
  refine r_getI hx hb hts iw3 hown hK hw q20 5 g26 (by decide) rfl (by decide) rfl (hq _ qw115) (fun _ h9 => h9) dX1_settle_89 ?_
  replace h := gd_some h
  obtain ⟨z30, h⟩ := h
  refine r_putI hx hb hts iw0 tyX0 tyX0_ok nmX0 hown hK hw q13 8 g15 (by decide) rfl (by decide) rfl (hq _ qw162) (fun _ h9 => h9) rfl (nar_bz z30) (fit_bz z30) dX1_settle_92 (fun H locs hw => ?_)
  replace h := lt_some h
  obtain ⟨M31, eM31, h⟩ := h
  rw [← eM31] at hw
  refine lv_aload hx hb dX1_settle_95 (lv_at hl 2 rfl) ?_
  refine lv_iload hx hb dX1_settle_97 (lv_at hl 0 rfl) ?_
  refine lv_aload hx hb dX1_settle_99 (lv_at hl 3 rfl) ?_
  refine r_getI hx hb hts iw0 hown hK hw q13 0 g15 (by decide) rfl (by decide) rfl (hq _ qw138) (fun _ h9 => h9) dX1_settle_101 ?_
  refine lv_icmp_ne (tgt := 111) hx hb dX1_settle_104 (by decide) (fun c32 => ?_) (fun c32 => ?_)
  · replace h := if_some_f c32 h
    refine lv_iconst (v := (0 : Int32)) hx hb dX1_settle_111 (by decide) ?_
    exact hb112 _ _ _ _ _ _ _ _ _ h _ _ _ hw (lv_sub hl [4, 6, 7, 3, 1, 0] rfl)
  · replace h := if_some_t c32 h
    refine lv_iconst (v := (1 : Int32)) hx hb dX1_settle_107 (by decide) ?_
    refine lv_goto (tgt := 112) hx hb dX1_settle_108 (by decide) ?_
    exact hb112 _ _ _ _ _ _ _ _ _ h _ _ _ hw (lv_sub hl [4, 6, 7, 3, 1, 0] rfl)
theorem dX1_takeBack_0 : decode cX1_takeBack 0 = .ok (.aload_n 0, 1) := by decide +kernel
theorem dX1_takeBack_1 : decode cX1_takeBack 1 = .ok (.getfield 34, 3) := by decide +kernel
theorem dX1_takeBack_4 : decode cX1_takeBack 4 = .ok (.ifCond .ne 4, 3) := by decide +kernel
theorem dX1_takeBack_7 : decode cX1_takeBack 7 = .ok (.return_, 1) := by decide +kernel
theorem dX1_takeBack_8 : decode cX1_takeBack 8 = .ok (.aload_n 0, 1) := by decide +kernel
theorem dX1_takeBack_9 : decode cX1_takeBack 9 = .ok (.dup, 1) := by decide +kernel
theorem dX1_takeBack_10 : decode cX1_takeBack 10 = .ok (.getfield 34, 3) := by decide +kernel
theorem dX1_takeBack_13 : decode cX1_takeBack 13 = .ok (.iconst 1, 1) := by decide +kernel
theorem dX1_takeBack_14 : decode cX1_takeBack 14 = .ok (.isub, 1) := by decide +kernel
theorem dX1_takeBack_15 : decode cX1_takeBack 15 = .ok (.putfield 34, 3) := by decide +kernel
theorem dX1_takeBack_18 : decode cX1_takeBack 18 = .ok (.aload_n 0, 1) := by decide +kernel
theorem dX1_takeBack_19 : decode cX1_takeBack 19 = .ok (.getfield 19, 3) := by decide +kernel
theorem dX1_takeBack_22 : decode cX1_takeBack 22 = .ok (.aload_n 0, 1) := by decide +kernel
theorem dX1_takeBack_23 : decode cX1_takeBack 23 = .ok (.getfield 34, 3) := by decide +kernel
theorem dX1_takeBack_26 : decode cX1_takeBack 26 = .ok (.aaload, 1) := by decide +kernel
theorem dX1_takeBack_27 : decode cX1_takeBack 27 = .ok (.astore_n 1, 1) := by decide +kernel
theorem dX1_takeBack_28 : decode cX1_takeBack 28 = .ok (.aload_n 0, 1) := by decide +kernel
theorem dX1_takeBack_29 : decode cX1_takeBack 29 = .ok (.getfield 11, 3) := by decide +kernel
theorem dX1_takeBack_32 : decode cX1_takeBack 32 = .ok (.aload_n 1, 1) := by decide +kernel
theorem dX1_takeBack_33 : decode cX1_takeBack 33 = .ok (.getfield 92, 3) := by decide +kernel
theorem dX1_takeBack_36 : decode cX1_takeBack 36 = .ok (.aaload, 1) := by decide +kernel
theorem dX1_takeBack_37 : decode cX1_takeBack 37 = .ok (.dup, 1) := by decide +kernel
theorem dX1_takeBack_38 : decode cX1_takeBack 38 = .ok (.getfield 121, 3) := by decide +kernel
theorem dX1_takeBack_41 : decode cX1_takeBack 41 = .ok (.aload_n 1, 1) := by decide +kernel
theorem dX1_takeBack_42 : decode cX1_takeBack 42 = .ok (.getfield 85, 3) := by decide +kernel
theorem dX1_takeBack_45 : decode cX1_takeBack 45 = .ok (.isub, 1) := by decide +kernel
theorem dX1_takeBack_46 : decode cX1_takeBack 46 = .ok (.putfield 121, 3) := by decide +kernel
theorem dX1_takeBack_49 : decode cX1_takeBack 49 = .ok (.aload_n 0, 1) := by decide +kernel
theorem dX1_takeBack_50 : decode cX1_takeBack 50 = .ok (.getfield 11, 3) := by decide +kernel
theorem dX1_takeBack_53 : decode cX1_takeBack 53 = .ok (.aload_n 1, 1) := by decide +kernel
theorem dX1_takeBack_54 : decode cX1_takeBack 54 = .ok (.getfield 79, 3) := by decide +kernel
theorem dX1_takeBack_57 : decode cX1_takeBack 57 = .ok (.aaload, 1) := by decide +kernel
theorem dX1_takeBack_58 : decode cX1_takeBack 58 = .ok (.aload_n 1, 1) := by decide +kernel
theorem dX1_takeBack_59 : decode cX1_takeBack 59 = .ok (.getfield 130, 3) := by decide +kernel
theorem dX1_takeBack_62 : decode cX1_takeBack 62 = .ok (.putfield 95, 3) := by decide +kernel
theorem dX1_takeBack_65 : decode cX1_takeBack 65 = .ok (.aload_n 0, 1) := by decide +kernel
theorem dX1_takeBack_66 : decode cX1_takeBack 66 = .ok (.getfield 11, 3) := by decide +kernel
theorem dX1_takeBack_69 : decode cX1_takeBack 69 = .ok (.aload_n 1, 1) := by decide +kernel
theorem dX1_takeBack_70 : decode cX1_takeBack 70 = .ok (.getfield 79, 3) := by decide +kernel
theorem dX1_takeBack_73 : decode cX1_takeBack 73 = .ok (.aaload, 1) := by decide +kernel
theorem dX1_takeBack_74 : decode cX1_takeBack 74 = .ok (.aload_n 1, 1) := by decide +kernel
theorem dX1_takeBack_75 : decode cX1_takeBack 75 = .ok (.getfield 136, 3) := by decide +kernel
theorem dX1_takeBack_78 : decode cX1_takeBack 78 = .ok (.putfield 111, 3) := by decide +kernel
theorem dX1_takeBack_81 : decode cX1_takeBack 81 = .ok (.aload_n 0, 1) := by decide +kernel
theorem dX1_takeBack_82 : decode cX1_takeBack 82 = .ok (.getfield 11, 3) := by decide +kernel
theorem dX1_takeBack_85 : decode cX1_takeBack 85 = .ok (.aload_n 1, 1) := by decide +kernel
theorem dX1_takeBack_86 : decode cX1_takeBack 86 = .ok (.getfield 82, 3) := by decide +kernel
theorem dX1_takeBack_89 : decode cX1_takeBack 89 = .ok (.aaload, 1) := by decide +kernel
theorem dX1_takeBack_90 : decode cX1_takeBack 90 = .ok (.aload_n 1, 1) := by decide +kernel
theorem dX1_takeBack_91 : decode cX1_takeBack 91 = .ok (.getfield 133, 3) := by decide +kernel
theorem dX1_takeBack_94 : decode cX1_takeBack 94 = .ok (.putfield 95, 3) := by decide +kernel
theorem dX1_takeBack_97 : decode cX1_takeBack 97 = .ok (.aload_n 0, 1) := by decide +kernel
theorem dX1_takeBack_98 : decode cX1_takeBack 98 = .ok (.getfield 11, 3) := by decide +kernel
theorem dX1_takeBack_101 : decode cX1_takeBack 101 = .ok (.aload_n 1, 1) := by decide +kernel
theorem dX1_takeBack_102 : decode cX1_takeBack 102 = .ok (.getfield 82, 3) := by decide +kernel
theorem dX1_takeBack_105 : decode cX1_takeBack 105 = .ok (.aaload, 1) := by decide +kernel
theorem dX1_takeBack_106 : decode cX1_takeBack 106 = .ok (.aload_n 1, 1) := by decide +kernel
theorem dX1_takeBack_107 : decode cX1_takeBack 107 = .ok (.getfield 139, 3) := by decide +kernel
theorem dX1_takeBack_110 : decode cX1_takeBack 110 = .ok (.putfield 111, 3) := by decide +kernel
theorem dX1_takeBack_113 : decode cX1_takeBack 113 = .ok (.return_, 1) := by decide +kernel
set_option maxHeartbeats 4000000 in
set_option maxRecDepth 100000 in
theorem c_X1_takeBack (l : Launch) (D : va_G) (cy : Nat → ClassId) (ad adK adV : Nat → Nat) (M : Mm) (o0 : Nat) (res : Mm × Unit) (h : f_X1_takeBack M o0 = some res) : Met l yX1_takeBack (wU yX1_takeBack cX1_takeBack 2 none) rmX1_takeBack (va_Pc [.ref (ad o0)] (Pre D cy shX ad nX adK adV M)) (va_Qv (fun (M2 : Mm) => M2 = res.1) (Pre D cy shX ad nX adK adV) (Aw ad nX)) 0 0 (Aw ad nX) := by
  refine Met.ofW (cc := cX1_takeBack) (maxL := 2) (ret := none) (by decide) rfl ?_
  intro p e s m args below meth c s₁ B hml hv
  obtain ⟨hargs, hPre⟩ := hv
  have hx := B.exec
  have hb := B.bytes
  have hr := B.returns
  have hts := atoms_spec (ws := wU yX1_takeBack cX1_takeBack 2 none) B.pre
  have hq : ∀ w ∈ gW, w.before args s = true := fun w hw => hts w (List.mem_cons_of_mem _ hw)
  have hcm : ∀ w ∈ gW, w ∈ wU yX1_takeBack cX1_takeBack 2 none := fun w hw => List.mem_cons_of_mem _ hw
  have hown : s.vm.findClass RX1 = some m.cls := findClass_of_methodNamed B.named
  have hlocks := B.notSynchronized
  have hF : CallFix p m c cX1_takeBack 2 s args (wU yX1_takeBack cX1_takeBack 2 none) RX1 := ⟨hx, hb, hml, hown, hts⟩
  have hK := hPre.2.1
  have hZ := hPre.2.2.2
  have hw : Wd D cy shX ad nX (Aw ad nX) s.heap M s.heap [] := ⟨hPre.1, hPre.2.2.1, va_S.rf⟩
  have iw0 : ∀ w ∈ u_ws RX0 TX0 9, w ∈ wU yX1_takeBack cX1_takeBack 2 none := fun w hw => List.mem_cons_of_mem _ (iX0 w hw)
  have iw1 : ∀ w ∈ u_ws RX1 TX1 11, w ∈ wU yX1_takeBack cX1_takeBack 2 none := fun w hw => List.mem_cons_of_mem _ (iX1 w hw)
  have iw3 : ∀ w ∈ u_ws RX3 TX3 6, w ∈ wU yX1_takeBack cX1_takeBack 2 none := fun w hw => List.mem_cons_of_mem _ (iX3 w hw)
  rw [show entryFrame m args 2 = entryFrame m ([.ref (ad o0)] : List Value).toArray 2 from by rw [hargs]]
  have hl := lv_entry ([.ref (ad o0)]) (n := 2) (Nat.le_of_ble_eq_true rfl)
  rw [lg_entry_eq]
  generalize (lg_sl ([.ref (ad o0)]) ++ List.replicate (2 - (lg_sl ([.ref (ad o0)])).length) Slot.unset).toArray = ls at hl ⊢
  have hl : lv_has ls 2 [(0, .ref (ad o0))] := hl
  unfold f_X1_takeBack at h
  refine lv_aload_n hx hb dX1_takeBack_0 rfl (lv_at hl 0 rfl) ?_
  replace h := gd_some h
  obtain ⟨g1, h⟩ := h
  refine r_getI hx hb hts iw1 hown hK hw o0 5 g1 (by decide) rfl (by decide) rfl (hq _ qw198) (fun _ h9 => h9) dX1_takeBack_1 ?_
  refine lv_if_ne (tgt := 8) hx hb dX1_takeBack_4 (by decide) (fun c2 => ?_) (fun c2 => ?_)
  · replace h := if_some_f c2 h
    refine lv_aload_n hx hb dX1_takeBack_8 rfl (lv_at hl 0 rfl) ?_
    refine lv_dup hx hb dX1_takeBack_9 rfl ?_
    refine r_getI hx hb hts iw1 hown hK hw o0 5 g1 (by decide) rfl (by decide) rfl (hq _ qw198) (fun _ h9 => h9) dX1_takeBack_10 ?_
    refine lv_iconst (v := (1 : Int32)) hx hb dX1_takeBack_13 (by decide) ?_
    refine lv_isub hx hb dX1_takeBack_14 ?_
    refine r_putI hx hb hts iw1 tyX1 tyX1_ok nmX1 hown hK hw o0 5 g1 (by decide) rfl (by decide) rfl (hq _ qw198) (fun _ h9 => h9) rfl rfl rfl dX1_takeBack_15 (fun H locs hw => ?_)
    replace h := lt_some h
    obtain ⟨M3, eM3, h⟩ := h
    rw [← eM3] at hw
    refine lv_aload_n hx hb dX1_takeBack_18 rfl (lv_at hl 0 rfl) ?_
    replace h := bd_some h
    obtain ⟨q4, eq4, h⟩ := h
    refine r_getR hx hb hts iw1 hown hK hw o0 1 g1 (by decide) rfl (by decide) rfl (hq _ qw185) (fun _ h9 => h9) dX1_takeBack_19 eq4 ?_
    refine lv_aload_n hx hb dX1_takeBack_22 rfl (lv_at hl 0 rfl) ?_
    refine r_getI hx hb hts iw1 hown hK hw o0 5 g1 (by decide) rfl (by decide) rfl (hq _ qw198) (fun _ h9 => h9) dX1_takeBack_23 ?_
    replace h := gd_some h
    obtain ⟨g5, h⟩ := h
    replace h := bd_some h
    obtain ⟨q6, eq6, h⟩ := h
    refine r_aald hx hb hK hw q4 3 (by decide) rfl g5 dX1_takeBack_26 eq6 ?_
    refine lv_astore_n (lv' := [(1, .ref (ad q6)), (0, .ref (ad o0))]) hx hb dX1_takeBack_27 rfl hl (by decide) rfl (fun ls hl => ?_)
    refine lv_aload_n hx hb dX1_takeBack_28 rfl (lv_at hl 1 rfl) ?_
    replace h := bd_some h
    obtain ⟨q7, eq7, h⟩ := h
    refine r_getR hx hb hts iw1 hown hK hw o0 0 g1 (by decide) rfl (by decide) rfl (hq _ qw182) (fun _ h9 => h9) dX1_takeBack_29 eq7 ?_
    refine lv_aload_n hx hb dX1_takeBack_32 rfl (lv_at hl 0 rfl) ?_
    replace h := gd_some h
    obtain ⟨g8, h⟩ := h
    refine r_getI hx hb hts iw0 hown hK hw q6 4 g8 (by decide) rfl (by decide) rfl (hq _ qw154) (fun _ h9 => h9) dX1_takeBack_33 ?_
    replace h := gd_some h
    obtain ⟨g9, h⟩ := h
    replace h := bd_some h
    obtain ⟨q10, eq10, h⟩ := h
    refine r_aald hx hb hK hw q7 2 (by decide) rfl g9 dX1_takeBack_36 eq10 ?_
    refine lv_dup hx hb dX1_takeBack_37 rfl ?_
    replace h := gd_some h
    obtain ⟨g11, h⟩ := h
    refine r_getI hx hb hts iw3 hown hK hw q10 3 g11 (by decide) rfl (by decide) rfl (hq _ qw110) (fun _ h9 => h9) dX1_takeBack_38 ?_
    refine lv_aload_n hx hb dX1_takeBack_41 rfl (lv_at hl 0 rfl) ?_
    refine r_getI hx hb hts iw0 hown hK hw q6 2 g8 (by decide) rfl (by decide) rfl (hq _ qw146) (fun _ h9 => h9) dX1_takeBack_42 ?_
    refine lv_isub hx hb dX1_takeBack_45 ?_
    refine r_putI hx hb hts iw3 tyX3 tyX3_ok nmX3 hown hK hw q10 3 g11 (by decide) rfl (by decide) rfl (hq _ qw110) (fun _ h9 => h9) rfl rfl rfl dX1_takeBack_46 (fun H locs hw => ?_)
    replace h := lt_some h
    obtain ⟨M12, eM12, h⟩ := h
    rw [← eM12] at hw
    refine lv_aload_n hx hb dX1_takeBack_49 rfl (lv_at hl 1 rfl) ?_
    replace h := bd_some h
    obtain ⟨q13, eq13, h⟩ := h
    refine r_getR hx hb hts iw1 hown hK hw o0 0 g1 (by decide) rfl (by decide) rfl (hq _ qw182) (fun _ h9 => h9) dX1_takeBack_50 eq13 ?_
    refine lv_aload_n hx hb dX1_takeBack_53 rfl (lv_at hl 0 rfl) ?_
    refine r_getI hx hb hts iw0 hown hK hw q6 0 g8 (by decide) rfl (by decide) rfl (hq _ qw138) (fun _ h9 => h9) dX1_takeBack_54 ?_
    replace h := gd_some h
    obtain ⟨g14, h⟩ := h
    replace h := bd_some h
    obtain ⟨q15, eq15, h⟩ := h
    refine r_aald hx hb hK hw q13 2 (by decide) rfl g14 dX1_takeBack_57 eq15 ?_
    refine lv_aload_n hx hb dX1_takeBack_58 rfl (lv_at hl 0 rfl) ?_
    refine r_getI hx hb hts iw0 hown hK hw q6 5 g8 (by decide) rfl (by decide) rfl (hq _ qw156) (fun _ h9 => h9) dX1_takeBack_59 ?_
    replace h := gd_some h
    obtain ⟨g16, h⟩ := h
    refine r_putI hx hb hts iw3 tyX3 tyX3_ok nmX3 hown hK hw q15 4 g16 (by decide) rfl (by decide) rfl (hq _ qw112) (fun _ h9 => h9) rfl rfl rfl dX1_takeBack_62 (fun H locs hw => ?_)
    replace h := lt_some h
    obtain ⟨M17, eM17, h⟩ := h
    rw [← eM17] at hw
    refine lv_aload_n hx hb dX1_takeBack_65 rfl (lv_at hl 1 rfl) ?_
    replace h := bd_some h
    obtain ⟨q18, eq18, h⟩ := h
    refine r_getR hx hb hts iw1 hown hK hw o0 0 g1 (by decide) rfl (by decide) rfl (hq _ qw182) (fun _ h9 => h9) dX1_takeBack_66 eq18 ?_
    refine lv_aload_n hx hb dX1_takeBack_69 rfl (lv_at hl 0 rfl) ?_
    refine r_getI hx hb hts iw0 hown hK hw q6 0 g8 (by decide) rfl (by decide) rfl (hq _ qw138) (fun _ h9 => h9) dX1_takeBack_70 ?_
    replace h := gd_some h
    obtain ⟨g19, h⟩ := h
    replace h := bd_some h
    obtain ⟨q20, eq20, h⟩ := h
    refine r_aald hx hb hK hw q18 2 (by decide) rfl g19 dX1_takeBack_73 eq20 ?_
    refine lv_aload_n hx hb dX1_takeBack_74 rfl (lv_at hl 0 rfl) ?_
    refine r_getI hx hb hts iw0 hown hK hw q6 7 g8 (by decide) rfl (by decide) rfl (hq _ qw160) (fun _ h9 => h9) dX1_takeBack_75 ?_
    replace h := gd_some h
    obtain ⟨g21, h⟩ := h
    replace h := gd_some h
    obtain ⟨z22, h⟩ := h
    refine r_putI hx hb hts iw3 tyX3 tyX3_ok nmX3 hown hK hw q20 5 g21 (by decide) rfl (by decide) rfl (hq _ qw115) (fun _ h9 => h9) rfl (nar_bz z22) (fit_bz z22) dX1_takeBack_78 (fun H locs hw => ?_)
    replace h := lt_some h
    obtain ⟨M23, eM23, h⟩ := h
    rw [← eM23] at hw
    refine lv_aload_n hx hb dX1_takeBack_81 rfl (lv_at hl 1 rfl) ?_
    replace h := bd_some h
    obtain ⟨q24, eq24, h⟩ := h
    refine r_getR hx hb hts iw1 hown hK hw o0 0 g1 (by decide) rfl (by decide) rfl (hq _ qw182) (fun _ h9 => h9) dX1_takeBack_82 eq24 ?_
    refine lv_aload_n hx hb dX1_takeBack_85 rfl (lv_at hl 0 rfl) ?_
    refine r_getI hx hb hts iw0 hown hK hw q6 1 g8 (by decide) rfl (by decide) rfl (hq _ qw142) (fun _ h9 => h9) dX1_takeBack_86 ?_
    replace h := gd_some h
    obtain ⟨g25, h⟩ := h
    replace h := bd_some h
    obtain ⟨q26, eq26, h⟩ := h
    refine r_aald hx hb hK hw q24 2 (by decide) rfl g25 dX1_takeBack_89 eq26 ?_
    refine lv_aload_n hx hb dX1_takeBack_90 rfl (lv_at hl 0 rfl) ?_
    refine r_getI hx hb hts iw0 hown hK hw q6 6 g8 (by decide) rfl (by decide) rfl (hq _ qw158) (fun _ h9 => h9) dX1_takeBack_91 ?_
    replace h := gd_some h
    obtain ⟨g27, h⟩ := h
    refine r_putI hx hb hts iw3 tyX3 tyX3_ok nmX3 hown hK hw q26 4 g27 (by decide) rfl (by decide) rfl (hq _ qw112) (fun _ h9 => h9) rfl rfl rfl dX1_takeBack_94 (fun H locs hw => ?_)
    replace h := lt_some h
    obtain ⟨M28, eM28, h⟩ := h
    rw [← eM28] at hw
    refine lv_aload_n hx hb dX1_takeBack_97 rfl (lv_at hl 1 rfl) ?_
    replace h := bd_some h
    obtain ⟨q29, eq29, h⟩ := h
    refine r_getR hx hb hts iw1 hown hK hw o0 0 g1 (by decide) rfl (by decide) rfl (hq _ qw182) (fun _ h9 => h9) dX1_takeBack_98 eq29 ?_
    refine lv_aload_n hx hb dX1_takeBack_101 rfl (lv_at hl 0 rfl) ?_
    refine r_getI hx hb hts iw0 hown hK hw q6 1 g8 (by decide) rfl (by decide) rfl (hq _ qw142) (fun _ h9 => h9) dX1_takeBack_102 ?_
    replace h := gd_some h
    obtain ⟨g30, h⟩ := h
    replace h := bd_some h
    obtain ⟨q31, eq31, h⟩ := h
    refine r_aald hx hb hK hw q29 2 (by decide) rfl g30 dX1_takeBack_105 eq31 ?_
    refine lv_aload_n hx hb dX1_takeBack_106 rfl (lv_at hl 0 rfl) ?_
    refine r_getI hx hb hts iw0 hown hK hw q6 8 g8 (by decide) rfl (by decide) rfl (hq _ qw162) (fun _ h9 => h9) dX1_takeBack_107 ?_
    replace h := gd_some h
    obtain ⟨g32, h⟩ := h
    replace h := gd_some h
    obtain ⟨z33, h⟩ := h
    refine r_putI hx hb hts iw3 tyX3 tyX3_ok nmX3 hown hK hw q31 5 g32 (by decide) rfl (by decide) rfl (hq _ qw115) (fun _ h9 => h9) rfl (nar_bz z33) (fit_bz z33) dX1_takeBack_110 (fun H locs hw => ?_)
    replace h := lt_some h
    obtain ⟨M34, eM34, h⟩ := h
    rw [← eM34] at hw
    exact r_vret hx hb hr hlocks hZ hK hw h dX1_takeBack_113
  · replace h := if_some_t c2 h
    exact r_vret hx hb hr hlocks hZ hK hw h dX1_takeBack_7
theorem dX1_canBeWonBy_0 : decode cX1_canBeWonBy 0 = .ok (.aload_n 0, 1) := by decide +kernel
theorem dX1_canBeWonBy_1 : decode cX1_canBeWonBy 1 = .ok (.invokevirtual 146, 3) := by decide +kernel
theorem dX1_canBeWonBy_4 : decode cX1_canBeWonBy 4 = .ok (.ifCond .ne 23, 3) := by decide +kernel
theorem dX1_canBeWonBy_7 : decode cX1_canBeWonBy 7 = .ok (.aload_n 0, 1) := by decide +kernel
theorem dX1_canBeWonBy_8 : decode cX1_canBeWonBy 8 = .ok (.getfield 19, 3) := by decide +kernel
theorem dX1_canBeWonBy_11 : decode cX1_canBeWonBy 11 = .ok (.aload_n 0, 1) := by decide +kernel
theorem dX1_canBeWonBy_12 : decode cX1_canBeWonBy 12 = .ok (.getfield 34, 3) := by decide +kernel
theorem dX1_canBeWonBy_15 : decode cX1_canBeWonBy 15 = .ok (.aaload, 1) := by decide +kernel
theorem dX1_canBeWonBy_16 : decode cX1_canBeWonBy 16 = .ok (.iload_n 1, 1) := by decide +kernel
theorem dX1_canBeWonBy_17 : decode cX1_canBeWonBy 17 = .ok (.invokevirtual 88, 3) := by decide +kernel
theorem dX1_canBeWonBy_20 : decode cX1_canBeWonBy 20 = .ok (.ifCond .eq 7, 3) := by decide +kernel
theorem dX1_canBeWonBy_23 : decode cX1_canBeWonBy 23 = .ok (.iconst 1, 1) := by decide +kernel
theorem dX1_canBeWonBy_24 : decode cX1_canBeWonBy 24 = .ok (.goto 4, 3) := by decide +kernel
theorem dX1_canBeWonBy_27 : decode cX1_canBeWonBy 27 = .ok (.iconst 0, 1) := by decide +kernel
theorem dX1_canBeWonBy_28 : decode cX1_canBeWonBy 28 = .ok (.ireturn, 1) := by decide +kernel
set_option maxHeartbeats 4000000 in
set_option maxRecDepth 100000 in
theorem c_X1_canBeWonBy (l : Launch) (D : va_G) (cy : Nat → ClassId) (ad adK adV : Nat → Nat) (M : Mm) (o0 : Nat) (a1 : Int32) (res : Mm × Int32) (h : f_X1_canBeWonBy M o0 a1 = some res) : Met l yX1_canBeWonBy (wU yX1_canBeWonBy cX1_canBeWonBy 2 (some .boolean)) rmX1_canBeWonBy (va_Pc [.ref (ad o0), .int a1] (Pre D cy shX ad nX adK adV M)) (va_Qi (fun r (M2 : Mm) => r = res.2 ∧ M2 = res.1) (Pre D cy shX ad nX adK adV) (Aw ad nX)) 0 0 (Aw ad nX) := by
  refine Met.ofW (cc := cX1_canBeWonBy) (maxL := 2) (ret := (some .boolean)) (by decide) rfl ?_
  intro p e s m args below meth c s₁ B hml hv
  obtain ⟨hargs, hPre⟩ := hv
  have hx := B.exec
  have hb := B.bytes
  have hr := B.returns
  have hts := atoms_spec (ws := wU yX1_canBeWonBy cX1_canBeWonBy 2 (some .boolean)) B.pre
  have hq : ∀ w ∈ gW, w.before args s = true := fun w hw => hts w (List.mem_cons_of_mem _ hw)
  have hcm : ∀ w ∈ gW, w ∈ wU yX1_canBeWonBy cX1_canBeWonBy 2 (some .boolean) := fun w hw => List.mem_cons_of_mem _ hw
  have hown : s.vm.findClass RX1 = some m.cls := findClass_of_methodNamed B.named
  have hlocks := B.notSynchronized
  have hF : CallFix p m c cX1_canBeWonBy 2 s args (wU yX1_canBeWonBy cX1_canBeWonBy 2 (some .boolean)) RX1 := ⟨hx, hb, hml, hown, hts⟩
  have hK := hPre.2.1
  have hZ := hPre.2.2.2
  have hw : Wd D cy shX ad nX (Aw ad nX) s.heap M s.heap [] := ⟨hPre.1, hPre.2.2.1, va_S.rf⟩
  have iw1 : ∀ w ∈ u_ws RX1 TX1 11, w ∈ wU yX1_canBeWonBy cX1_canBeWonBy 2 (some .boolean) := fun w hw => List.mem_cons_of_mem _ (iX1 w hw)
  rw [show entryFrame m args 2 = entryFrame m ([.ref (ad o0), .int a1] : List Value).toArray 2 from by rw [hargs]]
  have hl := lv_entry ([.ref (ad o0), .int a1]) (n := 2) (Nat.le_of_ble_eq_true rfl)
  rw [lg_entry_eq]
  generalize (lg_sl ([.ref (ad o0), .int a1]) ++ List.replicate (2 - (lg_sl ([.ref (ad o0), .int a1])).length) Slot.unset).toArray = ls at hl ⊢
  have hl : lv_has ls 2 [(0, .ref (ad o0)), (1, .int a1)] := hl
  unfold f_X1_canBeWonBy at h
  refine lv_aload_n hx hb dX1_canBeWonBy_0 rfl (lv_at hl 0 rfl) ?_
  replace h := gd_some h
  obtain ⟨g2, h⟩ := h
  replace h := bd_some h
  obtain ⟨r1, er1, h⟩ := h
  refine r_callVi (As := []) (rest := []) hF (c_X1_allPlayed l D cy ad adK adV M o0 r1 er1) (gW_goodV hcm qw592 qw855 qw590 qw591 qw62) hdX1_allPlayed rfl ⟨Nat.le_of_ble_eq_true rfl, Nat.le_of_ble_eq_true rfl⟩ rfl rfl hZ hK hw g2 (by decide) rfl rfl hl.1 rfl (Nat.le_of_ble_eq_true rfl) ⟨Nat.zero_le _, Nat.zero_le _⟩ dX1_canBeWonBy_1 (fun H locs hw => ?_)
  refine lv_if_ne (tgt := 27) hx hb dX1_canBeWonBy_4 (by decide) (fun c3 => ?_) (fun c3 => ?_)
  · replace h := if_some_f c3 h
    refine lv_iconst (v := (0 : Int32)) hx hb dX1_canBeWonBy_27 (by decide) ?_
    exact r_iret hx hb hr rfl hlocks hZ hK hw h dX1_canBeWonBy_28
  · replace h := if_some_t c3 h
    refine lv_aload_n hx hb dX1_canBeWonBy_7 rfl (lv_at hl 0 rfl) ?_
    replace h := bd_some h
    obtain ⟨q4, eq4, h⟩ := h
    refine r_getR hx hb hts iw1 hown hK hw o0 1 g2 (by decide) rfl (by decide) rfl (hq _ qw185) (fun _ h9 => h9) dX1_canBeWonBy_8 eq4 ?_
    refine lv_aload_n hx hb dX1_canBeWonBy_11 rfl (lv_at hl 0 rfl) ?_
    refine r_getI hx hb hts iw1 hown hK hw o0 5 g2 (by decide) rfl (by decide) rfl (hq _ qw198) (fun _ h9 => h9) dX1_canBeWonBy_12 ?_
    replace h := gd_some h
    obtain ⟨g5, h⟩ := h
    replace h := bd_some h
    obtain ⟨q6, eq6, h⟩ := h
    refine r_aald hx hb hK hw q4 3 (by decide) rfl g5 dX1_canBeWonBy_15 eq6 ?_
    refine lv_iload_n hx hb dX1_canBeWonBy_16 rfl (lv_at hl 1 rfl) ?_
    replace h := gd_some h
    obtain ⟨g8, h⟩ := h
    replace h := bd_some h
    obtain ⟨r7, er7, h⟩ := h
    refine r_callVi (As := [.int a1]) (rest := []) hF (c_X0_isOf l D cy ad adK adV r1.1 q6 a1 r7 er7) (gW_goodV hcm qw403 qw400 qw401 qw402 qw64) hdX0_isOf rfl ⟨Nat.le_of_ble_eq_true rfl, Nat.le_of_ble_eq_true rfl⟩ rfl rfl hZ hK hw g8 (by decide) rfl rfl hl.1 rfl (Nat.le_of_ble_eq_true rfl) ⟨Nat.zero_le _, Nat.zero_le _⟩ dX1_canBeWonBy_17 (fun H locs hw => ?_)
    refine lv_if_eq (tgt := 27) hx hb dX1_canBeWonBy_20 (by decide) (fun c9 => ?_) (fun c9 => ?_)
    · replace h := if_some_t c9 h
      refine lv_iconst (v := (0 : Int32)) hx hb dX1_canBeWonBy_27 (by decide) ?_
      exact r_iret hx hb hr rfl hlocks hZ hK hw h dX1_canBeWonBy_28
    · replace h := if_some_f c9 h
      refine lv_iconst (v := (1 : Int32)) hx hb dX1_canBeWonBy_23 (by decide) ?_
      refine lv_goto (tgt := 28) hx hb dX1_canBeWonBy_24 (by decide) ?_
      exact r_iret hx hb hr rfl hlocks hZ hK hw h dX1_canBeWonBy_28
theorem dX1_playWonBy_0 : decode cX1_playWonBy 0 = .ok (.aload_n 0, 1) := by decide +kernel
theorem dX1_playWonBy_1 : decode cX1_playWonBy 1 = .ok (.iload_n 1, 1) := by decide +kernel
theorem dX1_playWonBy_2 : decode cX1_playWonBy 2 = .ok (.aload_n 0, 1) := by decide +kernel
theorem dX1_playWonBy_3 : decode cX1_playWonBy 3 = .ok (.aload_n 0, 1) := by decide +kernel
theorem dX1_playWonBy_4 : decode cX1_playWonBy 4 = .ok (.getfield 19, 3) := by decide +kernel
theorem dX1_playWonBy_7 : decode cX1_playWonBy 7 = .ok (.aload_n 0, 1) := by decide +kernel
theorem dX1_playWonBy_8 : decode cX1_playWonBy 8 = .ok (.getfield 34, 3) := by decide +kernel
theorem dX1_playWonBy_11 : decode cX1_playWonBy 11 = .ok (.aaload, 1) := by decide +kernel
theorem dX1_playWonBy_12 : decode cX1_playWonBy 12 = .ok (.getfield 79, 3) := by decide +kernel
theorem dX1_playWonBy_15 : decode cX1_playWonBy 15 = .ok (.invokevirtual 150, 3) := by decide +kernel
theorem dX1_playWonBy_18 : decode cX1_playWonBy 18 = .ok (.aload_n 0, 1) := by decide +kernel
theorem dX1_playWonBy_19 : decode cX1_playWonBy 19 = .ok (.aload_n 0, 1) := by decide +kernel
theorem dX1_playWonBy_20 : decode cX1_playWonBy 20 = .ok (.getfield 19, 3) := by decide +kernel
theorem dX1_playWonBy_23 : decode cX1_playWonBy 23 = .ok (.aload_n 0, 1) := by decide +kernel
theorem dX1_playWonBy_24 : decode cX1_playWonBy 24 = .ok (.getfield 34, 3) := by decide +kernel
theorem dX1_playWonBy_27 : decode cX1_playWonBy 27 = .ok (.aaload, 1) := by decide +kernel
theorem dX1_playWonBy_28 : decode cX1_playWonBy 28 = .ok (.getfield 82, 3) := by decide +kernel
theorem dX1_playWonBy_31 : decode cX1_playWonBy 31 = .ok (.invokevirtual 150, 3) := by decide +kernel
theorem dX1_playWonBy_34 : decode cX1_playWonBy 34 = .ok (.invokevirtual 153, 3) := by decide +kernel
theorem dX1_playWonBy_37 : decode cX1_playWonBy 37 = .ok (.ireturn, 1) := by decide +kernel
set_option maxHeartbeats 4000000 in
set_option maxRecDepth 100000 in
theorem c_X1_playWonBy (l : Launch) (D : va_G) (cy : Nat → ClassId) (ad adK adV : Nat → Nat) (M : Mm) (o0 : Nat) (a1 : Int32) (res : Mm × Int32) (h : f_X1_playWonBy M o0 a1 = some res) : Met l yX1_playWonBy (wU yX1_playWonBy cX1_playWonBy 2 (some .int)) rmX1_playWonBy (va_Pc [.ref (ad o0), .int a1] (Pre D cy shX ad nX adK adV M)) (va_Qi (fun r (M2 : Mm) => r = res.2 ∧ M2 = res.1) (Pre D cy shX ad nX adK adV) (Aw ad nX)) 0 0 (Aw ad nX) := by
  refine Met.ofW (cc := cX1_playWonBy) (maxL := 2) (ret := (some .int)) (by decide) rfl ?_
  intro p e s m args below meth c s₁ B hml hv
  obtain ⟨hargs, hPre⟩ := hv
  have hx := B.exec
  have hb := B.bytes
  have hr := B.returns
  have hts := atoms_spec (ws := wU yX1_playWonBy cX1_playWonBy 2 (some .int)) B.pre
  have hq : ∀ w ∈ gW, w.before args s = true := fun w hw => hts w (List.mem_cons_of_mem _ hw)
  have hcm : ∀ w ∈ gW, w ∈ wU yX1_playWonBy cX1_playWonBy 2 (some .int) := fun w hw => List.mem_cons_of_mem _ hw
  have hown : s.vm.findClass RX1 = some m.cls := findClass_of_methodNamed B.named
  have hlocks := B.notSynchronized
  have hF : CallFix p m c cX1_playWonBy 2 s args (wU yX1_playWonBy cX1_playWonBy 2 (some .int)) RX1 := ⟨hx, hb, hml, hown, hts⟩
  have hK := hPre.2.1
  have hZ := hPre.2.2.2
  have hw : Wd D cy shX ad nX (Aw ad nX) s.heap M s.heap [] := ⟨hPre.1, hPre.2.2.1, va_S.rf⟩
  have iw0 : ∀ w ∈ u_ws RX0 TX0 9, w ∈ wU yX1_playWonBy cX1_playWonBy 2 (some .int) := fun w hw => List.mem_cons_of_mem _ (iX0 w hw)
  have iw1 : ∀ w ∈ u_ws RX1 TX1 11, w ∈ wU yX1_playWonBy cX1_playWonBy 2 (some .int) := fun w hw => List.mem_cons_of_mem _ (iX1 w hw)
  rw [show entryFrame m args 2 = entryFrame m ([.ref (ad o0), .int a1] : List Value).toArray 2 from by rw [hargs]]
  have hl := lv_entry ([.ref (ad o0), .int a1]) (n := 2) (Nat.le_of_ble_eq_true rfl)
  rw [lg_entry_eq]
  generalize (lg_sl ([.ref (ad o0), .int a1]) ++ List.replicate (2 - (lg_sl ([.ref (ad o0), .int a1])).length) Slot.unset).toArray = ls at hl ⊢
  have hl : lv_has ls 2 [(0, .ref (ad o0)), (1, .int a1)] := hl
  unfold f_X1_playWonBy at h
  refine lv_aload_n hx hb dX1_playWonBy_0 rfl (lv_at hl 0 rfl) ?_
  refine lv_iload_n hx hb dX1_playWonBy_1 rfl (lv_at hl 1 rfl) ?_
  refine lv_aload_n hx hb dX1_playWonBy_2 rfl (lv_at hl 0 rfl) ?_
  refine lv_aload_n hx hb dX1_playWonBy_3 rfl (lv_at hl 0 rfl) ?_
  replace h := gd_some h
  obtain ⟨g1, h⟩ := h
  replace h := bd_some h
  obtain ⟨q2, eq2, h⟩ := h
  refine r_getR hx hb hts iw1 hown hK hw o0 1 g1 (by decide) rfl (by decide) rfl (hq _ qw185) (fun _ h9 => h9) dX1_playWonBy_4 eq2 ?_
  refine lv_aload_n hx hb dX1_playWonBy_7 rfl (lv_at hl 0 rfl) ?_
  refine r_getI hx hb hts iw1 hown hK hw o0 5 g1 (by decide) rfl (by decide) rfl (hq _ qw198) (fun _ h9 => h9) dX1_playWonBy_8 ?_
  replace h := gd_some h
  obtain ⟨g3, h⟩ := h
  replace h := bd_some h
  obtain ⟨q4, eq4, h⟩ := h
  refine r_aald hx hb hK hw q2 3 (by decide) rfl g3 dX1_playWonBy_11 eq4 ?_
  replace h := gd_some h
  obtain ⟨g5, h⟩ := h
  refine r_getI hx hb hts iw0 hown hK hw q4 0 g5 (by decide) rfl (by decide) rfl (hq _ qw138) (fun _ h9 => h9) dX1_playWonBy_12 ?_
  replace h := bd_some h
  obtain ⟨r6, er6, h⟩ := h
  refine r_callVi (As := [.int (M.1 q4 0)]) (rest := [.int a1, .ref (ad o0)]) hF (c_X1_effortOf l D cy ad adK adV M o0 (M.1 q4 0) r6 er6) (gW_goodV hcm qw596 qw624 qw594 qw595 qw62) hdX1_effortOf rfl ⟨Nat.le_of_ble_eq_true rfl, Nat.le_of_ble_eq_true rfl⟩ rfl rfl hZ hK hw g1 (by decide) rfl rfl hl.1 rfl (Nat.le_of_ble_eq_true rfl) ⟨Nat.zero_le _, Nat.zero_le _⟩ dX1_playWonBy_15 (fun H locs hw => ?_)
  refine lv_aload_n hx hb dX1_playWonBy_18 rfl (lv_at hl 0 rfl) ?_
  refine lv_aload_n hx hb dX1_playWonBy_19 rfl (lv_at hl 0 rfl) ?_
  replace h := bd_some h
  obtain ⟨q7, eq7, h⟩ := h
  refine r_getR hx hb hts iw1 hown hK hw o0 1 g1 (by decide) rfl (by decide) rfl (hq _ qw185) (fun _ h9 => h9) dX1_playWonBy_20 eq7 ?_
  refine lv_aload_n hx hb dX1_playWonBy_23 rfl (lv_at hl 0 rfl) ?_
  refine r_getI hx hb hts iw1 hown hK hw o0 5 g1 (by decide) rfl (by decide) rfl (hq _ qw198) (fun _ h9 => h9) dX1_playWonBy_24 ?_
  replace h := gd_some h
  obtain ⟨g8, h⟩ := h
  replace h := bd_some h
  obtain ⟨q9, eq9, h⟩ := h
  refine r_aald hx hb hK hw q7 3 (by decide) rfl g8 dX1_playWonBy_27 eq9 ?_
  replace h := gd_some h
  obtain ⟨g10, h⟩ := h
  refine r_getI hx hb hts iw0 hown hK hw q9 1 g10 (by decide) rfl (by decide) rfl (hq _ qw142) (fun _ h9 => h9) dX1_playWonBy_28 ?_
  replace h := bd_some h
  obtain ⟨r11, er11, h⟩ := h
  refine r_callVi (As := [.int (r6.1.1 q9 1)]) (rest := [.int r6.2, .int a1, .ref (ad o0)]) hF (c_X1_effortOf l D cy ad adK adV r6.1 o0 (r6.1.1 q9 1) r11 er11) (gW_goodV hcm qw596 qw624 qw594 qw595 qw62) hdX1_effortOf rfl ⟨Nat.le_of_ble_eq_true rfl, Nat.le_of_ble_eq_true rfl⟩ rfl rfl hZ hK hw g1 (by decide) rfl rfl hl.1 rfl (Nat.le_of_ble_eq_true rfl) ⟨Nat.zero_le _, Nat.zero_le _⟩ dX1_playWonBy_31 (fun H locs hw => ?_)
  replace h := bd_some h
  obtain ⟨r12, er12, h⟩ := h
  refine r_callVi (As := [.int a1, .int r6.2, .int r11.2]) (rest := []) hF (c_X1_settle l D cy ad adK adV r11.1 o0 a1 r6.2 r11.2 r12 er12) (gW_goodV hcm qw628 qw625 qw626 qw627 qw62) hdX1_settle rfl ⟨Nat.le_of_ble_eq_true rfl, Nat.le_of_ble_eq_true rfl⟩ rfl rfl hZ hK hw g1 (by decide) rfl rfl hl.1 rfl (Nat.le_of_ble_eq_true rfl) ⟨Nat.zero_le _, Nat.zero_le _⟩ dX1_playWonBy_34 (fun H locs hw => ?_)
  exact r_iret hx hb hr rfl hlocks hZ hK hw h dX1_playWonBy_37
theorem dX1_playDrawn_0 : decode cX1_playDrawn 0 = .ok (.aload_n 0, 1) := by decide +kernel
theorem dX1_playDrawn_1 : decode cX1_playDrawn 1 = .ok (.getfield 19, 3) := by decide +kernel
theorem dX1_playDrawn_4 : decode cX1_playDrawn 4 = .ok (.aload_n 0, 1) := by decide +kernel
theorem dX1_playDrawn_5 : decode cX1_playDrawn 5 = .ok (.getfield 34, 3) := by decide +kernel
theorem dX1_playDrawn_8 : decode cX1_playDrawn 8 = .ok (.aaload, 1) := by decide +kernel
theorem dX1_playDrawn_9 : decode cX1_playDrawn 9 = .ok (.astore_n 1, 1) := by decide +kernel
theorem dX1_playDrawn_10 : decode cX1_playDrawn 10 = .ok (.aload_n 0, 1) := by decide +kernel
theorem dX1_playDrawn_11 : decode cX1_playDrawn 11 = .ok (.aload_n 1, 1) := by decide +kernel
theorem dX1_playDrawn_12 : decode cX1_playDrawn 12 = .ok (.getfield 79, 3) := by decide +kernel
theorem dX1_playDrawn_15 : decode cX1_playDrawn 15 = .ok (.invokevirtual 150, 3) := by decide +kernel
theorem dX1_playDrawn_18 : decode cX1_playDrawn 18 = .ok (.istore_n 2, 1) := by decide +kernel
theorem dX1_playDrawn_19 : decode cX1_playDrawn 19 = .ok (.aload_n 0, 1) := by decide +kernel
theorem dX1_playDrawn_20 : decode cX1_playDrawn 20 = .ok (.aload_n 1, 1) := by decide +kernel
theorem dX1_playDrawn_21 : decode cX1_playDrawn 21 = .ok (.getfield 82, 3) := by decide +kernel
theorem dX1_playDrawn_24 : decode cX1_playDrawn 24 = .ok (.invokevirtual 150, 3) := by decide +kernel
theorem dX1_playDrawn_27 : decode cX1_playDrawn 27 = .ok (.istore_n 3, 1) := by decide +kernel
theorem dX1_playDrawn_28 : decode cX1_playDrawn 28 = .ok (.aload_n 0, 1) := by decide +kernel
theorem dX1_playDrawn_29 : decode cX1_playDrawn 29 = .ok (.aload_n 0, 1) := by decide +kernel
theorem dX1_playDrawn_30 : decode cX1_playDrawn 30 = .ok (.getfield 40, 3) := by decide +kernel
theorem dX1_playDrawn_33 : decode cX1_playDrawn 33 = .ok (.ldc 157, 2) := by decide +kernel
theorem dX1_playDrawn_35 : decode cX1_playDrawn 35 = .ok (.imul, 1) := by decide +kernel
theorem dX1_playDrawn_36 : decode cX1_playDrawn 36 = .ok (.sipush 12345, 3) := by decide +kernel
theorem dX1_playDrawn_39 : decode cX1_playDrawn 39 = .ok (.iadd, 1) := by decide +kernel
theorem dX1_playDrawn_40 : decode cX1_playDrawn 40 = .ok (.putfield 40, 3) := by decide +kernel
theorem dX1_playDrawn_43 : decode cX1_playDrawn 43 = .ok (.aload_n 0, 1) := by decide +kernel
theorem dX1_playDrawn_44 : decode cX1_playDrawn 44 = .ok (.getfield 40, 3) := by decide +kernel
theorem dX1_playDrawn_47 : decode cX1_playDrawn 47 = .ok (.bipush 8, 2) := by decide +kernel
theorem dX1_playDrawn_49 : decode cX1_playDrawn 49 = .ok (.iushr, 1) := by decide +kernel
theorem dX1_playDrawn_50 : decode cX1_playDrawn 50 = .ok (.bipush 10, 2) := by decide +kernel
theorem dX1_playDrawn_52 : decode cX1_playDrawn 52 = .ok (.irem, 1) := by decide +kernel
theorem dX1_playDrawn_53 : decode cX1_playDrawn 53 = .ok (.aload_n 0, 1) := by decide +kernel
theorem dX1_playDrawn_54 : decode cX1_playDrawn 54 = .ok (.iload_n 2, 1) := by decide +kernel
theorem dX1_playDrawn_55 : decode cX1_playDrawn 55 = .ok (.iload_n 3, 1) := by decide +kernel
theorem dX1_playDrawn_56 : decode cX1_playDrawn 56 = .ok (.invokevirtual 158, 3) := by decide +kernel
theorem dX1_playDrawn_59 : decode cX1_playDrawn 59 = .ok (.if_icmp .ge 7, 3) := by decide +kernel
theorem dX1_playDrawn_62 : decode cX1_playDrawn 62 = .ok (.iconst 1, 1) := by decide +kernel
theorem dX1_playDrawn_63 : decode cX1_playDrawn 63 = .ok (.goto 4, 3) := by decide +kernel
theorem dX1_playDrawn_66 : decode cX1_playDrawn 66 = .ok (.iconst 0, 1) := by decide +kernel
theorem dX1_playDrawn_67 : decode cX1_playDrawn 67 = .ok (.istore 4, 2) := by decide +kernel
theorem dX1_playDrawn_69 : decode cX1_playDrawn 69 = .ok (.aload_n 0, 1) := by decide +kernel
theorem dX1_playDrawn_70 : decode cX1_playDrawn 70 = .ok (.iload 4, 2) := by decide +kernel
theorem dX1_playDrawn_72 : decode cX1_playDrawn 72 = .ok (.ifCond .eq 10, 3) := by decide +kernel
theorem dX1_playDrawn_75 : decode cX1_playDrawn 75 = .ok (.aload_n 1, 1) := by decide +kernel
theorem dX1_playDrawn_76 : decode cX1_playDrawn 76 = .ok (.getfield 79, 3) := by decide +kernel
theorem dX1_playDrawn_79 : decode cX1_playDrawn 79 = .ok (.goto 7, 3) := by decide +kernel
theorem dX1_playDrawn_82 : decode cX1_playDrawn 82 = .ok (.aload_n 1, 1) := by decide +kernel
theorem dX1_playDrawn_83 : decode cX1_playDrawn 83 = .ok (.getfield 82, 3) := by decide +kernel
theorem dX1_playDrawn_86 : decode cX1_playDrawn 86 = .ok (.iload_n 2, 1) := by decide +kernel
theorem dX1_playDrawn_87 : decode cX1_playDrawn 87 = .ok (.iload_n 3, 1) := by decide +kernel
theorem dX1_playDrawn_88 : decode cX1_playDrawn 88 = .ok (.invokevirtual 153, 3) := by decide +kernel
theorem dX1_playDrawn_91 : decode cX1_playDrawn 91 = .ok (.ireturn, 1) := by decide +kernel
set_option maxHeartbeats 4000000 in
set_option maxRecDepth 100000 in
theorem c_X1_playDrawn (l : Launch) (D : va_G) (cy : Nat → ClassId) (ad adK adV : Nat → Nat) (M : Mm) (o0 : Nat) (res : Mm × Int32) (h : f_X1_playDrawn M o0 = some res) : Met l yX1_playDrawn (wU yX1_playDrawn cX1_playDrawn 5 (some .int)) rmX1_playDrawn (va_Pc [.ref (ad o0)] (Pre D cy shX ad nX adK adV M)) (va_Qi (fun r (M2 : Mm) => r = res.2 ∧ M2 = res.1) (Pre D cy shX ad nX adK adV) (Aw ad nX)) 0 0 (Aw ad nX) := by
  refine Met.ofW (cc := cX1_playDrawn) (maxL := 5) (ret := (some .int)) (by decide) rfl ?_
  intro p e s m args below meth c s₁ B hml hv
  obtain ⟨hargs, hPre⟩ := hv
  have hx := B.exec
  have hb := B.bytes
  have hr := B.returns
  have hts := atoms_spec (ws := wU yX1_playDrawn cX1_playDrawn 5 (some .int)) B.pre
  have hq : ∀ w ∈ gW, w.before args s = true := fun w hw => hts w (List.mem_cons_of_mem _ hw)
  have hcm : ∀ w ∈ gW, w ∈ wU yX1_playDrawn cX1_playDrawn 5 (some .int) := fun w hw => List.mem_cons_of_mem _ hw
  have hown : s.vm.findClass RX1 = some m.cls := findClass_of_methodNamed B.named
  have hlocks := B.notSynchronized
  have hF : CallFix p m c cX1_playDrawn 5 s args (wU yX1_playDrawn cX1_playDrawn 5 (some .int)) RX1 := ⟨hx, hb, hml, hown, hts⟩
  have hK := hPre.2.1
  have hZ := hPre.2.2.2
  have hw : Wd D cy shX ad nX (Aw ad nX) s.heap M s.heap [] := ⟨hPre.1, hPre.2.2.1, va_S.rf⟩
  have iw0 : ∀ w ∈ u_ws RX0 TX0 9, w ∈ wU yX1_playDrawn cX1_playDrawn 5 (some .int) := fun w hw => List.mem_cons_of_mem _ (iX0 w hw)
  have iw1 : ∀ w ∈ u_ws RX1 TX1 11, w ∈ wU yX1_playDrawn cX1_playDrawn 5 (some .int) := fun w hw => List.mem_cons_of_mem _ (iX1 w hw)
  rw [show entryFrame m args 5 = entryFrame m ([.ref (ad o0)] : List Value).toArray 5 from by rw [hargs]]
  have hl := lv_entry ([.ref (ad o0)]) (n := 5) (Nat.le_of_ble_eq_true rfl)
  rw [lg_entry_eq]
  generalize (lg_sl ([.ref (ad o0)]) ++ List.replicate (5 - (lg_sl ([.ref (ad o0)])).length) Slot.unset).toArray = ls at hl ⊢
  have hl : lv_has ls 5 [(0, .ref (ad o0))] := hl
  have hb86 : ∀ (M : Mm) (x2 : Int32) (x3 : Int32) (t0 : Nat) (t1 : Int32), f_X1_playDrawn_b86 M x2 x3 t0 t1 = some res → ∀ (H : Heap) (locs : List Loc) (ls : Array Slot), Wd D cy shX ad nX (Aw ad nX) s.heap M H locs → lv_has ls 5 [(2, .int x2), (3, .int x3)] → W p l e (headSpec (wU yX1_playDrawn cX1_playDrawn 5 (some .int)) rmX1_playDrawn).room s m args below meth c H locs 0 0 (QI D cy shX ad nX adK adV below args s res) (F0 m 86 ls [.int t1, .ref (ad t0)]) := by
    intro M x2 x3 t0 t1 h H locs ls hw hl
    unfold f_X1_playDrawn_b86 at h
    refine lv_iload_n hx hb dX1_playDrawn_86 rfl (lv_at hl 0 rfl) ?_
    refine lv_iload_n hx hb dX1_playDrawn_87 rfl (lv_at hl 1 rfl) ?_
    replace h := gd_some h
    obtain ⟨g2, h⟩ := h
    replace h := bd_some h
    obtain ⟨r1, er1, h⟩ := h
    refine r_callVi (As := [.int t1, .int x2, .int x3]) (rest := []) hF (c_X1_settle l D cy ad adK adV M t0 t1 x2 x3 r1 er1) (gW_goodV hcm qw628 qw625 qw626 qw627 qw62) hdX1_settle rfl ⟨Nat.le_of_ble_eq_true rfl, Nat.le_of_ble_eq_true rfl⟩ rfl rfl hZ hK hw g2 (by decide) rfl rfl hl.1 rfl (Nat.le_of_ble_eq_true rfl) ⟨Nat.zero_le _, Nat.zero_le _⟩ dX1_playDrawn_88 (fun H locs hw => ?_)
    exact r_iret hx hb hr rfl hlocks hZ hK hw h dX1_playDrawn_91
  have hb67 : ∀ (M : Mm) (x0 : Nat) (x1 : Nat) (x2 : Int32) (x3 : Int32) (t0 : Int32), f_X1_playDrawn_b67 M x0 x1 x2 x3 t0 = some res → ∀ (H : Heap) (locs : List Loc) (ls : Array Slot), Wd D cy shX ad nX (Aw ad nX) s.heap M H locs → lv_has ls 5 [(0, .ref (ad x0)), (1, .ref (ad x1)), (2, .int x2), (3, .int x3)] → W p l e (headSpec (wU yX1_playDrawn cX1_playDrawn 5 (some .int)) rmX1_playDrawn).room s m args below meth c H locs 0 0 (QI D cy shX ad nX adK adV below args s res) (F0 m 67 ls [.int t0]) := by
    intro M x0 x1 x2 x3 t0 h H locs ls hw hl
    unfold f_X1_playDrawn_b67 at h
    refine lv_istore (lv' := [(4, .int t0), (0, .ref (ad x0)), (1, .ref (ad x1)), (2, .int x2), (3, .int x3)]) hx hb dX1_playDrawn_67 hl (by decide) rfl (fun ls hl => ?_)
    refine lv_aload_n hx hb dX1_playDrawn_69 rfl (lv_at hl 1 rfl) ?_
    refine lv_iload hx hb dX1_playDrawn_70 (lv_at hl 0 rfl) ?_
    refine lv_if_eq (tgt := 82) hx hb dX1_playDrawn_72 (by decide) (fun c3 => ?_) (fun c3 => ?_)
    · replace h := if_some_t c3 h
      refine lv_aload_n hx hb dX1_playDrawn_82 rfl (lv_at hl 2 rfl) ?_
      replace h := gd_some h
      obtain ⟨g4, h⟩ := h
      refine r_getI hx hb hts iw0 hown hK hw x1 1 g4 (by decide) rfl (by decide) rfl (hq _ qw142) (fun _ h9 => h9) dX1_playDrawn_83 ?_
      exact hb86 _ _ _ _ _ h _ _ _ hw (lv_sub hl [3, 4] rfl)
    · replace h := if_some_f c3 h
      refine lv_aload_n hx hb dX1_playDrawn_75 rfl (lv_at hl 2 rfl) ?_
      replace h := gd_some h
      obtain ⟨g5, h⟩ := h
      refine r_getI hx hb hts iw0 hown hK hw x1 0 g5 (by decide) rfl (by decide) rfl (hq _ qw138) (fun _ h9 => h9) dX1_playDrawn_76 ?_
      refine lv_goto (tgt := 86) hx hb dX1_playDrawn_79 (by decide) ?_
      exact hb86 _ _ _ _ _ h _ _ _ hw (lv_sub hl [3, 4] rfl)
  unfold f_X1_playDrawn at h
  refine lv_aload_n hx hb dX1_playDrawn_0 rfl (lv_at hl 0 rfl) ?_
  replace h := gd_some h
  obtain ⟨g6, h⟩ := h
  replace h := bd_some h
  obtain ⟨q7, eq7, h⟩ := h
  refine r_getR hx hb hts iw1 hown hK hw o0 1 g6 (by decide) rfl (by decide) rfl (hq _ qw185) (fun _ h9 => h9) dX1_playDrawn_1 eq7 ?_
  refine lv_aload_n hx hb dX1_playDrawn_4 rfl (lv_at hl 0 rfl) ?_
  refine r_getI hx hb hts iw1 hown hK hw o0 5 g6 (by decide) rfl (by decide) rfl (hq _ qw198) (fun _ h9 => h9) dX1_playDrawn_5 ?_
  replace h := gd_some h
  obtain ⟨g8, h⟩ := h
  replace h := bd_some h
  obtain ⟨q9, eq9, h⟩ := h
  refine r_aald hx hb hK hw q7 3 (by decide) rfl g8 dX1_playDrawn_8 eq9 ?_
  refine lv_astore_n (lv' := [(1, .ref (ad q9)), (0, .ref (ad o0))]) hx hb dX1_playDrawn_9 rfl hl (by decide) rfl (fun ls hl => ?_)
  refine lv_aload_n hx hb dX1_playDrawn_10 rfl (lv_at hl 1 rfl) ?_
  refine lv_aload_n hx hb dX1_playDrawn_11 rfl (lv_at hl 0 rfl) ?_
  replace h := gd_some h
  obtain ⟨g10, h⟩ := h
  refine r_getI hx hb hts iw0 hown hK hw q9 0 g10 (by decide) rfl (by decide) rfl (hq _ qw138) (fun _ h9 => h9) dX1_playDrawn_12 ?_
  replace h := bd_some h
  obtain ⟨r11, er11, h⟩ := h
  refine r_callVi (As := [.int (M.1 q9 0)]) (rest := []) hF (c_X1_effortOf l D cy ad adK adV M o0 (M.1 q9 0) r11 er11) (gW_goodV hcm qw596 qw624 qw594 qw595 qw62) hdX1_effortOf rfl ⟨Nat.le_of_ble_eq_true rfl, Nat.le_of_ble_eq_true rfl⟩ rfl rfl hZ hK hw g6 (by decide) rfl rfl hl.1 rfl (Nat.le_of_ble_eq_true rfl) ⟨Nat.zero_le _, Nat.zero_le _⟩ dX1_playDrawn_15 (fun H locs hw => ?_)
  refine lv_istore_n (lv' := [(2, .int r11.2), (1, .ref (ad q9)), (0, .ref (ad o0))]) hx hb dX1_playDrawn_18 rfl hl (by decide) rfl (fun ls hl => ?_)
  refine lv_aload_n hx hb dX1_playDrawn_19 rfl (lv_at hl 2 rfl) ?_
  refine lv_aload_n hx hb dX1_playDrawn_20 rfl (lv_at hl 1 rfl) ?_
  refine r_getI hx hb hts iw0 hown hK hw q9 1 g10 (by decide) rfl (by decide) rfl (hq _ qw142) (fun _ h9 => h9) dX1_playDrawn_21 ?_
  replace h := bd_some h
  obtain ⟨r12, er12, h⟩ := h
  refine r_callVi (As := [.int (r11.1.1 q9 1)]) (rest := []) hF (c_X1_effortOf l D cy ad adK adV r11.1 o0 (r11.1.1 q9 1) r12 er12) (gW_goodV hcm qw596 qw624 qw594 qw595 qw62) hdX1_effortOf rfl ⟨Nat.le_of_ble_eq_true rfl, Nat.le_of_ble_eq_true rfl⟩ rfl rfl hZ hK hw g6 (by decide) rfl rfl hl.1 rfl (Nat.le_of_ble_eq_true rfl) ⟨Nat.zero_le _, Nat.zero_le _⟩ dX1_playDrawn_24 (fun H locs hw => ?_)
  refine lv_istore_n (lv' := [(3, .int r12.2), (2, .int r11.2), (1, .ref (ad q9)), (0, .ref (ad o0))]) hx hb dX1_playDrawn_27 rfl hl (by decide) rfl (fun ls hl => ?_)
  refine lv_aload_n hx hb dX1_playDrawn_28 rfl (lv_at hl 3 rfl) ?_
  refine lv_aload_n hx hb dX1_playDrawn_29 rfl (lv_at hl 3 rfl) ?_
  refine r_getI hx hb hts iw1 hown hK hw o0 7 g6 (by decide) rfl (by decide) rfl (hq _ qw204) (fun _ h9 => h9) dX1_playDrawn_30 ?_
  refine lv_ldc (v := (1103515245 : Int32)) hx hb hown (hq _ qw645) dX1_playDrawn_33 ?_
  refine lv_imul hx hb dX1_playDrawn_35 ?_
  refine lv_sipush (v := (12345 : Int32)) hx hb dX1_playDrawn_36 (by decide) ?_
  refine lv_iadd hx hb dX1_playDrawn_39 ?_
  refine r_putI hx hb hts iw1 tyX1 tyX1_ok nmX1 hown hK hw o0 7 g6 (by decide) rfl (by decide) rfl (hq _ qw204) (fun _ h9 => h9) rfl rfl rfl dX1_playDrawn_40 (fun H locs hw => ?_)
  replace h := lt_some h
  obtain ⟨M13, eM13, h⟩ := h
  rw [← eM13] at hw
  refine lv_aload_n hx hb dX1_playDrawn_43 rfl (lv_at hl 3 rfl) ?_
  refine r_getI hx hb hts iw1 hown hK hw o0 7 g6 (by decide) rfl (by decide) rfl (hq _ qw204) (fun _ h9 => h9) dX1_playDrawn_44 ?_
  refine lv_bipush (v := (8 : Int32)) hx hb dX1_playDrawn_47 (by decide) ?_
  refine lv_iushr (v := ((M13.1 o0 7).toUInt32 >>> ((8 : Int32).toUInt32 &&& Int32.toUInt32 31)).toInt32) hx hb dX1_playDrawn_49 rfl ?_
  refine lv_bipush (v := (10 : Int32)) hx hb dX1_playDrawn_50 (by decide) ?_
  refine lv_irem hx hb dX1_playDrawn_52 (by decide) ?_
  refine lv_aload_n hx hb dX1_playDrawn_53 rfl (lv_at hl 3 rfl) ?_
  refine lv_iload_n hx hb dX1_playDrawn_54 rfl (lv_at hl 1 rfl) ?_
  refine lv_iload_n hx hb dX1_playDrawn_55 rfl (lv_at hl 0 rfl) ?_
  replace h := bd_some h
  obtain ⟨r14, er14, h⟩ := h
  refine r_callVi (As := [.int r11.2, .int r12.2]) (rest := [.int ((((M13.1 o0 7).toUInt32 >>> ((8 : Int32).toUInt32 &&& Int32.toUInt32 31)).toInt32) - (((M13.1 o0 7).toUInt32 >>> ((8 : Int32).toUInt32 &&& Int32.toUInt32 31)).toInt32) / (10 : Int32) * (10 : Int32))]) hF (c_X1_chanceOfFirst l D cy ad adK adV M13 o0 r11.2 r12.2 r14 er14) (gW_goodV hcm qw606 qw646 qw604 qw605 qw62) hdX1_chanceOfFirst rfl ⟨Nat.le_of_ble_eq_true rfl, Nat.le_of_ble_eq_true rfl⟩ rfl rfl hZ hK hw g6 (by decide) rfl rfl hl.1 rfl (Nat.le_of_ble_eq_true rfl) ⟨Nat.zero_le _, Nat.zero_le _⟩ dX1_playDrawn_56 (fun H locs hw => ?_)
  refine lv_icmp_ge (tgt := 66) hx hb dX1_playDrawn_59 (by decide) (fun c15 => ?_) (fun c15 => ?_)
  · replace h := if_some_t c15 h
    refine lv_iconst (v := (0 : Int32)) hx hb dX1_playDrawn_66 (by decide) ?_
    exact hb67 _ _ _ _ _ _ h _ _ _ hw (lv_sub hl [3, 2, 1, 0] rfl)
  · replace h := if_some_f c15 h
    refine lv_iconst (v := (1 : Int32)) hx hb dX1_playDrawn_62 (by decide) ?_
    refine lv_goto (tgt := 67) hx hb dX1_playDrawn_63 (by decide) ?_
    exact hb67 _ _ _ _ _ _ h _ _ _ hw (lv_sub hl [3, 2, 1, 0] rfl)
theorem dX1_forgetGames_0 : decode cX1_forgetGames 0 = .ok (.aload_n 0, 1) := by decide +kernel
theorem dX1_forgetGames_1 : decode cX1_forgetGames 1 = .ok (.getfield 34, 3) := by decide +kernel
theorem dX1_forgetGames_4 : decode cX1_forgetGames 4 = .ok (.istore_n 1, 1) := by decide +kernel
theorem dX1_forgetGames_5 : decode cX1_forgetGames 5 = .ok (.iconst 0, 1) := by decide +kernel
theorem dX1_forgetGames_6 : decode cX1_forgetGames 6 = .ok (.istore_n 2, 1) := by decide +kernel
theorem dX1_forgetGames_7 : decode cX1_forgetGames 7 = .ok (.iload_n 2, 1) := by decide +kernel
theorem dX1_forgetGames_8 : decode cX1_forgetGames 8 = .ok (.aload_n 0, 1) := by decide +kernel
theorem dX1_forgetGames_9 : decode cX1_forgetGames 9 = .ok (.getfield 27, 3) := by decide +kernel
theorem dX1_forgetGames_12 : decode cX1_forgetGames 12 = .ok (.if_icmp .ge 18, 3) := by decide +kernel
theorem dX1_forgetGames_15 : decode cX1_forgetGames 15 = .ok (.aload_n 0, 1) := by decide +kernel
theorem dX1_forgetGames_16 : decode cX1_forgetGames 16 = .ok (.getfield 11, 3) := by decide +kernel
theorem dX1_forgetGames_19 : decode cX1_forgetGames 19 = .ok (.iload_n 2, 1) := by decide +kernel
theorem dX1_forgetGames_20 : decode cX1_forgetGames 20 = .ok (.aaload, 1) := by decide +kernel
theorem dX1_forgetGames_21 : decode cX1_forgetGames 21 = .ok (.invokevirtual 67, 3) := by decide +kernel
theorem dX1_forgetGames_24 : decode cX1_forgetGames 24 = .ok (.iinc 2 1, 3) := by decide +kernel
theorem dX1_forgetGames_27 : decode cX1_forgetGames 27 = .ok (.goto (-20), 3) := by decide +kernel
theorem dX1_forgetGames_30 : decode cX1_forgetGames 30 = .ok (.aload_n 0, 1) := by decide +kernel
theorem dX1_forgetGames_31 : decode cX1_forgetGames 31 = .ok (.iconst 0, 1) := by decide +kernel
theorem dX1_forgetGames_32 : decode cX1_forgetGames 32 = .ok (.putfield 34, 3) := by decide +kernel
theorem dX1_forgetGames_35 : decode cX1_forgetGames 35 = .ok (.iload_n 1, 1) := by decide +kernel
theorem dX1_forgetGames_36 : decode cX1_forgetGames 36 = .ok (.ireturn, 1) := by decide +kernel
set_option maxHeartbeats 4000000 in
set_option maxRecDepth 100000 in
theorem c_X1_forgetGames (l : Launch) (D : va_G) (cy : Nat → ClassId) (ad adK adV : Nat → Nat) (M : Mm) (o0 : Nat) (res : Mm × Int32) (h : f_X1_forgetGames M o0 = some res) : Met l yX1_forgetGames (wU yX1_forgetGames cX1_forgetGames 3 (some .int)) rmX1_forgetGames (va_Pc [.ref (ad o0)] (Pre D cy shX ad nX adK adV M)) (va_Qi (fun r (M2 : Mm) => r = res.2 ∧ M2 = res.1) (Pre D cy shX ad nX adK adV) (Aw ad nX)) 0 0 (Aw ad nX) := by
  refine Met.ofW (cc := cX1_forgetGames) (maxL := 3) (ret := (some .int)) (by decide) rfl ?_
  intro p e s m args below meth c s₁ B hml hv
  obtain ⟨hargs, hPre⟩ := hv
  have hx := B.exec
  have hb := B.bytes
  have hr := B.returns
  have hts := atoms_spec (ws := wU yX1_forgetGames cX1_forgetGames 3 (some .int)) B.pre
  have hq : ∀ w ∈ gW, w.before args s = true := fun w hw => hts w (List.mem_cons_of_mem _ hw)
  have hcm : ∀ w ∈ gW, w ∈ wU yX1_forgetGames cX1_forgetGames 3 (some .int) := fun w hw => List.mem_cons_of_mem _ hw
  have hown : s.vm.findClass RX1 = some m.cls := findClass_of_methodNamed B.named
  have hlocks := B.notSynchronized
  have hF : CallFix p m c cX1_forgetGames 3 s args (wU yX1_forgetGames cX1_forgetGames 3 (some .int)) RX1 := ⟨hx, hb, hml, hown, hts⟩
  have hK := hPre.2.1
  have hZ := hPre.2.2.2
  have hw : Wd D cy shX ad nX (Aw ad nX) s.heap M s.heap [] := ⟨hPre.1, hPre.2.2.1, va_S.rf⟩
  have iw1 : ∀ w ∈ u_ws RX1 TX1 11, w ∈ wU yX1_forgetGames cX1_forgetGames 3 (some .int) := fun w hw => List.mem_cons_of_mem _ (iX1 w hw)
  rw [show entryFrame m args 3 = entryFrame m ([.ref (ad o0)] : List Value).toArray 3 from by rw [hargs]]
  have hl := lv_entry ([.ref (ad o0)]) (n := 3) (Nat.le_of_ble_eq_true rfl)
  rw [lg_entry_eq]
  generalize (lg_sl ([.ref (ad o0)]) ++ List.replicate (3 - (lg_sl ([.ref (ad o0)])).length) Slot.unset).toArray = ls at hl ⊢
  have hl : lv_has ls 3 [(0, .ref (ad o0))] := hl
  have hb7 : ∀ (nn : Nat), ∀ (M : Mm) (x0 : Nat) (x1 : Int32) (x2 : Int32), f_X1_forgetGames_b7 nn M x0 x1 x2 = some res → ∀ (H : Heap) (locs : List Loc) (ls : Array Slot), Wd D cy shX ad nX (Aw ad nX) s.heap M H locs → lv_has ls 3 [(0, .ref (ad x0)), (1, .int x1), (2, .int x2)] → W p l e (headSpec (wU yX1_forgetGames cX1_forgetGames 3 (some .int)) rmX1_forgetGames).room s m args below meth c H locs 0 0 (QI D cy shX ad nX adK adV below args s res) (F0 m 7 ls []) := by
    intro nn
    induction nn with
    | zero => intro M x0 x1 x2 h; simp [f_X1_forgetGames_b7] at h
    | succ nn ih =>
      intro M x0 x1 x2 h H locs ls hw hl
      unfold f_X1_forgetGames_b7 at h
      refine lv_iload_n hx hb dX1_forgetGames_7 rfl (lv_at hl 2 rfl) ?_
      refine lv_aload_n hx hb dX1_forgetGames_8 rfl (lv_at hl 0 rfl) ?_
      replace h := gd_some h
      obtain ⟨g1, h⟩ := h
      refine r_getI hx hb hts iw1 hown hK hw x0 3 g1 (by decide) rfl (by decide) rfl (hq _ qw190) (fun _ h9 => h9) dX1_forgetGames_9 ?_
      refine lv_icmp_ge (tgt := 30) hx hb dX1_forgetGames_12 (by decide) (fun c2 => ?_) (fun c2 => ?_)
      · replace h := if_some_t c2 h
        refine lv_aload_n hx hb dX1_forgetGames_30 rfl (lv_at hl 0 rfl) ?_
        refine lv_iconst (v := (0 : Int32)) hx hb dX1_forgetGames_31 (by decide) ?_
        refine r_putI hx hb hts iw1 tyX1 tyX1_ok nmX1 hown hK hw x0 5 g1 (by decide) rfl (by decide) rfl (hq _ qw198) (fun _ h9 => h9) rfl rfl rfl dX1_forgetGames_32 (fun H locs hw => ?_)
        replace h := lt_some h
        obtain ⟨M3, eM3, h⟩ := h
        rw [← eM3] at hw
        refine lv_iload_n hx hb dX1_forgetGames_35 rfl (lv_at hl 1 rfl) ?_
        exact r_iret hx hb hr rfl hlocks hZ hK hw h dX1_forgetGames_36
      · replace h := if_some_f c2 h
        refine lv_aload_n hx hb dX1_forgetGames_15 rfl (lv_at hl 0 rfl) ?_
        replace h := bd_some h
        obtain ⟨q4, eq4, h⟩ := h
        refine r_getR hx hb hts iw1 hown hK hw x0 0 g1 (by decide) rfl (by decide) rfl (hq _ qw182) (fun _ h9 => h9) dX1_forgetGames_16 eq4 ?_
        refine lv_iload_n hx hb dX1_forgetGames_19 rfl (lv_at hl 2 rfl) ?_
        replace h := gd_some h
        obtain ⟨g5, h⟩ := h
        replace h := bd_some h
        obtain ⟨q6, eq6, h⟩ := h
        refine r_aald hx hb hK hw q4 2 (by decide) rfl g5 dX1_forgetGames_20 eq6 ?_
        replace h := gd_some h
        obtain ⟨g8, h⟩ := h
        replace h := bd_some h
        obtain ⟨r7, er7, h⟩ := h
        refine r_callVv (As := []) (rest := []) hF (c_X3_rest l D cy ad adK adV M q6 r7 er7) (gW_goodV hcm qw383 qw380 qw381 qw382 qw63) hdX3_rest rfl ⟨Nat.le_of_ble_eq_true rfl, Nat.le_of_ble_eq_true rfl⟩ rfl rfl hZ hK hw g8 (by decide) rfl rfl hl.1 rfl (Nat.le_of_ble_eq_true rfl) ⟨Nat.zero_le _, Nat.zero_le _⟩ dX1_forgetGames_21 (fun H locs hw => ?_)
        refine lv_iinc (v := x2 + (1 : Int32)) (lv' := [(2, .int (x2 + (1 : Int32))), (0, .ref (ad x0)), (1, .int x1)]) hx hb dX1_forgetGames_24 hl (k := 2) rfl (congrArg (fun z => x2 + z) (by decide)) (by decide) rfl (fun ls hl => ?_)
        refine lv_goto (tgt := 7) hx hb dX1_forgetGames_27 (by decide) ?_
        exact ih _ _ _ _ h _ _ _ hw (lv_sub hl [1, 2, 0] rfl)
  unfold f_X1_forgetGames at h
  refine lv_aload_n hx hb dX1_forgetGames_0 rfl (lv_at hl 0 rfl) ?_
  replace h := gd_some h
  obtain ⟨g9, h⟩ := h
  refine r_getI hx hb hts iw1 hown hK hw o0 5 g9 (by decide) rfl (by decide) rfl (hq _ qw198) (fun _ h9 => h9) dX1_forgetGames_1 ?_
  refine lv_istore_n (lv' := [(1, .int (M.1 o0 5)), (0, .ref (ad o0))]) hx hb dX1_forgetGames_4 rfl hl (by decide) rfl (fun ls hl => ?_)
  refine lv_iconst (v := (0 : Int32)) hx hb dX1_forgetGames_5 (by decide) ?_
  refine lv_istore_n (lv' := [(2, .int (0 : Int32)), (1, .int (M.1 o0 5)), (0, .ref (ad o0))]) hx hb dX1_forgetGames_6 rfl hl (by decide) rfl (fun ls hl => ?_)
  exact hb7 1000 _ _ _ _ h _ _ _ hw (lv_sub hl [2, 1, 0] rfl)
theorem dX1_leader_0 : decode cX1_leader 0 = .ok (.iconst (-1), 1) := by decide +kernel
theorem dX1_leader_1 : decode cX1_leader 1 = .ok (.istore_n 1, 1) := by decide +kernel
theorem dX1_leader_2 : decode cX1_leader 2 = .ok (.iconst 0, 1) := by decide +kernel
theorem dX1_leader_3 : decode cX1_leader 3 = .ok (.istore_n 2, 1) := by decide +kernel
theorem dX1_leader_4 : decode cX1_leader 4 = .ok (.iload_n 2, 1) := by decide +kernel
theorem dX1_leader_5 : decode cX1_leader 5 = .ok (.aload_n 0, 1) := by decide +kernel
theorem dX1_leader_6 : decode cX1_leader 6 = .ok (.getfield 27, 3) := by decide +kernel
theorem dX1_leader_9 : decode cX1_leader 9 = .ok (.if_icmp .ge 37, 3) := by decide +kernel
theorem dX1_leader_12 : decode cX1_leader 12 = .ok (.iload_n 1, 1) := by decide +kernel
theorem dX1_leader_13 : decode cX1_leader 13 = .ok (.iconst (-1), 1) := by decide +kernel
theorem dX1_leader_14 : decode cX1_leader 14 = .ok (.if_icmp .eq 24, 3) := by decide +kernel
theorem dX1_leader_17 : decode cX1_leader 17 = .ok (.aload_n 0, 1) := by decide +kernel
theorem dX1_leader_18 : decode cX1_leader 18 = .ok (.getfield 11, 3) := by decide +kernel
theorem dX1_leader_21 : decode cX1_leader 21 = .ok (.iload_n 2, 1) := by decide +kernel
theorem dX1_leader_22 : decode cX1_leader 22 = .ok (.aaload, 1) := by decide +kernel
theorem dX1_leader_23 : decode cX1_leader 23 = .ok (.getfield 121, 3) := by decide +kernel
theorem dX1_leader_26 : decode cX1_leader 26 = .ok (.aload_n 0, 1) := by decide +kernel
theorem dX1_leader_27 : decode cX1_leader 27 = .ok (.getfield 11, 3) := by decide +kernel
theorem dX1_leader_30 : decode cX1_leader 30 = .ok (.iload_n 1, 1) := by decide +kernel
theorem dX1_leader_31 : decode cX1_leader 31 = .ok (.aaload, 1) := by decide +kernel
theorem dX1_leader_32 : decode cX1_leader 32 = .ok (.getfield 121, 3) := by decide +kernel
theorem dX1_leader_35 : decode cX1_leader 35 = .ok (.if_icmp .le 5, 3) := by decide +kernel
theorem dX1_leader_38 : decode cX1_leader 38 = .ok (.iload_n 2, 1) := by decide +kernel
theorem dX1_leader_39 : decode cX1_leader 39 = .ok (.istore_n 1, 1) := by decide +kernel
theorem dX1_leader_40 : decode cX1_leader 40 = .ok (.iinc 2 1, 3) := by decide +kernel
theorem dX1_leader_43 : decode cX1_leader 43 = .ok (.goto (-39), 3) := by decide +kernel
theorem dX1_leader_46 : decode cX1_leader 46 = .ok (.iload_n 1, 1) := by decide +kernel
theorem dX1_leader_47 : decode cX1_leader 47 = .ok (.ireturn, 1) := by decide +kernel
set_option maxHeartbeats 4000000 in
set_option maxRecDepth 100000 in
theorem c_X1_leader (l : Launch) (D : va_G) (cy : Nat → ClassId) (ad adK adV : Nat → Nat) (M : Mm) (o0 : Nat) (res : Mm × Int32) (h : f_X1_leader M o0 = some res) : Met l yX1_leader (wU yX1_leader cX1_leader 3 (some .int)) rmX1_leader (va_Pc [.ref (ad o0)] (Pre D cy shX ad nX adK adV M)) (va_Qi (fun r (M2 : Mm) => r = res.2 ∧ M2 = res.1) (Pre D cy shX ad nX adK adV) (Aw ad nX)) 0 0 (Aw ad nX) := by
  refine Met.ofW (cc := cX1_leader) (maxL := 3) (ret := (some .int)) (by decide) rfl ?_
  intro p e s m args below meth c s₁ B hml hv
  obtain ⟨hargs, hPre⟩ := hv
  have hx := B.exec
  have hb := B.bytes
  have hr := B.returns
  have hts := atoms_spec (ws := wU yX1_leader cX1_leader 3 (some .int)) B.pre
  have hq : ∀ w ∈ gW, w.before args s = true := fun w hw => hts w (List.mem_cons_of_mem _ hw)
  have hcm : ∀ w ∈ gW, w ∈ wU yX1_leader cX1_leader 3 (some .int) := fun w hw => List.mem_cons_of_mem _ hw
  have hown : s.vm.findClass RX1 = some m.cls := findClass_of_methodNamed B.named
  have hlocks := B.notSynchronized
  have hF : CallFix p m c cX1_leader 3 s args (wU yX1_leader cX1_leader 3 (some .int)) RX1 := ⟨hx, hb, hml, hown, hts⟩
  have hK := hPre.2.1
  have hZ := hPre.2.2.2
  have hw : Wd D cy shX ad nX (Aw ad nX) s.heap M s.heap [] := ⟨hPre.1, hPre.2.2.1, va_S.rf⟩
  have iw1 : ∀ w ∈ u_ws RX1 TX1 11, w ∈ wU yX1_leader cX1_leader 3 (some .int) := fun w hw => List.mem_cons_of_mem _ (iX1 w hw)
  have iw3 : ∀ w ∈ u_ws RX3 TX3 6, w ∈ wU yX1_leader cX1_leader 3 (some .int) := fun w hw => List.mem_cons_of_mem _ (iX3 w hw)
  rw [show entryFrame m args 3 = entryFrame m ([.ref (ad o0)] : List Value).toArray 3 from by rw [hargs]]
  have hl := lv_entry ([.ref (ad o0)]) (n := 3) (Nat.le_of_ble_eq_true rfl)
  rw [lg_entry_eq]
  generalize (lg_sl ([.ref (ad o0)]) ++ List.replicate (3 - (lg_sl ([.ref (ad o0)])).length) Slot.unset).toArray = ls at hl ⊢
  have hl : lv_has ls 3 [(0, .ref (ad o0))] := hl
  have hb40 : ∀ (k4 : Mm → Nat → Int32 → Int32 → Option (Mm × Int32)) (hk4 : ∀ (M : Mm) (x0 : Nat) (x1 : Int32) (x2 : Int32), k4 M x0 x1 x2 = some res → ∀ (H : Heap) (locs : List Loc) (ls : Array Slot), Wd D cy shX ad nX (Aw ad nX) s.heap M H locs → lv_has ls 3 [(0, .ref (ad x0)), (1, .int x1), (2, .int x2)] → W p l e (headSpec (wU yX1_leader cX1_leader 3 (some .int)) rmX1_leader).room s m args below meth c H locs 0 0 (QI D cy shX ad nX adK adV below args s res) (F0 m 4 ls [])), ∀ (M : Mm) (x0 : Nat) (x1 : Int32) (x2 : Int32), f_X1_leader_b40 k4 M x0 x1 x2 = some res → ∀ (H : Heap) (locs : List Loc) (ls : Array Slot), Wd D cy shX ad nX (Aw ad nX) s.heap M H locs → lv_has ls 3 [(0, .ref (ad x0)), (1, .int x1), (2, .int x2)] → W p l e (headSpec (wU yX1_leader cX1_leader 3 (some .int)) rmX1_leader).room s m args below meth c H locs 0 0 (QI D cy shX ad nX adK adV below args s res) (F0 m 40 ls []) := by
    intro k4 hk4
    intro M x0 x1 x2 h H locs ls hw hl
    unfold f_X1_leader_b40 at h
    refine lv_iinc (v := x2 + (1 : Int32)) (lv' := [(2, .int (x2 + (1 : Int32))), (0, .ref (ad x0)), (1, .int x1)]) hx hb dX1_leader_40 hl (k := 2) rfl (congrArg (fun z => x2 + z) (by decide)) (by decide) rfl (fun ls hl => ?_)
    refine lv_goto (tgt := 4) hx hb dX1_leader_43 (by decide) ?_
    exact hk4 _ _ _ _ h _ _ _ hw (lv_sub hl [1, 2, 0] rfl)
  have hb38 : ∀ (k4 : Mm → Nat → Int32 → Int32 → Option (Mm × Int32)) (hk4 : ∀ (M : Mm) (x0 : Nat) (x1 : Int32) (x2 : Int32), k4 M x0 x1 x2 = some res → ∀ (H : Heap) (locs : List Loc) (ls : Array Slot), Wd D cy shX ad nX (Aw ad nX) s.heap M H locs → lv_has ls 3 [(0, .ref (ad x0)), (1, .int x1), (2, .int x2)] → W p l e (headSpec (wU yX1_leader cX1_leader 3 (some .int)) rmX1_leader).room s m args below meth c H locs 0 0 (QI D cy shX ad nX adK adV below args s res) (F0 m 4 ls [])), ∀ (M : Mm) (x0 : Nat) (x2 : Int32), f_X1_leader_b38 k4 M x0 x2 = some res → ∀ (H : Heap) (locs : List Loc) (ls : Array Slot), Wd D cy shX ad nX (Aw ad nX) s.heap M H locs → lv_has ls 3 [(0, .ref (ad x0)), (2, .int x2)] → W p l e (headSpec (wU yX1_leader cX1_leader 3 (some .int)) rmX1_leader).room s m args below meth c H locs 0 0 (QI D cy shX ad nX adK adV below args s res) (F0 m 38 ls []) := by
    intro k4 hk4
    intro M x0 x2 h H locs ls hw hl
    unfold f_X1_leader_b38 at h
    refine lv_iload_n hx hb dX1_leader_38 rfl (lv_at hl 1 rfl) ?_
    refine lv_istore_n (lv' := [(1, .int x2), (0, .ref (ad x0)), (2, .int x2)]) hx hb dX1_leader_39 rfl hl (by decide) rfl (fun ls hl => ?_)
    exact hb40 _ hk4 _ _ _ _ h _ _ _ hw (lv_sub hl [1, 0, 2] rfl)
  have hb4 : ∀ (nn : Nat), ∀ (M : Mm) (x0 : Nat) (x1 : Int32) (x2 : Int32), f_X1_leader_b4 nn M x0 x1 x2 = some res → ∀ (H : Heap) (locs : List Loc) (ls : Array Slot), Wd D cy shX ad nX (Aw ad nX) s.heap M H locs → lv_has ls 3 [(0, .ref (ad x0)), (1, .int x1), (2, .int x2)] → W p l e (headSpec (wU yX1_leader cX1_leader 3 (some .int)) rmX1_leader).room s m args below meth c H locs 0 0 (QI D cy shX ad nX adK adV below args s res) (F0 m 4 ls []) := by
    intro nn
    induction nn with
    | zero => intro M x0 x1 x2 h; simp [f_X1_leader_b4] at h
    | succ nn ih =>
      intro M x0 x1 x2 h H locs ls hw hl
      unfold f_X1_leader_b4 at h
      refine lv_iload_n hx hb dX1_leader_4 rfl (lv_at hl 2 rfl) ?_
      refine lv_aload_n hx hb dX1_leader_5 rfl (lv_at hl 0 rfl) ?_
      replace h := gd_some h
      obtain ⟨g1, h⟩ := h
      refine r_getI hx hb hts iw1 hown hK hw x0 3 g1 (by decide) rfl (by decide) rfl (hq _ qw190) (fun _ h9 => h9) dX1_leader_6 ?_
      refine lv_icmp_ge (tgt := 46) hx hb dX1_leader_9 (by decide) (fun c2 => ?_) (fun c2 => ?_)
      · replace h := if_some_t c2 h
        refine lv_iload_n hx hb dX1_leader_46 rfl (lv_at hl 1 rfl) ?_
        exact r_iret hx hb hr rfl hlocks hZ hK hw h dX1_leader_47
      · replace h := if_some_f c2 h
        refine lv_iload_n hx hb dX1_leader_12 rfl (lv_at hl 1 rfl) ?_
        refine lv_iconst (v := (-1 : Int32)) hx hb dX1_leader_13 (by decide) ?_
        refine lv_icmp_eq (tgt := 38) hx hb dX1_leader_14 (by decide) (fun c3 => ?_) (fun c3 => ?_)
        · replace h := if_some_t c3 h
          exact hb38 _ ih _ _ _ h _ _ _ hw (lv_sub hl [0, 2] rfl)
        · replace h := if_some_f c3 h
          refine lv_aload_n hx hb dX1_leader_17 rfl (lv_at hl 0 rfl) ?_
          replace h := bd_some h
          obtain ⟨q4, eq4, h⟩ := h
          refine r_getR hx hb hts iw1 hown hK hw x0 0 g1 (by decide) rfl (by decide) rfl (hq _ qw182) (fun _ h9 => h9) dX1_leader_18 eq4 ?_
          refine lv_iload_n hx hb dX1_leader_21 rfl (lv_at hl 2 rfl) ?_
          replace h := gd_some h
          obtain ⟨g5, h⟩ := h
          replace h := bd_some h
          obtain ⟨q6, eq6, h⟩ := h
          refine r_aald hx hb hK hw q4 2 (by decide) rfl g5 dX1_leader_22 eq6 ?_
          replace h := gd_some h
          obtain ⟨g7, h⟩ := h
          refine r_getI hx hb hts iw3 hown hK hw q6 3 g7 (by decide) rfl (by decide) rfl (hq _ qw110) (fun _ h9 => h9) dX1_leader_23 ?_
          refine lv_aload_n hx hb dX1_leader_26 rfl (lv_at hl 0 rfl) ?_
          replace h := bd_some h
          obtain ⟨q8, eq8, h⟩ := h
          refine r_getR hx hb hts iw1 hown hK hw x0 0 g1 (by decide) rfl (by decide) rfl (hq _ qw182) (fun _ h9 => h9) dX1_leader_27 eq8 ?_
          refine lv_iload_n hx hb dX1_leader_30 rfl (lv_at hl 1 rfl) ?_
          replace h := gd_some h
          obtain ⟨g9, h⟩ := h
          replace h := bd_some h
          obtain ⟨q10, eq10, h⟩ := h
          refine r_aald hx hb hK hw q8 2 (by decide) rfl g9 dX1_leader_31 eq10 ?_
          replace h := gd_some h
          obtain ⟨g11, h⟩ := h
          refine r_getI hx hb hts iw3 hown hK hw q10 3 g11 (by decide) rfl (by decide) rfl (hq _ qw110) (fun _ h9 => h9) dX1_leader_32 ?_
          refine lv_icmp_le (tgt := 40) hx hb dX1_leader_35 (by decide) (fun c12 => ?_) (fun c12 => ?_)
          · replace h := if_some_t c12 h
            exact hb40 _ ih _ _ _ _ h _ _ _ hw (lv_sub hl [0, 1, 2] rfl)
          · replace h := if_some_f c12 h
            exact hb38 _ ih _ _ _ h _ _ _ hw (lv_sub hl [0, 2] rfl)
  unfold f_X1_leader at h
  refine lv_iconst (v := (-1 : Int32)) hx hb dX1_leader_0 (by decide) ?_
  refine lv_istore_n (lv' := [(1, .int (-1 : Int32)), (0, .ref (ad o0))]) hx hb dX1_leader_1 rfl hl (by decide) rfl (fun ls hl => ?_)
  refine lv_iconst (v := (0 : Int32)) hx hb dX1_leader_2 (by decide) ?_
  refine lv_istore_n (lv' := [(2, .int (0 : Int32)), (1, .int (-1 : Int32)), (0, .ref (ad o0))]) hx hb dX1_leader_3 rfl hl (by decide) rfl (fun ls hl => ?_)
  exact hb4 1000 _ _ _ _ h _ _ _ hw (lv_sub hl [2, 1, 0] rfl)
theorem dX2_isMissing_0 : decode cX2_isMissing 0 = .ok (.aload_n 0, 1) := by decide +kernel
theorem dX2_isMissing_1 : decode cX2_isMissing 1 = .ok (.getfield 15, 3) := by decide +kernel
theorem dX2_isMissing_4 : decode cX2_isMissing 4 = .ok (.ifCond .ne 7, 3) := by decide +kernel
theorem dX2_isMissing_7 : decode cX2_isMissing 7 = .ok (.iconst 1, 1) := by decide +kernel
theorem dX2_isMissing_8 : decode cX2_isMissing 8 = .ok (.goto 4, 3) := by decide +kernel
theorem dX2_isMissing_11 : decode cX2_isMissing 11 = .ok (.iconst 0, 1) := by decide +kernel
theorem dX2_isMissing_12 : decode cX2_isMissing 12 = .ok (.ireturn, 1) := by decide +kernel
set_option maxHeartbeats 4000000 in
set_option maxRecDepth 100000 in
theorem c_X2_isMissing (l : Launch) (D : va_G) (cy : Nat → ClassId) (ad adK adV : Nat → Nat) (M : Mm) (o0 : Nat) (res : Mm × Int32) (h : f_X2_isMissing M o0 = some res) : Met l yX2_isMissing (wU yX2_isMissing cX2_isMissing 1 (some .boolean)) rmX2_isMissing (va_Pc [.ref (ad o0)] (Pre D cy shX ad nX adK adV M)) (va_Qi (fun r (M2 : Mm) => r = res.2 ∧ M2 = res.1) (Pre D cy shX ad nX adK adV) (Aw ad nX)) 0 0 (Aw ad nX) := by
  refine Met.ofW (cc := cX2_isMissing) (maxL := 1) (ret := (some .boolean)) (by decide) rfl ?_
  intro p e s m args below meth c s₁ B hml hv
  obtain ⟨hargs, hPre⟩ := hv
  have hx := B.exec
  have hb := B.bytes
  have hr := B.returns
  have hts := atoms_spec (ws := wU yX2_isMissing cX2_isMissing 1 (some .boolean)) B.pre
  have hq : ∀ w ∈ gW, w.before args s = true := fun w hw => hts w (List.mem_cons_of_mem _ hw)
  have hcm : ∀ w ∈ gW, w ∈ wU yX2_isMissing cX2_isMissing 1 (some .boolean) := fun w hw => List.mem_cons_of_mem _ hw
  have hown : s.vm.findClass RX2 = some m.cls := findClass_of_methodNamed B.named
  have hlocks := B.notSynchronized
  have hF : CallFix p m c cX2_isMissing 1 s args (wU yX2_isMissing cX2_isMissing 1 (some .boolean)) RX2 := ⟨hx, hb, hml, hown, hts⟩
  have hK := hPre.2.1
  have hZ := hPre.2.2.2
  have hw : Wd D cy shX ad nX (Aw ad nX) s.heap M s.heap [] := ⟨hPre.1, hPre.2.2.1, va_S.rf⟩
  have iw2 : ∀ w ∈ u_ws RX2 TX2 3, w ∈ wU yX2_isMissing cX2_isMissing 1 (some .boolean) := fun w hw => List.mem_cons_of_mem _ (iX2 w hw)
  rw [show entryFrame m args 1 = entryFrame m ([.ref (ad o0)] : List Value).toArray 1 from by rw [hargs]]
  have hl := lv_entry ([.ref (ad o0)]) (n := 1) (Nat.le_of_ble_eq_true rfl)
  rw [lg_entry_eq]
  generalize (lg_sl ([.ref (ad o0)]) ++ List.replicate (1 - (lg_sl ([.ref (ad o0)])).length) Slot.unset).toArray = ls at hl ⊢
  have hl : lv_has ls 1 [(0, .ref (ad o0))] := hl
  unfold f_X2_isMissing at h
  refine lv_aload_n hx hb dX2_isMissing_0 rfl (lv_at hl 0 rfl) ?_
  replace h := gd_some h
  obtain ⟨g1, h⟩ := h
  refine r_getI hx hb hts iw2 hown hK hw o0 1 g1 (by decide) rfl (by decide) rfl (hq _ qw325) (fun _ h9 => h9) dX2_isMissing_1 ?_
  refine lv_if_ne (tgt := 11) hx hb dX2_isMissing_4 (by decide) (fun c2 => ?_) (fun c2 => ?_)
  · replace h := if_some_f c2 h
    refine lv_iconst (v := (0 : Int32)) hx hb dX2_isMissing_11 (by decide) ?_
    exact r_iret hx hb hr rfl hlocks hZ hK hw h dX2_isMissing_12
  · replace h := if_some_t c2 h
    refine lv_iconst (v := (1 : Int32)) hx hb dX2_isMissing_7 (by decide) ?_
    refine lv_goto (tgt := 12) hx hb dX2_isMissing_8 (by decide) ?_
    exact r_iret hx hb hr rfl hlocks hZ hK hw h dX2_isMissing_12
theorem dX2_renew_0 : decode cX2_renew 0 = .ok (.aload_n 0, 1) := by decide +kernel
theorem dX2_renew_1 : decode cX2_renew 1 = .ok (.iload_n 1, 1) := by decide +kernel
theorem dX2_renew_2 : decode cX2_renew 2 = .ok (.putfield 15, 3) := by decide +kernel
theorem dX2_renew_5 : decode cX2_renew 5 = .ok (.aload_n 0, 1) := by decide +kernel
theorem dX2_renew_6 : decode cX2_renew 6 = .ok (.iload_n 2, 1) := by decide +kernel
theorem dX2_renew_7 : decode cX2_renew 7 = .ok (.putfield 19, 3) := by decide +kernel
theorem dX2_renew_10 : decode cX2_renew 10 = .ok (.iconst 0, 1) := by decide +kernel
theorem dX2_renew_11 : decode cX2_renew 11 = .ok (.istore_n 3, 1) := by decide +kernel
theorem dX2_renew_12 : decode cX2_renew 12 = .ok (.iload_n 3, 1) := by decide +kernel
theorem dX2_renew_13 : decode cX2_renew 13 = .ok (.bipush 40, 2) := by decide +kernel
theorem dX2_renew_15 : decode cX2_renew 15 = .ok (.if_icmp .ge 16, 3) := by decide +kernel
theorem dX2_renew_18 : decode cX2_renew 18 = .ok (.aload_n 0, 1) := by decide +kernel
theorem dX2_renew_19 : decode cX2_renew 19 = .ok (.getfield 9, 3) := by decide +kernel
theorem dX2_renew_22 : decode cX2_renew 22 = .ok (.iload_n 3, 1) := by decide +kernel
theorem dX2_renew_23 : decode cX2_renew 23 = .ok (.iconst 0, 1) := by decide +kernel
theorem dX2_renew_24 : decode cX2_renew 24 = .ok (.iastore, 1) := by decide +kernel
theorem dX2_renew_25 : decode cX2_renew 25 = .ok (.iinc 3 1, 3) := by decide +kernel
theorem dX2_renew_28 : decode cX2_renew 28 = .ok (.goto (-16), 3) := by decide +kernel
theorem dX2_renew_31 : decode cX2_renew 31 = .ok (.return_, 1) := by decide +kernel
set_option maxHeartbeats 4000000 in
set_option maxRecDepth 100000 in
theorem c_X2_renew (l : Launch) (D : va_G) (cy : Nat → ClassId) (ad adK adV : Nat → Nat) (M : Mm) (o0 : Nat) (a1 : Int32) (a2 : Int32) (res : Mm × Unit) (h : f_X2_renew M o0 a1 a2 = some res) : Met l yX2_renew (wU yX2_renew cX2_renew 4 none) rmX2_renew (va_Pc [.ref (ad o0), .int a1, .int a2] (Pre D cy shX ad nX adK adV M)) (va_Qv (fun (M2 : Mm) => M2 = res.1) (Pre D cy shX ad nX adK adV) (Aw ad nX)) 0 0 (Aw ad nX) := by
  refine Met.ofW (cc := cX2_renew) (maxL := 4) (ret := none) (by decide) rfl ?_
  intro p e s m args below meth c s₁ B hml hv
  obtain ⟨hargs, hPre⟩ := hv
  have hx := B.exec
  have hb := B.bytes
  have hr := B.returns
  have hts := atoms_spec (ws := wU yX2_renew cX2_renew 4 none) B.pre
  have hq : ∀ w ∈ gW, w.before args s = true := fun w hw => hts w (List.mem_cons_of_mem _ hw)
  have hcm : ∀ w ∈ gW, w ∈ wU yX2_renew cX2_renew 4 none := fun w hw => List.mem_cons_of_mem _ hw
  have hown : s.vm.findClass RX2 = some m.cls := findClass_of_methodNamed B.named
  have hlocks := B.notSynchronized
  have hF : CallFix p m c cX2_renew 4 s args (wU yX2_renew cX2_renew 4 none) RX2 := ⟨hx, hb, hml, hown, hts⟩
  have hK := hPre.2.1
  have hZ := hPre.2.2.2
  have hw : Wd D cy shX ad nX (Aw ad nX) s.heap M s.heap [] := ⟨hPre.1, hPre.2.2.1, va_S.rf⟩
  have iw2 : ∀ w ∈ u_ws RX2 TX2 3, w ∈ wU yX2_renew cX2_renew 4 none := fun w hw => List.mem_cons_of_mem _ (iX2 w hw)
  rw [show entryFrame m args 4 = entryFrame m ([.ref (ad o0), .int a1, .int a2] : List Value).toArray 4 from by rw [hargs]]
  have hl := lv_entry ([.ref (ad o0), .int a1, .int a2]) (n := 4) (Nat.le_of_ble_eq_true rfl)
  rw [lg_entry_eq]
  generalize (lg_sl ([.ref (ad o0), .int a1, .int a2]) ++ List.replicate (4 - (lg_sl ([.ref (ad o0), .int a1, .int a2])).length) Slot.unset).toArray = ls at hl ⊢
  have hl : lv_has ls 4 [(0, .ref (ad o0)), (1, .int a1), (2, .int a2)] := hl
  have hb12 : ∀ (nn : Nat), ∀ (M : Mm) (x0 : Nat) (x3 : Int32), f_X2_renew_b12 nn M x0 x3 = some res → ∀ (H : Heap) (locs : List Loc) (ls : Array Slot), Wd D cy shX ad nX (Aw ad nX) s.heap M H locs → lv_has ls 4 [(0, .ref (ad x0)), (3, .int x3)] → W p l e (headSpec (wU yX2_renew cX2_renew 4 none) rmX2_renew).room s m args below meth c H locs 0 0 (QV D cy shX ad nX adK adV below args s res) (F0 m 12 ls []) := by
    intro nn
    induction nn with
    | zero => intro M x0 x3 h; simp [f_X2_renew_b12] at h
    | succ nn ih =>
      intro M x0 x3 h H locs ls hw hl
      unfold f_X2_renew_b12 at h
      refine lv_iload_n hx hb dX2_renew_12 rfl (lv_at hl 1 rfl) ?_
      refine lv_bipush (v := (40 : Int32)) hx hb dX2_renew_13 (by decide) ?_
      refine lv_icmp_ge (tgt := 31) hx hb dX2_renew_15 (by decide) (fun c1 => ?_) (fun c1 => ?_)
      · replace h := if_some_t c1 h
        exact r_vret hx hb hr hlocks hZ hK hw h dX2_renew_31
      · replace h := if_some_f c1 h
        refine lv_aload_n hx hb dX2_renew_18 rfl (lv_at hl 0 rfl) ?_
        replace h := gd_some h
        obtain ⟨g2, h⟩ := h
        replace h := bd_some h
        obtain ⟨q3, eq3, h⟩ := h
        refine r_getR hx hb hts iw2 hown hK hw x0 0 g2 (by decide) rfl (by decide) rfl (hq _ qw323) (fun _ h9 => h9) dX2_renew_19 eq3 ?_
        refine lv_iload_n hx hb dX2_renew_22 rfl (lv_at hl 1 rfl) ?_
        refine lv_iconst (v := (0 : Int32)) hx hb dX2_renew_23 (by decide) ?_
        replace h := gd_some h
        obtain ⟨g4, h⟩ := h
        refine r_iast hx hb hK hw q3 g4 dX2_renew_24 (fun H locs hw => ?_)
        replace h := lt_some h
        obtain ⟨M5, eM5, h⟩ := h
        rw [← eM5] at hw
        refine lv_iinc (v := x3 + (1 : Int32)) (lv' := [(3, .int (x3 + (1 : Int32))), (0, .ref (ad x0))]) hx hb dX2_renew_25 hl (k := 1) rfl (congrArg (fun z => x3 + z) (by decide)) (by decide) rfl (fun ls hl => ?_)
        refine lv_goto (tgt := 12) hx hb dX2_renew_28 (by decide) ?_
        exact ih _ _ _ h _ _ _ hw (lv_sub hl [1, 0] rfl)
  unfold f_X2_renew at h
  refine lv_aload_n hx hb dX2_renew_0 rfl (lv_at hl 0 rfl) ?_
  refine lv_iload_n hx hb dX2_renew_1 rfl (lv_at hl 1 rfl) ?_
  replace h := gd_some h
  obtain ⟨g6, h⟩ := h
  refine r_putI hx hb hts iw2 tyX2 tyX2_ok nmX2 hown hK hw o0 1 g6 (by decide) rfl (by decide) rfl (hq _ qw325) (fun _ h9 => h9) rfl rfl rfl dX2_renew_2 (fun H locs hw => ?_)
  replace h := lt_some h
  obtain ⟨M7, eM7, h⟩ := h
  rw [← eM7] at hw
  refine lv_aload_n hx hb dX2_renew_5 rfl (lv_at hl 0 rfl) ?_
  refine lv_iload_n hx hb dX2_renew_6 rfl (lv_at hl 2 rfl) ?_
  refine r_putI hx hb hts iw2 tyX2 tyX2_ok nmX2 hown hK hw o0 2 g6 (by decide) rfl (by decide) rfl (hq _ qw327) (fun _ h9 => h9) rfl rfl rfl dX2_renew_7 (fun H locs hw => ?_)
  replace h := lt_some h
  obtain ⟨M8, eM8, h⟩ := h
  rw [← eM8] at hw
  refine lv_iconst (v := (0 : Int32)) hx hb dX2_renew_10 (by decide) ?_
  refine lv_istore_n (lv' := [(3, .int (0 : Int32)), (0, .ref (ad o0)), (1, .int a1), (2, .int a2)]) hx hb dX2_renew_11 rfl hl (by decide) rfl (fun ls hl => ?_)
  exact hb12 1000 _ _ _ h _ _ _ hw (lv_sub hl [1, 0] rfl)

theorem dX2_put_0 : decode cX2_put 0 = .ok (.aload_n 0, 1) := by decide +kernel
theorem dX2_put_1 : decode cX2_put 1 = .ok (.getfield 15, 3) := by decide +kernel
theorem dX2_put_4 : decode cX2_put 4 = .ok (.bipush 8, 2) := by decide +kernel
theorem dX2_put_6 : decode cX2_put 6 = .ok (.if_icmp .ne 14, 3) := by decide +kernel
theorem dX2_put_9 : decode cX2_put 9 = .ok (.aload_n 0, 1) := by decide +kernel
theorem dX2_put_10 : decode cX2_put 10 = .ok (.getfield 9, 3) := by decide +kernel
theorem dX2_put_13 : decode cX2_put 13 = .ok (.iload_n 1, 1) := by decide +kernel
theorem dX2_put_14 : decode cX2_put 14 = .ok (.iload_n 2, 1) := by decide +kernel
theorem dX2_put_15 : decode cX2_put 15 = .ok (.i2b, 1) := by decide +kernel
theorem dX2_put_16 : decode cX2_put 16 = .ok (.iastore, 1) := by decide +kernel
theorem dX2_put_17 : decode cX2_put 17 = .ok (.goto 30, 3) := by decide +kernel
theorem dX2_put_20 : decode cX2_put 20 = .ok (.aload_n 0, 1) := by decide +kernel
theorem dX2_put_21 : decode cX2_put 21 = .ok (.getfield 15, 3) := by decide +kernel
theorem dX2_put_24 : decode cX2_put 24 = .ok (.bipush 16, 2) := by decide +kernel
theorem dX2_put_26 : decode cX2_put 26 = .ok (.if_icmp .ne 14, 3) := by decide +kernel
theorem dX2_put_29 : decode cX2_put 29 = .ok (.aload_n 0, 1) := by decide +kernel
theorem dX2_put_30 : decode cX2_put 30 = .ok (.getfield 9, 3) := by decide +kernel
theorem dX2_put_33 : decode cX2_put 33 = .ok (.iload_n 1, 1) := by decide +kernel
theorem dX2_put_34 : decode cX2_put 34 = .ok (.iload_n 2, 1) := by decide +kernel
theorem dX2_put_35 : decode cX2_put 35 = .ok (.i2s, 1) := by decide +kernel
theorem dX2_put_36 : decode cX2_put 36 = .ok (.iastore, 1) := by decide +kernel
theorem dX2_put_37 : decode cX2_put 37 = .ok (.goto 10, 3) := by decide +kernel
theorem dX2_put_40 : decode cX2_put 40 = .ok (.aload_n 0, 1) := by decide +kernel
theorem dX2_put_41 : decode cX2_put 41 = .ok (.getfield 9, 3) := by decide +kernel
theorem dX2_put_44 : decode cX2_put 44 = .ok (.iload_n 1, 1) := by decide +kernel
theorem dX2_put_45 : decode cX2_put 45 = .ok (.iload_n 2, 1) := by decide +kernel
theorem dX2_put_46 : decode cX2_put 46 = .ok (.iastore, 1) := by decide +kernel
theorem dX2_put_47 : decode cX2_put 47 = .ok (.return_, 1) := by decide +kernel
set_option maxHeartbeats 4000000 in
set_option maxRecDepth 100000 in
theorem c_X2_put (l : Launch) (D : va_G) (cy : Nat → ClassId) (ad adK adV : Nat → Nat) (M : Mm) (o0 : Nat) (a1 : Int32) (a2 : Int32) (res : Mm × Unit) (h : f_X2_put M o0 a1 a2 = some res) : Met l yX2_put (wU yX2_put cX2_put 3 none) rmX2_put (va_Pc [.ref (ad o0), .int a1, .int a2] (Pre D cy shX ad nX adK adV M)) (va_Qv (fun (M2 : Mm) => M2 = res.1) (Pre D cy shX ad nX adK adV) (Aw ad nX)) 0 0 (Aw ad nX) := by
  refine Met.ofW (cc := cX2_put) (maxL := 3) (ret := none) (by decide) rfl ?_
  intro p e s m args below meth c s₁ B hml hv
  obtain ⟨hargs, hPre⟩ := hv
  have hx := B.exec
  have hb := B.bytes
  have hr := B.returns
  have hts := atoms_spec (ws := wU yX2_put cX2_put 3 none) B.pre
  have hq : ∀ w ∈ gW, w.before args s = true := fun w hw => hts w (List.mem_cons_of_mem _ hw)
  have hcm : ∀ w ∈ gW, w ∈ wU yX2_put cX2_put 3 none := fun w hw => List.mem_cons_of_mem _ hw
  have hown : s.vm.findClass RX2 = some m.cls := findClass_of_methodNamed B.named
  have hlocks := B.notSynchronized
  have hF : CallFix p m c cX2_put 3 s args (wU yX2_put cX2_put 3 none) RX2 := ⟨hx, hb, hml, hown, hts⟩
  have hK := hPre.2.1
  have hZ := hPre.2.2.2
  have hw : Wd D cy shX ad nX (Aw ad nX) s.heap M s.heap [] := ⟨hPre.1, hPre.2.2.1, va_S.rf⟩
  have iw2 : ∀ w ∈ u_ws RX2 TX2 3, w ∈ wU yX2_put cX2_put 3 none := fun w hw => List.mem_cons_of_mem _ (iX2 w hw)
  rw [show entryFrame m args 3 = entryFrame m ([.ref (ad o0), .int a1, .int a2] : List Value).toArray 3 from by rw [hargs]]
  have hl := lv_entry ([.ref (ad o0), .int a1, .int a2]) (n := 3) (Nat.le_of_ble_eq_true rfl)
  rw [lg_entry_eq]
  generalize (lg_sl ([.ref (ad o0), .int a1, .int a2]) ++ List.replicate (3 - (lg_sl ([.ref (ad o0), .int a1, .int a2])).length) Slot.unset).toArray = ls at hl ⊢
  have hl : lv_has ls 3 [(0, .ref (ad o0)), (1, .int a1), (2, .int a2)] := hl
  unfold f_X2_put at h
  refine lv_aload_n hx hb dX2_put_0 rfl (lv_at hl 0 rfl) ?_
  replace h := gd_some h
  obtain ⟨g1, h⟩ := h
  refine r_getI hx hb hts iw2 hown hK hw o0 1 g1 (by decide) rfl (by decide) rfl (hq _ qw325) (fun _ h9 => h9) dX2_put_1 ?_
  refine lv_bipush (v := (8 : Int32)) hx hb dX2_put_4 (by decide) ?_
  refine lv_icmp_ne (tgt := 20) hx hb dX2_put_6 (by decide) (fun c2 => ?_) (fun c2 => ?_)
  · replace h := if_some_f c2 h
    refine lv_aload_n hx hb dX2_put_20 rfl (lv_at hl 0 rfl) ?_
    refine r_getI hx hb hts iw2 hown hK hw o0 1 g1 (by decide) rfl (by decide) rfl (hq _ qw325) (fun _ h9 => h9) dX2_put_21 ?_
    refine lv_bipush (v := (16 : Int32)) hx hb dX2_put_24 (by decide) ?_
    refine lv_icmp_ne (tgt := 40) hx hb dX2_put_26 (by decide) (fun c3 => ?_) (fun c3 => ?_)
    · replace h := if_some_f c3 h
      refine lv_aload_n hx hb dX2_put_40 rfl (lv_at hl 0 rfl) ?_
      replace h := bd_some h
      obtain ⟨q4, eq4, h⟩ := h
      refine r_getR hx hb hts iw2 hown hK hw o0 0 g1 (by decide) rfl (by decide) rfl (hq _ qw323) (fun _ h9 => h9) dX2_put_41 eq4 ?_
      refine lv_iload_n hx hb dX2_put_44 rfl (lv_at hl 1 rfl) ?_
      refine lv_iload_n hx hb dX2_put_45 rfl (lv_at hl 2 rfl) ?_
      replace h := gd_some h
      obtain ⟨g5, h⟩ := h
      refine r_iast hx hb hK hw q4 g5 dX2_put_46 (fun H locs hw => ?_)
      replace h := lt_some h
      obtain ⟨M6, eM6, h⟩ := h
      rw [← eM6] at hw
      exact r_vret hx hb hr hlocks hZ hK hw h dX2_put_47
    · replace h := if_some_t c3 h
      refine lv_aload_n hx hb dX2_put_29 rfl (lv_at hl 0 rfl) ?_
      replace h := bd_some h
      obtain ⟨q7, eq7, h⟩ := h
      refine r_getR hx hb hts iw2 hown hK hw o0 0 g1 (by decide) rfl (by decide) rfl (hq _ qw323) (fun _ h9 => h9) dX2_put_30 eq7 ?_
      refine lv_iload_n hx hb dX2_put_33 rfl (lv_at hl 1 rfl) ?_
      refine lv_iload_n hx hb dX2_put_34 rfl (lv_at hl 2 rfl) ?_
      refine lv_i2s (v := a2.toInt16.toInt32) hx hb dX2_put_35 rfl ?_
      replace h := gd_some h
      obtain ⟨g8, h⟩ := h
      refine r_iast hx hb hK hw q7 g8 dX2_put_36 (fun H locs hw => ?_)
      replace h := lt_some h
      obtain ⟨M9, eM9, h⟩ := h
      rw [← eM9] at hw
      refine lv_goto (tgt := 47) hx hb dX2_put_37 (by decide) ?_
      exact r_vret hx hb hr hlocks hZ hK hw h dX2_put_47
  · replace h := if_some_t c2 h
    refine lv_aload_n hx hb dX2_put_9 rfl (lv_at hl 0 rfl) ?_
    replace h := bd_some h
    obtain ⟨q10, eq10, h⟩ := h
    refine r_getR hx hb hts iw2 hown hK hw o0 0 g1 (by decide) rfl (by decide) rfl (hq _ qw323) (fun _ h9 => h9) dX2_put_10 eq10 ?_
    refine lv_iload_n hx hb dX2_put_13 rfl (lv_at hl 1 rfl) ?_
    refine lv_iload_n hx hb dX2_put_14 rfl (lv_at hl 2 rfl) ?_
    refine lv_i2b (v := a2.toInt8.toInt32) hx hb dX2_put_15 rfl ?_
    replace h := gd_some h
    obtain ⟨g11, h⟩ := h
    refine r_iast hx hb hK hw q10 g11 dX2_put_16 (fun H locs hw => ?_)
    replace h := lt_some h
    obtain ⟨M12, eM12, h⟩ := h
    rw [← eM12] at hw
    refine lv_goto (tgt := 47) hx hb dX2_put_17 (by decide) ?_
    exact r_vret hx hb hr hlocks hZ hK hw h dX2_put_47
theorem dX2_hasRange_0 : decode cX2_hasRange 0 = .ok (.iload_n 1, 1) := by decide +kernel
theorem dX2_hasRange_1 : decode cX2_hasRange 1 = .ok (.ifCond .lt 21, 3) := by decide +kernel
theorem dX2_hasRange_4 : decode cX2_hasRange 4 = .ok (.iload_n 2, 1) := by decide +kernel
theorem dX2_hasRange_5 : decode cX2_hasRange 5 = .ok (.ifCond .lt 17, 3) := by decide +kernel
theorem dX2_hasRange_8 : decode cX2_hasRange 8 = .ok (.iload_n 2, 1) := by decide +kernel
theorem dX2_hasRange_9 : decode cX2_hasRange 9 = .ok (.aload_n 0, 1) := by decide +kernel
theorem dX2_hasRange_10 : decode cX2_hasRange 10 = .ok (.getfield 19, 3) := by decide +kernel
theorem dX2_hasRange_13 : decode cX2_hasRange 13 = .ok (.iload_n 1, 1) := by decide +kernel
theorem dX2_hasRange_14 : decode cX2_hasRange 14 = .ok (.isub, 1) := by decide +kernel
theorem dX2_hasRange_15 : decode cX2_hasRange 15 = .ok (.if_icmp .gt 7, 3) := by decide +kernel
theorem dX2_hasRange_18 : decode cX2_hasRange 18 = .ok (.iconst 1, 1) := by decide +kernel
theorem dX2_hasRange_19 : decode cX2_hasRange 19 = .ok (.goto 4, 3) := by decide +kernel
theorem dX2_hasRange_22 : decode cX2_hasRange 22 = .ok (.iconst 0, 1) := by decide +kernel
theorem dX2_hasRange_23 : decode cX2_hasRange 23 = .ok (.ireturn, 1) := by decide +kernel
set_option maxHeartbeats 4000000 in
set_option maxRecDepth 100000 in
theorem c_X2_hasRange (l : Launch) (D : va_G) (cy : Nat → ClassId) (ad adK adV : Nat → Nat) (M : Mm) (o0 : Nat) (a1 : Int32) (a2 : Int32) (res : Mm × Int32) (h : f_X2_hasRange M o0 a1 a2 = some res) : Met l yX2_hasRange (wU yX2_hasRange cX2_hasRange 3 (some .boolean)) rmX2_hasRange (va_Pc [.ref (ad o0), .int a1, .int a2] (Pre D cy shX ad nX adK adV M)) (va_Qi (fun r (M2 : Mm) => r = res.2 ∧ M2 = res.1) (Pre D cy shX ad nX adK adV) (Aw ad nX)) 0 0 (Aw ad nX) := by
  refine Met.ofW (cc := cX2_hasRange) (maxL := 3) (ret := (some .boolean)) (by decide) rfl ?_
  intro p e s m args below meth c s₁ B hml hv
  obtain ⟨hargs, hPre⟩ := hv
  have hx := B.exec
  have hb := B.bytes
  have hr := B.returns
  have hts := atoms_spec (ws := wU yX2_hasRange cX2_hasRange 3 (some .boolean)) B.pre
  have hq : ∀ w ∈ gW, w.before args s = true := fun w hw => hts w (List.mem_cons_of_mem _ hw)
  have hcm : ∀ w ∈ gW, w ∈ wU yX2_hasRange cX2_hasRange 3 (some .boolean) := fun w hw => List.mem_cons_of_mem _ hw
  have hown : s.vm.findClass RX2 = some m.cls := findClass_of_methodNamed B.named
  have hlocks := B.notSynchronized
  have hF : CallFix p m c cX2_hasRange 3 s args (wU yX2_hasRange cX2_hasRange 3 (some .boolean)) RX2 := ⟨hx, hb, hml, hown, hts⟩
  have hK := hPre.2.1
  have hZ := hPre.2.2.2
  have hw : Wd D cy shX ad nX (Aw ad nX) s.heap M s.heap [] := ⟨hPre.1, hPre.2.2.1, va_S.rf⟩
  have iw2 : ∀ w ∈ u_ws RX2 TX2 3, w ∈ wU yX2_hasRange cX2_hasRange 3 (some .boolean) := fun w hw => List.mem_cons_of_mem _ (iX2 w hw)
  rw [show entryFrame m args 3 = entryFrame m ([.ref (ad o0), .int a1, .int a2] : List Value).toArray 3 from by rw [hargs]]
  have hl := lv_entry ([.ref (ad o0), .int a1, .int a2]) (n := 3) (Nat.le_of_ble_eq_true rfl)
  rw [lg_entry_eq]
  generalize (lg_sl ([.ref (ad o0), .int a1, .int a2]) ++ List.replicate (3 - (lg_sl ([.ref (ad o0), .int a1, .int a2])).length) Slot.unset).toArray = ls at hl ⊢
  have hl : lv_has ls 3 [(0, .ref (ad o0)), (1, .int a1), (2, .int a2)] := hl
  unfold f_X2_hasRange at h
  refine lv_iload_n hx hb dX2_hasRange_0 rfl (lv_at hl 1 rfl) ?_
  refine lv_if_lt (tgt := 22) hx hb dX2_hasRange_1 (by decide) (fun c1 => ?_) (fun c1 => ?_)
  · replace h := if_some_t c1 h
    refine lv_iconst (v := (0 : Int32)) hx hb dX2_hasRange_22 (by decide) ?_
    exact r_iret hx hb hr rfl hlocks hZ hK hw h dX2_hasRange_23
  · replace h := if_some_f c1 h
    refine lv_iload_n hx hb dX2_hasRange_4 rfl (lv_at hl 2 rfl) ?_
    refine lv_if_lt (tgt := 22) hx hb dX2_hasRange_5 (by decide) (fun c2 => ?_) (fun c2 => ?_)
    · replace h := if_some_t c2 h
      refine lv_iconst (v := (0 : Int32)) hx hb dX2_hasRange_22 (by decide) ?_
      exact r_iret hx hb hr rfl hlocks hZ hK hw h dX2_hasRange_23
    · replace h := if_some_f c2 h
      refine lv_iload_n hx hb dX2_hasRange_8 rfl (lv_at hl 2 rfl) ?_
      refine lv_aload_n hx hb dX2_hasRange_9 rfl (lv_at hl 0 rfl) ?_
      replace h := gd_some h
      obtain ⟨g3, h⟩ := h
      refine r_getI hx hb hts iw2 hown hK hw o0 2 g3 (by decide) rfl (by decide) rfl (hq _ qw327) (fun _ h9 => h9) dX2_hasRange_10 ?_
      refine lv_iload_n hx hb dX2_hasRange_13 rfl (lv_at hl 1 rfl) ?_
      refine lv_isub hx hb dX2_hasRange_14 ?_
      refine lv_icmp_gt (tgt := 22) hx hb dX2_hasRange_15 (by decide) (fun c4 => ?_) (fun c4 => ?_)
      · replace h := if_some_t c4 h
        refine lv_iconst (v := (0 : Int32)) hx hb dX2_hasRange_22 (by decide) ?_
        exact r_iret hx hb hr rfl hlocks hZ hK hw h dX2_hasRange_23
      · replace h := if_some_f c4 h
        refine lv_iconst (v := (1 : Int32)) hx hb dX2_hasRange_18 (by decide) ?_
        refine lv_goto (tgt := 23) hx hb dX2_hasRange_19 (by decide) ?_
        exact r_iret hx hb hr rfl hlocks hZ hK hw h dX2_hasRange_23
theorem dX4_append_0 : decode cX4_append 0 = .ok (.iload_n 2, 1) := by decide +kernel
theorem dX4_append_1 : decode cX4_append 1 = .ok (.iconst 1, 1) := by decide +kernel
theorem dX4_append_2 : decode cX4_append 2 = .ok (.isub, 1) := by decide +kernel
theorem dX4_append_3 : decode cX4_append 3 = .ok (.istore_n 3, 1) := by decide +kernel
theorem dX4_append_4 : decode cX4_append 4 = .ok (.iload_n 3, 1) := by decide +kernel
theorem dX4_append_5 : decode cX4_append 5 = .ok (.ifCond .lt 38, 3) := by decide +kernel
theorem dX4_append_8 : decode cX4_append 8 = .ok (.aload_n 0, 1) := by decide +kernel
theorem dX4_append_9 : decode cX4_append 9 = .ok (.getfield 9, 3) := by decide +kernel
theorem dX4_append_12 : decode cX4_append 12 = .ok (.aload_n 0, 1) := by decide +kernel
theorem dX4_append_13 : decode cX4_append 13 = .ok (.getfield 15, 3) := by decide +kernel
theorem dX4_append_16 : decode cX4_append 16 = .ok (.iload_n 1, 1) := by decide +kernel
theorem dX4_append_17 : decode cX4_append 17 = .ok (.bipush 8, 2) := by decide +kernel
theorem dX4_append_19 : decode cX4_append 19 = .ok (.iload_n 3, 1) := by decide +kernel
theorem dX4_append_20 : decode cX4_append 20 = .ok (.imul, 1) := by decide +kernel
theorem dX4_append_21 : decode cX4_append 21 = .ok (.iushr, 1) := by decide +kernel
theorem dX4_append_22 : decode cX4_append 22 = .ok (.sipush 255, 3) := by decide +kernel
theorem dX4_append_25 : decode cX4_append 25 = .ok (.iand, 1) := by decide +kernel
theorem dX4_append_26 : decode cX4_append 26 = .ok (.iastore, 1) := by decide +kernel
theorem dX4_append_27 : decode cX4_append 27 = .ok (.aload_n 0, 1) := by decide +kernel
theorem dX4_append_28 : decode cX4_append 28 = .ok (.dup, 1) := by decide +kernel
theorem dX4_append_29 : decode cX4_append 29 = .ok (.getfield 15, 3) := by decide +kernel
theorem dX4_append_32 : decode cX4_append 32 = .ok (.iconst 1, 1) := by decide +kernel
theorem dX4_append_33 : decode cX4_append 33 = .ok (.iadd, 1) := by decide +kernel
theorem dX4_append_34 : decode cX4_append 34 = .ok (.putfield 15, 3) := by decide +kernel
theorem dX4_append_37 : decode cX4_append 37 = .ok (.iinc 3 (-1), 3) := by decide +kernel
theorem dX4_append_40 : decode cX4_append 40 = .ok (.goto (-36), 3) := by decide +kernel
theorem dX4_append_43 : decode cX4_append 43 = .ok (.return_, 1) := by decide +kernel
set_option maxHeartbeats 4000000 in
set_option maxRecDepth 100000 in
theorem c_X4_append (l : Launch) (D : va_G) (cy : Nat → ClassId) (ad adK adV : Nat → Nat) (M : Mm) (o0 : Nat) (a1 : Int32) (a2 : Int32) (res : Mm × Unit) (h : f_X4_append M o0 a1 a2 = some res) : Met l yX4_append (wU yX4_append cX4_append 4 none) rmX4_append (va_Pc [.ref (ad o0), .int a1, .int a2] (Pre D cy shX ad nX adK adV M)) (va_Qv (fun (M2 : Mm) => M2 = res.1) (Pre D cy shX ad nX adK adV) (Aw ad nX)) 0 0 (Aw ad nX) := by
  refine Met.ofW (cc := cX4_append) (maxL := 4) (ret := none) (by decide) rfl ?_
  intro p e s m args below meth c s₁ B hml hv
  obtain ⟨hargs, hPre⟩ := hv
  have hx := B.exec
  have hb := B.bytes
  have hr := B.returns
  have hts := atoms_spec (ws := wU yX4_append cX4_append 4 none) B.pre
  have hq : ∀ w ∈ gW, w.before args s = true := fun w hw => hts w (List.mem_cons_of_mem _ hw)
  have hcm : ∀ w ∈ gW, w ∈ wU yX4_append cX4_append 4 none := fun w hw => List.mem_cons_of_mem _ hw
  have hown : s.vm.findClass RX4 = some m.cls := findClass_of_methodNamed B.named
  have hlocks := B.notSynchronized
  have hF : CallFix p m c cX4_append 4 s args (wU yX4_append cX4_append 4 none) RX4 := ⟨hx, hb, hml, hown, hts⟩
  have hK := hPre.2.1
  have hZ := hPre.2.2.2
  have hw : Wd D cy shX ad nX (Aw ad nX) s.heap M s.heap [] := ⟨hPre.1, hPre.2.2.1, va_S.rf⟩
  have iw4 : ∀ w ∈ u_ws RX4 TX4 6, w ∈ wU yX4_append cX4_append 4 none := fun w hw => List.mem_cons_of_mem _ (iX4 w hw)
  rw [show entryFrame m args 4 = entryFrame m ([.ref (ad o0), .int a1, .int a2] : List Value).toArray 4 from by rw [hargs]]
  have hl := lv_entry ([.ref (ad o0), .int a1, .int a2]) (n := 4) (Nat.le_of_ble_eq_true rfl)
  rw [lg_entry_eq]
  generalize (lg_sl ([.ref (ad o0), .int a1, .int a2]) ++ List.replicate (4 - (lg_sl ([.ref (ad o0), .int a1, .int a2])).length) Slot.unset).toArray = ls at hl ⊢
  have hl : lv_has ls 4 [(0, .ref (ad o0)), (1, .int a1), (2, .int a2)] := hl
  have hb4 : ∀ (nn : Nat), ∀ (M : Mm) (x0 : Nat) (x1 : Int32) (x3 : Int32), f_X4_append_b4 nn M x0 x1 x3 = some res → ∀ (H : Heap) (locs : List Loc) (ls : Array Slot), Wd D cy shX ad nX (Aw ad nX) s.heap M H locs → lv_has ls 4 [(0, .ref (ad x0)), (1, .int x1), (3, .int x3)] → W p l e (headSpec (wU yX4_append cX4_append 4 none) rmX4_append).room s m args below meth c H locs 0 0 (QV D cy shX ad nX adK adV below args s res) (F0 m 4 ls []) := by
    intro nn
    induction nn with
    | zero => intro M x0 x1 x3 h; simp [f_X4_append_b4] at h
    | succ nn ih =>
      intro M x0 x1 x3 h H locs ls hw hl
      unfold f_X4_append_b4 at h
      refine lv_iload_n hx hb dX4_append_4 rfl (lv_at hl 2 rfl) ?_
      refine lv_if_lt (tgt := 43) hx hb dX4_append_5 (by decide) (fun c1 => ?_) (fun c1 => ?_)
      · replace h := if_some_t c1 h
        exact r_vret hx hb hr hlocks hZ hK hw h dX4_append_43
      · replace h := if_some_f c1 h
        refine lv_aload_n hx hb dX4_append_8 rfl (lv_at hl 0 rfl) ?_
        replace h := gd_some h
        obtain ⟨g2, h⟩ := h
        replace h := bd_some h
        obtain ⟨q3, eq3, h⟩ := h
        refine r_getR hx hb hts iw4 hown hK hw x0 0 g2 (by decide) rfl (by decide) rfl (hq _ qw296) (fun _ h9 => h9) dX4_append_9 eq3 ?_
        refine lv_aload_n hx hb dX4_append_12 rfl (lv_at hl 0 rfl) ?_
        refine r_getI hx hb hts iw4 hown hK hw x0 1 g2 (by decide) rfl (by decide) rfl (hq _ qw297) (fun _ h9 => h9) dX4_append_13 ?_
        refine lv_iload_n hx hb dX4_append_16 rfl (lv_at hl 1 rfl) ?_
        refine lv_bipush (v := (8 : Int32)) hx hb dX4_append_17 (by decide) ?_
        refine lv_iload_n hx hb dX4_append_19 rfl (lv_at hl 2 rfl) ?_
        refine lv_imul hx hb dX4_append_20 ?_
        refine lv_iushr (v := (x1.toUInt32 >>> (((8 : Int32) * x3).toUInt32 &&& Int32.toUInt32 31)).toInt32) hx hb dX4_append_21 rfl ?_
        refine lv_sipush (v := (255 : Int32)) hx hb dX4_append_22 (by decide) ?_
        refine lv_iand hx hb dX4_append_25 ?_
        replace h := gd_some h
        obtain ⟨g4, h⟩ := h
        refine r_iast hx hb hK hw q3 g4 dX4_append_26 (fun H locs hw => ?_)
        replace h := lt_some h
        obtain ⟨M5, eM5, h⟩ := h
        rw [← eM5] at hw
        refine lv_aload_n hx hb dX4_append_27 rfl (lv_at hl 0 rfl) ?_
        refine lv_dup hx hb dX4_append_28 rfl ?_
        refine r_getI hx hb hts iw4 hown hK hw x0 1 g2 (by decide) rfl (by decide) rfl (hq _ qw297) (fun _ h9 => h9) dX4_append_29 ?_
        refine lv_iconst (v := (1 : Int32)) hx hb dX4_append_32 (by decide) ?_
        refine lv_iadd hx hb dX4_append_33 ?_
        refine r_putI hx hb hts iw4 tyX4 tyX4_ok nmX4 hown hK hw x0 1 g2 (by decide) rfl (by decide) rfl (hq _ qw297) (fun _ h9 => h9) rfl rfl rfl dX4_append_34 (fun H locs hw => ?_)
        replace h := lt_some h
        obtain ⟨M6, eM6, h⟩ := h
        rw [← eM6] at hw
        refine lv_iinc (v := x3 + (-1 : Int32)) (lv' := [(3, .int (x3 + (-1 : Int32))), (0, .ref (ad x0)), (1, .int x1)]) hx hb dX4_append_37 hl (k := 2) rfl (congrArg (fun z => x3 + z) (by decide)) (by decide) rfl (fun ls hl => ?_)
        refine lv_goto (tgt := 4) hx hb dX4_append_40 (by decide) ?_
        exact ih _ _ _ _ h _ _ _ hw (lv_sub hl [1, 2, 0] rfl)
  unfold f_X4_append at h
  refine lv_iload_n hx hb dX4_append_0 rfl (lv_at hl 2 rfl) ?_
  refine lv_iconst (v := (1 : Int32)) hx hb dX4_append_1 (by decide) ?_
  refine lv_isub hx hb dX4_append_2 ?_
  refine lv_istore_n (lv' := [(3, .int (a2 - (1 : Int32))), (0, .ref (ad o0)), (1, .int a1), (2, .int a2)]) hx hb dX4_append_3 rfl hl (by decide) rfl (fun ls hl => ?_)
  exact hb4 1000 _ _ _ _ h _ _ _ hw (lv_sub hl [1, 2, 0] rfl)
theorem dX4_isDigit_0 : decode cX4_isDigit 0 = .ok (.iload_n 0, 1) := by decide +kernel
theorem dX4_isDigit_1 : decode cX4_isDigit 1 = .ok (.bipush 48, 2) := by decide +kernel
theorem dX4_isDigit_3 : decode cX4_isDigit 3 = .ok (.if_icmp .lt 13, 3) := by decide +kernel
theorem dX4_isDigit_6 : decode cX4_isDigit 6 = .ok (.iload_n 0, 1) := by decide +kernel
theorem dX4_isDigit_7 : decode cX4_isDigit 7 = .ok (.bipush 57, 2) := by decide +kernel
theorem dX4_isDigit_9 : decode cX4_isDigit 9 = .ok (.if_icmp .gt 7, 3) := by decide +kernel
theorem dX4_isDigit_12 : decode cX4_isDigit 12 = .ok (.iconst 1, 1) := by decide +kernel
theorem dX4_isDigit_13 : decode cX4_isDigit 13 = .ok (.goto 4, 3) := by decide +kernel
theorem dX4_isDigit_16 : decode cX4_isDigit 16 = .ok (.iconst 0, 1) := by decide +kernel
theorem dX4_isDigit_17 : decode cX4_isDigit 17 = .ok (.ireturn, 1) := by decide +kernel
set_option maxHeartbeats 4000000 in
set_option maxRecDepth 100000 in
theorem c_X4_isDigit (l : Launch) (D : va_G) (cy : Nat → ClassId) (ad adK adV : Nat → Nat) (M : Mm) (a0 : Int32) (res : Mm × Int32) (h : f_X4_isDigit M a0 = some res) : Met l yX4_isDigit (wU yX4_isDigit cX4_isDigit 1 (some .boolean)) rmX4_isDigit (va_Pc [.int a0] (Pre D cy shX ad nX adK adV M)) (va_Qi (fun r (M2 : Mm) => r = res.2 ∧ M2 = res.1) (Pre D cy shX ad nX adK adV) (Aw ad nX)) 0 0 (Aw ad nX) := by
  refine Met.ofW (cc := cX4_isDigit) (maxL := 1) (ret := (some .boolean)) (by decide) rfl ?_
  intro p e s m args below meth c s₁ B hml hv
  obtain ⟨hargs, hPre⟩ := hv
  have hx := B.exec
  have hb := B.bytes
  have hr := B.returns
  have hts := atoms_spec (ws := wU yX4_isDigit cX4_isDigit 1 (some .boolean)) B.pre
  have hq : ∀ w ∈ gW, w.before args s = true := fun w hw => hts w (List.mem_cons_of_mem _ hw)
  have hcm : ∀ w ∈ gW, w ∈ wU yX4_isDigit cX4_isDigit 1 (some .boolean) := fun w hw => List.mem_cons_of_mem _ hw
  have hown : s.vm.findClass RX4 = some m.cls := findClass_of_methodNamed B.named
  have hlocks := B.notSynchronized
  have hF : CallFix p m c cX4_isDigit 1 s args (wU yX4_isDigit cX4_isDigit 1 (some .boolean)) RX4 := ⟨hx, hb, hml, hown, hts⟩
  have hK := hPre.2.1
  have hZ := hPre.2.2.2
  have hw : Wd D cy shX ad nX (Aw ad nX) s.heap M s.heap [] := ⟨hPre.1, hPre.2.2.1, va_S.rf⟩
  rw [show entryFrame m args 1 = entryFrame m ([.int a0] : List Value).toArray 1 from by rw [hargs]]
  have hl := lv_entry ([.int a0]) (n := 1) (Nat.le_of_ble_eq_true rfl)
  rw [lg_entry_eq]
  generalize (lg_sl ([.int a0]) ++ List.replicate (1 - (lg_sl ([.int a0])).length) Slot.unset).toArray = ls at hl ⊢
  have hl : lv_has ls 1 [(0, .int a0)] := hl
  unfold f_X4_isDigit at h
  refine lv_iload_n hx hb dX4_isDigit_0 rfl (lv_at hl 0 rfl) ?_
  refine lv_bipush (v := (48 : Int32)) hx hb dX4_isDigit_1 (by decide) ?_
  refine lv_icmp_lt (tgt := 16) hx hb dX4_isDigit_3 (by decide) (fun c1 => ?_) (fun c1 => ?_)
  · replace h := if_some_t c1 h
    refine lv_iconst (v := (0 : Int32)) hx hb dX4_isDigit_16 (by decide) ?_
    exact r_iret hx hb hr rfl hlocks hZ hK hw h dX4_isDigit_17
  · replace h := if_some_f c1 h
    refine lv_iload_n hx hb dX4_isDigit_6 rfl (lv_at hl 0 rfl) ?_
    refine lv_bipush (v := (57 : Int32)) hx hb dX4_isDigit_7 (by decide) ?_
    refine lv_icmp_gt (tgt := 16) hx hb dX4_isDigit_9 (by decide) (fun c2 => ?_) (fun c2 => ?_)
    · replace h := if_some_t c2 h
      refine lv_iconst (v := (0 : Int32)) hx hb dX4_isDigit_16 (by decide) ?_
      exact r_iret hx hb hr rfl hlocks hZ hK hw h dX4_isDigit_17
    · replace h := if_some_f c2 h
      refine lv_iconst (v := (1 : Int32)) hx hb dX4_isDigit_12 (by decide) ?_
      refine lv_goto (tgt := 17) hx hb dX4_isDigit_13 (by decide) ?_
      exact r_iret hx hb hr rfl hlocks hZ hK hw h dX4_isDigit_17
theorem dX4_goThroughDigits_0 : decode cX4_goThroughDigits 0 = .ok (.aload_n 0, 1) := by decide +kernel
theorem dX4_goThroughDigits_1 : decode cX4_goThroughDigits 1 = .ok (.getfield 25, 3) := by decide +kernel
theorem dX4_goThroughDigits_4 : decode cX4_goThroughDigits 4 = .ok (.aload_n 0, 1) := by decide +kernel
theorem dX4_goThroughDigits_5 : decode cX4_goThroughDigits 5 = .ok (.getfield 15, 3) := by decide +kernel
theorem dX4_goThroughDigits_8 : decode cX4_goThroughDigits 8 = .ok (.if_icmp .ge 61, 3) := by decide +kernel
theorem dX4_goThroughDigits_11 : decode cX4_goThroughDigits 11 = .ok (.aload_n 0, 1) := by decide +kernel
theorem dX4_goThroughDigits_12 : decode cX4_goThroughDigits 12 = .ok (.getfield 9, 3) := by decide +kernel
theorem dX4_goThroughDigits_15 : decode cX4_goThroughDigits 15 = .ok (.aload_n 0, 1) := by decide +kernel
theorem dX4_goThroughDigits_16 : decode cX4_goThroughDigits 16 = .ok (.getfield 25, 3) := by decide +kernel
theorem dX4_goThroughDigits_19 : decode cX4_goThroughDigits 19 = .ok (.iaload, 1) := by decide +kernel
theorem dX4_goThroughDigits_20 : decode cX4_goThroughDigits 20 = .ok (.invokestatic 115, 3) := by decide +kernel
theorem dX4_goThroughDigits_23 : decode cX4_goThroughDigits 23 = .ok (.ifCond .eq 46, 3) := by decide +kernel
theorem dX4_goThroughDigits_26 : decode cX4_goThroughDigits 26 = .ok (.aload_n 0, 1) := by decide +kernel
theorem dX4_goThroughDigits_27 : decode cX4_goThroughDigits 27 = .ok (.aload_n 0, 1) := by decide +kernel
theorem dX4_goThroughDigits_28 : decode cX4_goThroughDigits 28 = .ok (.getfield 28, 3) := by decide +kernel
theorem dX4_goThroughDigits_31 : decode cX4_goThroughDigits 31 = .ok (.bipush 10, 2) := by decide +kernel
theorem dX4_goThroughDigits_33 : decode cX4_goThroughDigits 33 = .ok (.imul, 1) := by decide +kernel
theorem dX4_goThroughDigits_34 : decode cX4_goThroughDigits 34 = .ok (.aload_n 0, 1) := by decide +kernel
theorem dX4_goThroughDigits_35 : decode cX4_goThroughDigits 35 = .ok (.getfield 9, 3) := by decide +kernel
theorem dX4_goThroughDigits_38 : decode cX4_goThroughDigits 38 = .ok (.aload_n 0, 1) := by decide +kernel
theorem dX4_goThroughDigits_39 : decode cX4_goThroughDigits 39 = .ok (.getfield 25, 3) := by decide +kernel
theorem dX4_goThroughDigits_42 : decode cX4_goThroughDigits 42 = .ok (.iaload, 1) := by decide +kernel
theorem dX4_goThroughDigits_43 : decode cX4_goThroughDigits 43 = .ok (.iadd, 1) := by decide +kernel
theorem dX4_goThroughDigits_44 : decode cX4_goThroughDigits 44 = .ok (.bipush 48, 2) := by decide +kernel
theorem dX4_goThroughDigits_46 : decode cX4_goThroughDigits 46 = .ok (.isub, 1) := by decide +kernel
theorem dX4_goThroughDigits_47 : decode cX4_goThroughDigits 47 = .ok (.sipush 1000, 3) := by decide +kernel
theorem dX4_goThroughDigits_50 : decode cX4_goThroughDigits 50 = .ok (.invokestatic 121, 3) := by decide +kernel
theorem dX4_goThroughDigits_53 : decode cX4_goThroughDigits 53 = .ok (.putfield 28, 3) := by decide +kernel
theorem dX4_goThroughDigits_56 : decode cX4_goThroughDigits 56 = .ok (.aload_n 0, 1) := by decide +kernel
theorem dX4_goThroughDigits_57 : decode cX4_goThroughDigits 57 = .ok (.dup, 1) := by decide +kernel
theorem dX4_goThroughDigits_58 : decode cX4_goThroughDigits 58 = .ok (.getfield 25, 3) := by decide +kernel
theorem dX4_goThroughDigits_61 : decode cX4_goThroughDigits 61 = .ok (.iconst 1, 1) := by decide +kernel
theorem dX4_goThroughDigits_62 : decode cX4_goThroughDigits 62 = .ok (.iadd, 1) := by decide +kernel
theorem dX4_goThroughDigits_63 : decode cX4_goThroughDigits 63 = .ok (.putfield 25, 3) := by decide +kernel
theorem dX4_goThroughDigits_66 : decode cX4_goThroughDigits 66 = .ok (.goto (-66), 3) := by decide +kernel
theorem dX4_goThroughDigits_69 : decode cX4_goThroughDigits 69 = .ok (.return_, 1) := by decide +kernel
set_option maxHeartbeats 4000000 in
set_option maxRecDepth 100000 in
theorem c_X4_goThroughDigits (l : Launch) (D : va_G) (cy : Nat → ClassId) (ad adK adV : Nat → Nat) (M : Mm) (o0 : Nat) (res : Mm × Unit) (h : f_X4_goThroughDigits M o0 = some res) : Met l yX4_goThroughDigits (wU yX4_goThroughDigits cX4_goThroughDigits 1 none) rmX4_goThroughDigits (va_Pc [.ref (ad o0)] (Pre D cy shX ad nX adK adV M)) (va_Qv (fun (M2 : Mm) => M2 = res.1) (Pre D cy shX ad nX adK adV) (Aw ad nX)) 0 0 (Aw ad nX) := by
  refine Met.ofW (cc := cX4_goThroughDigits) (maxL := 1) (ret := none) (by decide) rfl ?_
  intro p e s m args below meth c s₁ B hml hv
  obtain ⟨hargs, hPre⟩ := hv
  have hx := B.exec
  have hb := B.bytes
  have hr := B.returns
  have hts := atoms_spec (ws := wU yX4_goThroughDigits cX4_goThroughDigits 1 none) B.pre
  have hq : ∀ w ∈ gW, w.before args s = true := fun w hw => hts w (List.mem_cons_of_mem _ hw)
  have hcm : ∀ w ∈ gW, w ∈ wU yX4_goThroughDigits cX4_goThroughDigits 1 none := fun w hw => List.mem_cons_of_mem _ hw
  have hown : s.vm.findClass RX4 = some m.cls := findClass_of_methodNamed B.named
  have hlocks := B.notSynchronized
  have hF : CallFix p m c cX4_goThroughDigits 1 s args (wU yX4_goThroughDigits cX4_goThroughDigits 1 none) RX4 := ⟨hx, hb, hml, hown, hts⟩
  have hK := hPre.2.1
  have hZ := hPre.2.2.2
  have hw : Wd D cy shX ad nX (Aw ad nX) s.heap M s.heap [] := ⟨hPre.1, hPre.2.2.1, va_S.rf⟩
  have iw4 : ∀ w ∈ u_ws RX4 TX4 6, w ∈ wU yX4_goThroughDigits cX4_goThroughDigits 1 none := fun w hw => List.mem_cons_of_mem _ (iX4 w hw)
  rw [show entryFrame m args 1 = entryFrame m ([.ref (ad o0)] : List Value).toArray 1 from by rw [hargs]]
  have hl := lv_entry ([.ref (ad o0)]) (n := 1) (Nat.le_of_ble_eq_true rfl)
  rw [lg_entry_eq]
  generalize (lg_sl ([.ref (ad o0)]) ++ List.replicate (1 - (lg_sl ([.ref (ad o0)])).length) Slot.unset).toArray = ls at hl ⊢
  have hl : lv_has ls 1 [(0, .ref (ad o0))] := hl
  have hb0 : ∀ (nn : Nat), ∀ (M : Mm) (x0 : Nat), f_X4_goThroughDigits_b0 nn M x0 = some res → ∀ (H : Heap) (locs : List Loc) (ls : Array Slot), Wd D cy shX ad nX (Aw ad nX) s.heap M H locs → lv_has ls 1 [(0, .ref (ad x0))] → W p l e (headSpec (wU yX4_goThroughDigits cX4_goThroughDigits 1 none) rmX4_goThroughDigits).room s m args below meth c H locs 0 0 (QV D cy shX ad nX adK adV below args s res) (F0 m 0 ls []) := by
    intro nn
    induction nn with
    | zero => intro M x0 h; simp [f_X4_goThroughDigits_b0] at h
    | succ nn ih =>
      intro M x0 h H locs ls hw hl
      unfold f_X4_goThroughDigits_b0 at h
      refine lv_aload_n hx hb dX4_goThroughDigits_0 rfl (lv_at hl 0 rfl) ?_
      replace h := gd_some h
      obtain ⟨g1, h⟩ := h
      refine r_getI hx hb hts iw4 hown hK hw x0 4 g1 (by decide) rfl (by decide) rfl (hq _ qw301) (fun _ h9 => h9) dX4_goThroughDigits_1 ?_
      refine lv_aload_n hx hb dX4_goThroughDigits_4 rfl (lv_at hl 0 rfl) ?_
      refine r_getI hx hb hts iw4 hown hK hw x0 1 g1 (by decide) rfl (by decide) rfl (hq _ qw297) (fun _ h9 => h9) dX4_goThroughDigits_5 ?_
      refine lv_icmp_ge (tgt := 69) hx hb dX4_goThroughDigits_8 (by decide) (fun c2 => ?_) (fun c2 => ?_)
      · replace h := if_some_t c2 h
        exact r_vret hx hb hr hlocks hZ hK hw h dX4_goThroughDigits_69
      · replace h := if_some_f c2 h
        refine lv_aload_n hx hb dX4_goThroughDigits_11 rfl (lv_at hl 0 rfl) ?_
        replace h := bd_some h
        obtain ⟨q3, eq3, h⟩ := h
        refine r_getR hx hb hts iw4 hown hK hw x0 0 g1 (by decide) rfl (by decide) rfl (hq _ qw296) (fun _ h9 => h9) dX4_goThroughDigits_12 eq3 ?_
        refine lv_aload_n hx hb dX4_goThroughDigits_15 rfl (lv_at hl 0 rfl) ?_
        refine r_getI hx hb hts iw4 hown hK hw x0 4 g1 (by decide) rfl (by decide) rfl (hq _ qw301) (fun _ h9 => h9) dX4_goThroughDigits_16 ?_
        replace h := gd_some h
        obtain ⟨g4, h⟩ := h
        refine r_iald hx hb hK hw q3 g4 dX4_goThroughDigits_19 ?_
        replace h := bd_some h
        obtain ⟨r5, er5, h⟩ := h
        refine r_callSi (As := [.int (M.1 q3 (M.1 x0 4).toNatClampNeg)]) (rest := []) hF (c_X4_isDigit l D cy ad adK adV M (M.1 q3 (M.1 x0 4).toNatClampNeg) r5 er5) (gW_goodS hcm qw483 qw481 qw482 qw66) hdX4_isDigit ⟨Nat.le_of_ble_eq_true rfl, Nat.le_of_ble_eq_true rfl⟩ rfl rfl hZ hK hw rfl hl.1 rfl (Nat.le_of_ble_eq_true rfl) ⟨Nat.zero_le _, Nat.zero_le _⟩ dX4_goThroughDigits_20 (fun H locs hw => ?_)
        refine lv_if_eq (tgt := 69) hx hb dX4_goThroughDigits_23 (by decide) (fun c6 => ?_) (fun c6 => ?_)
        · replace h := if_some_t c6 h
          exact r_vret hx hb hr hlocks hZ hK hw h dX4_goThroughDigits_69
        · replace h := if_some_f c6 h
          refine lv_aload_n hx hb dX4_goThroughDigits_26 rfl (lv_at hl 0 rfl) ?_
          refine lv_aload_n hx hb dX4_goThroughDigits_27 rfl (lv_at hl 0 rfl) ?_
          refine r_getI hx hb hts iw4 hown hK hw x0 5 g1 (by decide) rfl (by decide) rfl (hq _ qw302) (fun _ h9 => h9) dX4_goThroughDigits_28 ?_
          refine lv_bipush (v := (10 : Int32)) hx hb dX4_goThroughDigits_31 (by decide) ?_
          refine lv_imul hx hb dX4_goThroughDigits_33 ?_
          refine lv_aload_n hx hb dX4_goThroughDigits_34 rfl (lv_at hl 0 rfl) ?_
          replace h := bd_some h
          obtain ⟨q7, eq7, h⟩ := h
          refine r_getR hx hb hts iw4 hown hK hw x0 0 g1 (by decide) rfl (by decide) rfl (hq _ qw296) (fun _ h9 => h9) dX4_goThroughDigits_35 eq7 ?_
          refine lv_aload_n hx hb dX4_goThroughDigits_38 rfl (lv_at hl 0 rfl) ?_
          refine r_getI hx hb hts iw4 hown hK hw x0 4 g1 (by decide) rfl (by decide) rfl (hq _ qw301) (fun _ h9 => h9) dX4_goThroughDigits_39 ?_
          replace h := gd_some h
          obtain ⟨g8, h⟩ := h
          refine r_iald hx hb hK hw q7 g8 dX4_goThroughDigits_42 ?_
          refine lv_iadd hx hb dX4_goThroughDigits_43 ?_
          refine lv_bipush (v := (48 : Int32)) hx hb dX4_goThroughDigits_44 (by decide) ?_
          refine lv_isub hx hb dX4_goThroughDigits_46 ?_
          refine lv_sipush (v := (1000 : Int32)) hx hb dX4_goThroughDigits_47 (by decide) ?_
          refine va_mmin hx hb (hml.trans hl.1.symm) hown (hq _ qw488) (hq _ qw489) (hq _ qw70) (hq _ qw490) (Nat.le_of_ble_eq_true rfl) (Nat.le_of_ble_eq_true rfl) (Nat.zero_le _) (Nat.zero_le _) dX4_goThroughDigits_50 ?_
          refine r_putI hx hb hts iw4 tyX4 tyX4_ok nmX4 hown hK hw x0 5 g1 (by decide) rfl (by decide) rfl (hq _ qw302) (fun _ h9 => h9) rfl rfl rfl dX4_goThroughDigits_53 (fun H locs hw => ?_)
          replace h := lt_some h
          obtain ⟨M9, eM9, h⟩ := h
          rw [← eM9] at hw
          refine lv_aload_n hx hb dX4_goThroughDigits_56 rfl (lv_at hl 0 rfl) ?_
          refine lv_dup hx hb dX4_goThroughDigits_57 rfl ?_
          refine r_getI hx hb hts iw4 hown hK hw x0 4 g1 (by decide) rfl (by decide) rfl (hq _ qw301) (fun _ h9 => h9) dX4_goThroughDigits_58 ?_
          refine lv_iconst (v := (1 : Int32)) hx hb dX4_goThroughDigits_61 (by decide) ?_
          refine lv_iadd hx hb dX4_goThroughDigits_62 ?_
          refine r_putI hx hb hts iw4 tyX4 tyX4_ok nmX4 hown hK hw x0 4 g1 (by decide) rfl (by decide) rfl (hq _ qw301) (fun _ h9 => h9) rfl rfl rfl dX4_goThroughDigits_63 (fun H locs hw => ?_)
          replace h := lt_some h
          obtain ⟨M10, eM10, h⟩ := h
          rw [← eM10] at hw
          refine lv_goto (tgt := 0) hx hb dX4_goThroughDigits_66 (by decide) ?_
          exact ih _ _ h _ _ _ hw (lv_sub hl [0] rfl)
  unfold f_X4_goThroughDigits at h
  exact hb0 1000 _ _ h _ _ _ hw (lv_sub hl [0] rfl)
theorem dX4_isLetter_0 : decode cX4_isLetter 0 = .ok (.iload_n 0, 1) := by decide +kernel
theorem dX4_isLetter_1 : decode cX4_isLetter 1 = .ok (.bipush 97, 2) := by decide +kernel
theorem dX4_isLetter_3 : decode cX4_isLetter 3 = .ok (.if_icmp .lt 13, 3) := by decide +kernel
theorem dX4_isLetter_6 : decode cX4_isLetter 6 = .ok (.iload_n 0, 1) := by decide +kernel
theorem dX4_isLetter_7 : decode cX4_isLetter 7 = .ok (.bipush 122, 2) := by decide +kernel
theorem dX4_isLetter_9 : decode cX4_isLetter 9 = .ok (.if_icmp .gt 7, 3) := by decide +kernel
theorem dX4_isLetter_12 : decode cX4_isLetter 12 = .ok (.iconst 1, 1) := by decide +kernel
theorem dX4_isLetter_13 : decode cX4_isLetter 13 = .ok (.goto 4, 3) := by decide +kernel
theorem dX4_isLetter_16 : decode cX4_isLetter 16 = .ok (.iconst 0, 1) := by decide +kernel
theorem dX4_isLetter_17 : decode cX4_isLetter 17 = .ok (.ireturn, 1) := by decide +kernel
set_option maxHeartbeats 4000000 in
set_option maxRecDepth 100000 in
theorem c_X4_isLetter (l : Launch) (D : va_G) (cy : Nat → ClassId) (ad adK adV : Nat → Nat) (M : Mm) (a0 : Int32) (res : Mm × Int32) (h : f_X4_isLetter M a0 = some res) : Met l yX4_isLetter (wU yX4_isLetter cX4_isLetter 1 (some .boolean)) rmX4_isLetter (va_Pc [.int a0] (Pre D cy shX ad nX adK adV M)) (va_Qi (fun r (M2 : Mm) => r = res.2 ∧ M2 = res.1) (Pre D cy shX ad nX adK adV) (Aw ad nX)) 0 0 (Aw ad nX) := by
  refine Met.ofW (cc := cX4_isLetter) (maxL := 1) (ret := (some .boolean)) (by decide) rfl ?_
  intro p e s m args below meth c s₁ B hml hv
  obtain ⟨hargs, hPre⟩ := hv
  have hx := B.exec
  have hb := B.bytes
  have hr := B.returns
  have hts := atoms_spec (ws := wU yX4_isLetter cX4_isLetter 1 (some .boolean)) B.pre
  have hq : ∀ w ∈ gW, w.before args s = true := fun w hw => hts w (List.mem_cons_of_mem _ hw)
  have hcm : ∀ w ∈ gW, w ∈ wU yX4_isLetter cX4_isLetter 1 (some .boolean) := fun w hw => List.mem_cons_of_mem _ hw
  have hown : s.vm.findClass RX4 = some m.cls := findClass_of_methodNamed B.named
  have hlocks := B.notSynchronized
  have hF : CallFix p m c cX4_isLetter 1 s args (wU yX4_isLetter cX4_isLetter 1 (some .boolean)) RX4 := ⟨hx, hb, hml, hown, hts⟩
  have hK := hPre.2.1
  have hZ := hPre.2.2.2
  have hw : Wd D cy shX ad nX (Aw ad nX) s.heap M s.heap [] := ⟨hPre.1, hPre.2.2.1, va_S.rf⟩
  rw [show entryFrame m args 1 = entryFrame m ([.int a0] : List Value).toArray 1 from by rw [hargs]]
  have hl := lv_entry ([.int a0]) (n := 1) (Nat.le_of_ble_eq_true rfl)
  rw [lg_entry_eq]
  generalize (lg_sl ([.int a0]) ++ List.replicate (1 - (lg_sl ([.int a0])).length) Slot.unset).toArray = ls at hl ⊢
  have hl : lv_has ls 1 [(0, .int a0)] := hl
  unfold f_X4_isLetter at h
  refine lv_iload_n hx hb dX4_isLetter_0 rfl (lv_at hl 0 rfl) ?_
  refine lv_bipush (v := (97 : Int32)) hx hb dX4_isLetter_1 (by decide) ?_
  refine lv_icmp_lt (tgt := 16) hx hb dX4_isLetter_3 (by decide) (fun c1 => ?_) (fun c1 => ?_)
  · replace h := if_some_t c1 h
    refine lv_iconst (v := (0 : Int32)) hx hb dX4_isLetter_16 (by decide) ?_
    exact r_iret hx hb hr rfl hlocks hZ hK hw h dX4_isLetter_17
  · replace h := if_some_f c1 h
    refine lv_iload_n hx hb dX4_isLetter_6 rfl (lv_at hl 0 rfl) ?_
    refine lv_bipush (v := (122 : Int32)) hx hb dX4_isLetter_7 (by decide) ?_
    refine lv_icmp_gt (tgt := 16) hx hb dX4_isLetter_9 (by decide) (fun c2 => ?_) (fun c2 => ?_)
    · replace h := if_some_t c2 h
      refine lv_iconst (v := (0 : Int32)) hx hb dX4_isLetter_16 (by decide) ?_
      exact r_iret hx hb hr rfl hlocks hZ hK hw h dX4_isLetter_17
    · replace h := if_some_f c2 h
      refine lv_iconst (v := (1 : Int32)) hx hb dX4_isLetter_12 (by decide) ?_
      refine lv_goto (tgt := 17) hx hb dX4_isLetter_13 (by decide) ?_
      exact r_iret hx hb hr rfl hlocks hZ hK hw h dX4_isLetter_17
theorem dX4_goOn_0 : decode cX4_goOn 0 = .ok (.aload_n 0, 1) := by decide +kernel
theorem dX4_goOn_1 : decode cX4_goOn 1 = .ok (.aload_n 0, 1) := by decide +kernel
theorem dX4_goOn_2 : decode cX4_goOn 2 = .ok (.getfield 25, 3) := by decide +kernel
theorem dX4_goOn_5 : decode cX4_goOn 5 = .ok (.putfield 22, 3) := by decide +kernel
theorem dX4_goOn_8 : decode cX4_goOn 8 = .ok (.aload_n 0, 1) := by decide +kernel
theorem dX4_goOn_9 : decode cX4_goOn 9 = .ok (.getfield 22, 3) := by decide +kernel
theorem dX4_goOn_12 : decode cX4_goOn 12 = .ok (.aload_n 0, 1) := by decide +kernel
theorem dX4_goOn_13 : decode cX4_goOn 13 = .ok (.getfield 15, 3) := by decide +kernel
theorem dX4_goOn_16 : decode cX4_goOn 16 = .ok (.if_icmp .ge 30, 3) := by decide +kernel
theorem dX4_goOn_19 : decode cX4_goOn 19 = .ok (.aload_n 0, 1) := by decide +kernel
theorem dX4_goOn_20 : decode cX4_goOn 20 = .ok (.getfield 9, 3) := by decide +kernel
theorem dX4_goOn_23 : decode cX4_goOn 23 = .ok (.aload_n 0, 1) := by decide +kernel
theorem dX4_goOn_24 : decode cX4_goOn 24 = .ok (.getfield 22, 3) := by decide +kernel
theorem dX4_goOn_27 : decode cX4_goOn 27 = .ok (.iaload, 1) := by decide +kernel
theorem dX4_goOn_28 : decode cX4_goOn 28 = .ok (.bipush 32, 2) := by decide +kernel
theorem dX4_goOn_30 : decode cX4_goOn 30 = .ok (.if_icmp .ne 16, 3) := by decide +kernel
theorem dX4_goOn_33 : decode cX4_goOn 33 = .ok (.aload_n 0, 1) := by decide +kernel
theorem dX4_goOn_34 : decode cX4_goOn 34 = .ok (.dup, 1) := by decide +kernel
theorem dX4_goOn_35 : decode cX4_goOn 35 = .ok (.getfield 22, 3) := by decide +kernel
theorem dX4_goOn_38 : decode cX4_goOn 38 = .ok (.iconst 1, 1) := by decide +kernel
theorem dX4_goOn_39 : decode cX4_goOn 39 = .ok (.iadd, 1) := by decide +kernel
theorem dX4_goOn_40 : decode cX4_goOn 40 = .ok (.putfield 22, 3) := by decide +kernel
theorem dX4_goOn_43 : decode cX4_goOn 43 = .ok (.goto (-35), 3) := by decide +kernel
theorem dX4_goOn_46 : decode cX4_goOn 46 = .ok (.aload_n 0, 1) := by decide +kernel
theorem dX4_goOn_47 : decode cX4_goOn 47 = .ok (.aload_n 0, 1) := by decide +kernel
theorem dX4_goOn_48 : decode cX4_goOn 48 = .ok (.getfield 22, 3) := by decide +kernel
theorem dX4_goOn_51 : decode cX4_goOn 51 = .ok (.putfield 25, 3) := by decide +kernel
theorem dX4_goOn_54 : decode cX4_goOn 54 = .ok (.aload_n 0, 1) := by decide +kernel
theorem dX4_goOn_55 : decode cX4_goOn 55 = .ok (.iconst 0, 1) := by decide +kernel
theorem dX4_goOn_56 : decode cX4_goOn 56 = .ok (.putfield 28, 3) := by decide +kernel
theorem dX4_goOn_59 : decode cX4_goOn 59 = .ok (.aload_n 0, 1) := by decide +kernel
theorem dX4_goOn_60 : decode cX4_goOn 60 = .ok (.getfield 22, 3) := by decide +kernel
theorem dX4_goOn_63 : decode cX4_goOn 63 = .ok (.aload_n 0, 1) := by decide +kernel
theorem dX4_goOn_64 : decode cX4_goOn 64 = .ok (.getfield 15, 3) := by decide +kernel
theorem dX4_goOn_67 : decode cX4_goOn 67 = .ok (.if_icmp .lt 11, 3) := by decide +kernel
theorem dX4_goOn_70 : decode cX4_goOn 70 = .ok (.aload_n 0, 1) := by decide +kernel
theorem dX4_goOn_71 : decode cX4_goOn 71 = .ok (.iconst 0, 1) := by decide +kernel
theorem dX4_goOn_72 : decode cX4_goOn 72 = .ok (.putfield 19, 3) := by decide +kernel
theorem dX4_goOn_75 : decode cX4_goOn 75 = .ok (.goto 122, 3) := by decide +kernel
theorem dX4_goOn_78 : decode cX4_goOn 78 = .ok (.aload_n 0, 1) := by decide +kernel
theorem dX4_goOn_79 : decode cX4_goOn 79 = .ok (.getfield 9, 3) := by decide +kernel
theorem dX4_goOn_82 : decode cX4_goOn 82 = .ok (.aload_n 0, 1) := by decide +kernel
theorem dX4_goOn_83 : decode cX4_goOn 83 = .ok (.getfield 22, 3) := by decide +kernel
theorem dX4_goOn_86 : decode cX4_goOn 86 = .ok (.iaload, 1) := by decide +kernel
theorem dX4_goOn_87 : decode cX4_goOn 87 = .ok (.invokestatic 111, 3) := by decide +kernel
theorem dX4_goOn_90 : decode cX4_goOn 90 = .ok (.ifCond .eq 47, 3) := by decide +kernel
theorem dX4_goOn_93 : decode cX4_goOn 93 = .ok (.aload_n 0, 1) := by decide +kernel
theorem dX4_goOn_94 : decode cX4_goOn 94 = .ok (.iconst 1, 1) := by decide +kernel
theorem dX4_goOn_95 : decode cX4_goOn 95 = .ok (.putfield 19, 3) := by decide +kernel
theorem dX4_goOn_98 : decode cX4_goOn 98 = .ok (.aload_n 0, 1) := by decide +kernel
theorem dX4_goOn_99 : decode cX4_goOn 99 = .ok (.getfield 25, 3) := by decide +kernel
theorem dX4_goOn_102 : decode cX4_goOn 102 = .ok (.aload_n 0, 1) := by decide +kernel
theorem dX4_goOn_103 : decode cX4_goOn 103 = .ok (.getfield 15, 3) := by decide +kernel
theorem dX4_goOn_106 : decode cX4_goOn 106 = .ok (.if_icmp .ge 91, 3) := by decide +kernel
theorem dX4_goOn_109 : decode cX4_goOn 109 = .ok (.aload_n 0, 1) := by decide +kernel
theorem dX4_goOn_110 : decode cX4_goOn 110 = .ok (.getfield 9, 3) := by decide +kernel
theorem dX4_goOn_113 : decode cX4_goOn 113 = .ok (.aload_n 0, 1) := by decide +kernel
theorem dX4_goOn_114 : decode cX4_goOn 114 = .ok (.getfield 25, 3) := by decide +kernel
theorem dX4_goOn_117 : decode cX4_goOn 117 = .ok (.iaload, 1) := by decide +kernel
theorem dX4_goOn_118 : decode cX4_goOn 118 = .ok (.invokestatic 111, 3) := by decide +kernel
theorem dX4_goOn_121 : decode cX4_goOn 121 = .ok (.ifCond .eq 76, 3) := by decide +kernel
theorem dX4_goOn_124 : decode cX4_goOn 124 = .ok (.aload_n 0, 1) := by decide +kernel
theorem dX4_goOn_125 : decode cX4_goOn 125 = .ok (.dup, 1) := by decide +kernel
theorem dX4_goOn_126 : decode cX4_goOn 126 = .ok (.getfield 25, 3) := by decide +kernel
theorem dX4_goOn_129 : decode cX4_goOn 129 = .ok (.iconst 1, 1) := by decide +kernel
theorem dX4_goOn_130 : decode cX4_goOn 130 = .ok (.iadd, 1) := by decide +kernel
theorem dX4_goOn_131 : decode cX4_goOn 131 = .ok (.putfield 25, 3) := by decide +kernel
theorem dX4_goOn_134 : decode cX4_goOn 134 = .ok (.goto (-36), 3) := by decide +kernel
theorem dX4_goOn_137 : decode cX4_goOn 137 = .ok (.aload_n 0, 1) := by decide +kernel
theorem dX4_goOn_138 : decode cX4_goOn 138 = .ok (.getfield 9, 3) := by decide +kernel
theorem dX4_goOn_141 : decode cX4_goOn 141 = .ok (.aload_n 0, 1) := by decide +kernel
theorem dX4_goOn_142 : decode cX4_goOn 142 = .ok (.getfield 22, 3) := by decide +kernel
theorem dX4_goOn_145 : decode cX4_goOn 145 = .ok (.iaload, 1) := by decide +kernel
theorem dX4_goOn_146 : decode cX4_goOn 146 = .ok (.invokestatic 115, 3) := by decide +kernel
theorem dX4_goOn_149 : decode cX4_goOn 149 = .ok (.ifCond .eq 15, 3) := by decide +kernel
theorem dX4_goOn_152 : decode cX4_goOn 152 = .ok (.aload_n 0, 1) := by decide +kernel
theorem dX4_goOn_153 : decode cX4_goOn 153 = .ok (.iconst 2, 1) := by decide +kernel
theorem dX4_goOn_154 : decode cX4_goOn 154 = .ok (.putfield 19, 3) := by decide +kernel
theorem dX4_goOn_157 : decode cX4_goOn 157 = .ok (.aload_n 0, 1) := by decide +kernel
theorem dX4_goOn_158 : decode cX4_goOn 158 = .ok (.invokevirtual 118, 3) := by decide +kernel
theorem dX4_goOn_161 : decode cX4_goOn 161 = .ok (.goto 36, 3) := by decide +kernel
theorem dX4_goOn_164 : decode cX4_goOn 164 = .ok (.aload_n 0, 1) := by decide +kernel
theorem dX4_goOn_165 : decode cX4_goOn 165 = .ok (.aload_n 0, 1) := by decide +kernel
theorem dX4_goOn_166 : decode cX4_goOn 166 = .ok (.getfield 9, 3) := by decide +kernel
theorem dX4_goOn_169 : decode cX4_goOn 169 = .ok (.aload_n 0, 1) := by decide +kernel
theorem dX4_goOn_170 : decode cX4_goOn 170 = .ok (.getfield 22, 3) := by decide +kernel
theorem dX4_goOn_173 : decode cX4_goOn 173 = .ok (.iaload, 1) := by decide +kernel
theorem dX4_goOn_174 : decode cX4_goOn 174 = .ok (.bipush 59, 2) := by decide +kernel
theorem dX4_goOn_176 : decode cX4_goOn 176 = .ok (.if_icmp .ne 7, 3) := by decide +kernel
theorem dX4_goOn_179 : decode cX4_goOn 179 = .ok (.iconst 3, 1) := by decide +kernel
theorem dX4_goOn_180 : decode cX4_goOn 180 = .ok (.goto 4, 3) := by decide +kernel
theorem dX4_goOn_183 : decode cX4_goOn 183 = .ok (.iconst 4, 1) := by decide +kernel
theorem dX4_goOn_184 : decode cX4_goOn 184 = .ok (.putfield 19, 3) := by decide +kernel
theorem dX4_goOn_187 : decode cX4_goOn 187 = .ok (.aload_n 0, 1) := by decide +kernel
theorem dX4_goOn_188 : decode cX4_goOn 188 = .ok (.dup, 1) := by decide +kernel
theorem dX4_goOn_189 : decode cX4_goOn 189 = .ok (.getfield 25, 3) := by decide +kernel
theorem dX4_goOn_192 : decode cX4_goOn 192 = .ok (.iconst 1, 1) := by decide +kernel
theorem dX4_goOn_193 : decode cX4_goOn 193 = .ok (.iadd, 1) := by decide +kernel
theorem dX4_goOn_194 : decode cX4_goOn 194 = .ok (.putfield 25, 3) := by decide +kernel
theorem dX4_goOn_197 : decode cX4_goOn 197 = .ok (.return_, 1) := by decide +kernel
set_option maxHeartbeats 4000000 in
set_option maxRecDepth 100000 in
theorem c_X4_goOn (l : Launch) (D : va_G) (cy : Nat → ClassId) (ad adK adV : Nat → Nat) (M : Mm) (o0 : Nat) (res : Mm × Unit) (h : f_X4_goOn M o0 = some res) : Met l yX4_goOn (wU yX4_goOn cX4_goOn 1 none) rmX4_goOn (va_Pc [.ref (ad o0)] (Pre D cy shX ad nX adK adV M)) (va_Qv (fun (M2 : Mm) => M2 = res.1) (Pre D cy shX ad nX adK adV) (Aw ad nX)) 0 0 (Aw ad nX) := by
  refine Met.ofW (cc := cX4_goOn) (maxL := 1) (ret := none) (by decide) rfl ?_
  intro p e s m args below meth c s₁ B hml hv
  obtain ⟨hargs, hPre⟩ := hv
  have hx := B.exec
  have hb := B.bytes
  have hr := B.returns
  have hts := atoms_spec (ws := wU yX4_goOn cX4_goOn 1 none) B.pre
  have hq : ∀ w ∈ gW, w.before args s = true := fun w hw => hts w (List.mem_cons_of_mem _ hw)
  have hcm : ∀ w ∈ gW, w ∈ wU yX4_goOn cX4_goOn 1 none := fun w hw => List.mem_cons_of_mem _ hw
  have hown : s.vm.findClass RX4 = some m.cls := findClass_of_methodNamed B.named
  have hlocks := B.notSynchronized
  have hF : CallFix p m c cX4_goOn 1 s args (wU yX4_goOn cX4_goOn 1 none) RX4 := ⟨hx, hb, hml, hown, hts⟩
  have hK := hPre.2.1
  have hZ := hPre.2.2.2
  have hw : Wd D cy shX ad nX (Aw ad nX) s.heap M s.heap [] := ⟨hPre.1, hPre.2.2.1, va_S.rf⟩
  have iw4 : ∀ w ∈ u_ws RX4 TX4 6, w ∈ wU yX4_goOn cX4_goOn 1 none := fun w hw => List.mem_cons_of_mem _ (iX4 w hw)
  rw [show entryFrame m args 1 = entryFrame m ([.ref (ad o0)] : List Value).toArray 1 from by rw [hargs]]
  have hl := lv_entry ([.ref (ad o0)]) (n := 1) (Nat.le_of_ble_eq_true rfl)
  rw [lg_entry_eq]
  generalize (lg_sl ([.ref (ad o0)]) ++ List.replicate (1 - (lg_sl ([.ref (ad o0)])).length) Slot.unset).toArray = ls at hl ⊢
  have hl : lv_has ls 1 [(0, .ref (ad o0))] := hl
  have hb184 : ∀ (M : Mm) (x0 : Nat) (t0 : Nat) (t1 : Int32), f_X4_goOn_b184 M x0 t0 t1 = some res → ∀ (H : Heap) (locs : List Loc) (ls : Array Slot), Wd D cy shX ad nX (Aw ad nX) s.heap M H locs → lv_has ls 1 [(0, .ref (ad x0))] → W p l e (headSpec (wU yX4_goOn cX4_goOn 1 none) rmX4_goOn).room s m args below meth c H locs 0 0 (QV D cy shX ad nX adK adV below args s res) (F0 m 184 ls [.int t1, .ref (ad t0)]) := by
    intro M x0 t0 t1 h H locs ls hw hl
    unfold f_X4_goOn_b184 at h
    replace h := gd_some h
    obtain ⟨g1, h⟩ := h
    refine r_putI hx hb hts iw4 tyX4 tyX4_ok nmX4 hown hK hw t0 2 g1 (by decide) rfl (by decide) rfl (hq _ qw299) (fun _ h9 => h9) rfl rfl rfl dX4_goOn_184 (fun H locs hw => ?_)
    replace h := lt_some h
    obtain ⟨M2, eM2, h⟩ := h
    rw [← eM2] at hw
    refine lv_aload_n hx hb dX4_goOn_187 rfl (lv_at hl 0 rfl) ?_
    refine lv_dup hx hb dX4_goOn_188 rfl ?_
    replace h := gd_some h
    obtain ⟨g3, h⟩ := h
    refine r_getI hx hb hts iw4 hown hK hw x0 4 g3 (by decide) rfl (by decide) rfl (hq _ qw301) (fun _ h9 => h9) dX4_goOn_189 ?_
    refine lv_iconst (v := (1 : Int32)) hx hb dX4_goOn_192 (by decide) ?_
    refine lv_iadd hx hb dX4_goOn_193 ?_
    refine r_putI hx hb hts iw4 tyX4 tyX4_ok nmX4 hown hK hw x0 4 g3 (by decide) rfl (by decide) rfl (hq _ qw301) (fun _ h9 => h9) rfl rfl rfl dX4_goOn_194 (fun H locs hw => ?_)
    replace h := lt_some h
    obtain ⟨M4, eM4, h⟩ := h
    rw [← eM4] at hw
    exact r_vret hx hb hr hlocks hZ hK hw h dX4_goOn_197
  have hb98 : ∀ (nn : Nat), ∀ (M : Mm) (x0 : Nat), f_X4_goOn_b98 nn M x0 = some res → ∀ (H : Heap) (locs : List Loc) (ls : Array Slot), Wd D cy shX ad nX (Aw ad nX) s.heap M H locs → lv_has ls 1 [(0, .ref (ad x0))] → W p l e (headSpec (wU yX4_goOn cX4_goOn 1 none) rmX4_goOn).room s m args below meth c H locs 0 0 (QV D cy shX ad nX adK adV below args s res) (F0 m 98 ls []) := by
    intro nn
    induction nn with
    | zero => intro M x0 h; simp [f_X4_goOn_b98] at h
    | succ nn ih =>
      intro M x0 h H locs ls hw hl
      unfold f_X4_goOn_b98 at h
      refine lv_aload_n hx hb dX4_goOn_98 rfl (lv_at hl 0 rfl) ?_
      replace h := gd_some h
      obtain ⟨g5, h⟩ := h
      refine r_getI hx hb hts iw4 hown hK hw x0 4 g5 (by decide) rfl (by decide) rfl (hq _ qw301) (fun _ h9 => h9) dX4_goOn_99 ?_
      refine lv_aload_n hx hb dX4_goOn_102 rfl (lv_at hl 0 rfl) ?_
      refine r_getI hx hb hts iw4 hown hK hw x0 1 g5 (by decide) rfl (by decide) rfl (hq _ qw297) (fun _ h9 => h9) dX4_goOn_103 ?_
      refine lv_icmp_ge (tgt := 197) hx hb dX4_goOn_106 (by decide) (fun c6 => ?_) (fun c6 => ?_)
      · replace h := if_some_t c6 h
        exact r_vret hx hb hr hlocks hZ hK hw h dX4_goOn_197
      · replace h := if_some_f c6 h
        refine lv_aload_n hx hb dX4_goOn_109 rfl (lv_at hl 0 rfl) ?_
        replace h := bd_some h
        obtain ⟨q7, eq7, h⟩ := h
        refine r_getR hx hb hts iw4 hown hK hw x0 0 g5 (by decide) rfl (by decide) rfl (hq _ qw296) (fun _ h9 => h9) dX4_goOn_110 eq7 ?_
        refine lv_aload_n hx hb dX4_goOn_113 rfl (lv_at hl 0 rfl) ?_
        refine r_getI hx hb hts iw4 hown hK hw x0 4 g5 (by decide) rfl (by decide) rfl (hq _ qw301) (fun _ h9 => h9) dX4_goOn_114 ?_
        replace h := gd_some h
        obtain ⟨g8, h⟩ := h
        refine r_iald hx hb hK hw q7 g8 dX4_goOn_117 ?_
        replace h := bd_some h
        obtain ⟨r9, er9, h⟩ := h
        refine r_callSi (As := [.int (M.1 q7 (M.1 x0 4).toNatClampNeg)]) (rest := []) hF (c_X4_isLetter l D cy ad adK adV M (M.1 q7 (M.1 x0 4).toNatClampNeg) r9 er9) (gW_goodS hcm qw480 qw478 qw479 qw66) hdX4_isLetter ⟨Nat.le_of_ble_eq_true rfl, Nat.le_of_ble_eq_true rfl⟩ rfl rfl hZ hK hw rfl hl.1 rfl (Nat.le_of_ble_eq_true rfl) ⟨Nat.zero_le _, Nat.zero_le _⟩ dX4_goOn_118 (fun H locs hw => ?_)
        refine lv_if_eq (tgt := 197) hx hb dX4_goOn_121 (by decide) (fun c10 => ?_) (fun c10 => ?_)
        · replace h := if_some_t c10 h
          exact r_vret hx hb hr hlocks hZ hK hw h dX4_goOn_197
        · replace h := if_some_f c10 h
          refine lv_aload_n hx hb dX4_goOn_124 rfl (lv_at hl 0 rfl) ?_
          refine lv_dup hx hb dX4_goOn_125 rfl ?_
          refine r_getI hx hb hts iw4 hown hK hw x0 4 g5 (by decide) rfl (by decide) rfl (hq _ qw301) (fun _ h9 => h9) dX4_goOn_126 ?_
          refine lv_iconst (v := (1 : Int32)) hx hb dX4_goOn_129 (by decide) ?_
          refine lv_iadd hx hb dX4_goOn_130 ?_
          refine r_putI hx hb hts iw4 tyX4 tyX4_ok nmX4 hown hK hw x0 4 g5 (by decide) rfl (by decide) rfl (hq _ qw301) (fun _ h9 => h9) rfl rfl rfl dX4_goOn_131 (fun H locs hw => ?_)
          replace h := lt_some h
          obtain ⟨M11, eM11, h⟩ := h
          rw [← eM11] at hw
          refine lv_goto (tgt := 98) hx hb dX4_goOn_134 (by decide) ?_
          exact ih _ _ h _ _ _ hw (lv_sub hl [0] rfl)
  have hb46 : ∀ (M : Mm) (x0 : Nat), f_X4_goOn_b46 M x0 = some res → ∀ (H : Heap) (locs : List Loc) (ls : Array Slot), Wd D cy shX ad nX (Aw ad nX) s.heap M H locs → lv_has ls 1 [(0, .ref (ad x0))] → W p l e (headSpec (wU yX4_goOn cX4_goOn 1 none) rmX4_goOn).room s m args below meth c H locs 0 0 (QV D cy shX ad nX adK adV below args s res) (F0 m 46 ls []) := by
    intro M x0 h H locs ls hw hl
    unfold f_X4_goOn_b46 at h
    refine lv_aload_n hx hb dX4_goOn_46 rfl (lv_at hl 0 rfl) ?_
    refine lv_aload_n hx hb dX4_goOn_47 rfl (lv_at hl 0 rfl) ?_
    replace h := gd_some h
    obtain ⟨g12, h⟩ := h
    refine r_getI hx hb hts iw4 hown hK hw x0 3 g12 (by decide) rfl (by decide) rfl (hq _ qw300) (fun _ h9 => h9) dX4_goOn_48 ?_
    refine r_putI hx hb hts iw4 tyX4 tyX4_ok nmX4 hown hK hw x0 4 g12 (by decide) rfl (by decide) rfl (hq _ qw301) (fun _ h9 => h9) rfl rfl rfl dX4_goOn_51 (fun H locs hw => ?_)
    replace h := lt_some h
    obtain ⟨M13, eM13, h⟩ := h
    rw [← eM13] at hw
    refine lv_aload_n hx hb dX4_goOn_54 rfl (lv_at hl 0 rfl) ?_
    refine lv_iconst (v := (0 : Int32)) hx hb dX4_goOn_55 (by decide) ?_
    refine r_putI hx hb hts iw4 tyX4 tyX4_ok nmX4 hown hK hw x0 5 g12 (by decide) rfl (by decide) rfl (hq _ qw302) (fun _ h9 => h9) rfl rfl rfl dX4_goOn_56 (fun H locs hw => ?_)
    replace h := lt_some h
    obtain ⟨M14, eM14, h⟩ := h
    rw [← eM14] at hw
    refine lv_aload_n hx hb dX4_goOn_59 rfl (lv_at hl 0 rfl) ?_
    refine r_getI hx hb hts iw4 hown hK hw x0 3 g12 (by decide) rfl (by decide) rfl (hq _ qw300) (fun _ h9 => h9) dX4_goOn_60 ?_
    refine lv_aload_n hx hb dX4_goOn_63 rfl (lv_at hl 0 rfl) ?_
    refine r_getI hx hb hts iw4 hown hK hw x0 1 g12 (by decide) rfl (by decide) rfl (hq _ qw297) (fun _ h9 => h9) dX4_goOn_64 ?_
    refine lv_icmp_lt (tgt := 78) hx hb dX4_goOn_67 (by decide) (fun c15 => ?_) (fun c15 => ?_)
    · replace h := if_some_t c15 h
      refine lv_aload_n hx hb dX4_goOn_78 rfl (lv_at hl 0 rfl) ?_
      replace h := bd_some h
      obtain ⟨q16, eq16, h⟩ := h
      refine r_getR hx hb hts iw4 hown hK hw x0 0 g12 (by decide) rfl (by decide) rfl (hq _ qw296) (fun _ h9 => h9) dX4_goOn_79 eq16 ?_
      refine lv_aload_n hx hb dX4_goOn_82 rfl (lv_at hl 0 rfl) ?_
      refine r_getI hx hb hts iw4 hown hK hw x0 3 g12 (by decide) rfl (by decide) rfl (hq _ qw300) (fun _ h9 => h9) dX4_goOn_83 ?_
      replace h := gd_some h
      obtain ⟨g17, h⟩ := h
      refine r_iald hx hb hK hw q16 g17 dX4_goOn_86 ?_
      replace h := bd_some h
      obtain ⟨r18, er18, h⟩ := h
      refine r_callSi (As := [.int (M14.1 q16 (M14.1 x0 3).toNatClampNeg)]) (rest := []) hF (c_X4_isLetter l D cy ad adK adV M14 (M14.1 q16 (M14.1 x0 3).toNatClampNeg) r18 er18) (gW_goodS hcm qw480 qw478 qw479 qw66) hdX4_isLetter ⟨Nat.le_of_ble_eq_true rfl, Nat.le_of_ble_eq_true rfl⟩ rfl rfl hZ hK hw rfl hl.1 rfl (Nat.le_of_ble_eq_true rfl) ⟨Nat.zero_le _, Nat.zero_le _⟩ dX4_goOn_87 (fun H locs hw => ?_)
      refine lv_if_eq (tgt := 137) hx hb dX4_goOn_90 (by decide) (fun c19 => ?_) (fun c19 => ?_)
      · replace h := if_some_t c19 h
        refine lv_aload_n hx hb dX4_goOn_137 rfl (lv_at hl 0 rfl) ?_
        replace h := bd_some h
        obtain ⟨q20, eq20, h⟩ := h
        refine r_getR hx hb hts iw4 hown hK hw x0 0 g12 (by decide) rfl (by decide) rfl (hq _ qw296) (fun _ h9 => h9) dX4_goOn_138 eq20 ?_
        refine lv_aload_n hx hb dX4_goOn_141 rfl (lv_at hl 0 rfl) ?_
        refine r_getI hx hb hts iw4 hown hK hw x0 3 g12 (by decide) rfl (by decide) rfl (hq _ qw300) (fun _ h9 => h9) dX4_goOn_142 ?_
        replace h := gd_some h
        obtain ⟨g21, h⟩ := h
        refine r_iald hx hb hK hw q20 g21 dX4_goOn_145 ?_
        replace h := bd_some h
        obtain ⟨r22, er22, h⟩ := h
        refine r_callSi (As := [.int (r18.1.1 q20 (r18.1.1 x0 3).toNatClampNeg)]) (rest := []) hF (c_X4_isDigit l D cy ad adK adV r18.1 (r18.1.1 q20 (r18.1.1 x0 3).toNatClampNeg) r22 er22) (gW_goodS hcm qw483 qw481 qw482 qw66) hdX4_isDigit ⟨Nat.le_of_ble_eq_true rfl, Nat.le_of_ble_eq_true rfl⟩ rfl rfl hZ hK hw rfl hl.1 rfl (Nat.le_of_ble_eq_true rfl) ⟨Nat.zero_le _, Nat.zero_le _⟩ dX4_goOn_146 (fun H locs hw => ?_)
        refine lv_if_eq (tgt := 164) hx hb dX4_goOn_149 (by decide) (fun c23 => ?_) (fun c23 => ?_)
        · replace h := if_some_t c23 h
          refine lv_aload_n hx hb dX4_goOn_164 rfl (lv_at hl 0 rfl) ?_
          refine lv_aload_n hx hb dX4_goOn_165 rfl (lv_at hl 0 rfl) ?_
          replace h := bd_some h
          obtain ⟨q24, eq24, h⟩ := h
          refine r_getR hx hb hts iw4 hown hK hw x0 0 g12 (by decide) rfl (by decide) rfl (hq _ qw296) (fun _ h9 => h9) dX4_goOn_166 eq24 ?_
          refine lv_aload_n hx hb dX4_goOn_169 rfl (lv_at hl 0 rfl) ?_
          refine r_getI hx hb hts iw4 hown hK hw x0 3 g12 (by decide) rfl (by decide) rfl (hq _ qw300) (fun _ h9 => h9) dX4_goOn_170 ?_
          replace h := gd_some h
          obtain ⟨g25, h⟩ := h
          refine r_iald hx hb hK hw q24 g25 dX4_goOn_173 ?_
          refine lv_bipush (v := (59 : Int32)) hx hb dX4_goOn_174 (by decide) ?_
          refine lv_icmp_ne (tgt := 183) hx hb dX4_goOn_176 (by decide) (fun c26 => ?_) (fun c26 => ?_)
          · replace h := if_some_f c26 h
            refine lv_iconst (v := (4 : Int32)) hx hb dX4_goOn_183 (by decide) ?_
            exact hb184 _ _ _ _ h _ _ _ hw (lv_sub hl [0] rfl)
          · replace h := if_some_t c26 h
            refine lv_iconst (v := (3 : Int32)) hx hb dX4_goOn_179 (by decide) ?_
            refine lv_goto (tgt := 184) hx hb dX4_goOn_180 (by decide) ?_
            exact hb184 _ _ _ _ h _ _ _ hw (lv_sub hl [0] rfl)
        · replace h := if_some_f c23 h
          refine lv_aload_n hx hb dX4_goOn_152 rfl (lv_at hl 0 rfl) ?_
          refine lv_iconst (v := (2 : Int32)) hx hb dX4_goOn_153 (by decide) ?_
          refine r_putI hx hb hts iw4 tyX4 tyX4_ok nmX4 hown hK hw x0 2 g12 (by decide) rfl (by decide) rfl (hq _ qw299) (fun _ h9 => h9) rfl rfl rfl dX4_goOn_154 (fun H locs hw => ?_)
          replace h := lt_some h
          obtain ⟨M27, eM27, h⟩ := h
          rw [← eM27] at hw
          refine lv_aload_n hx hb dX4_goOn_157 rfl (lv_at hl 0 rfl) ?_
          replace h := bd_some h
          obtain ⟨r28, er28, h⟩ := h
          refine r_callVv (As := []) (rest := []) hF (c_X4_goThroughDigits l D cy ad adK adV M27 x0 r28 er28) (gW_goodV hcm qw487 qw484 qw486 qw2 qw66) hdX4_goThroughDigits rfl ⟨Nat.le_of_ble_eq_true rfl, Nat.le_of_ble_eq_true rfl⟩ rfl rfl hZ hK hw g12 (by decide) rfl rfl hl.1 rfl (Nat.le_of_ble_eq_true rfl) ⟨Nat.zero_le _, Nat.zero_le _⟩ dX4_goOn_158 (fun H locs hw => ?_)
          refine lv_goto (tgt := 197) hx hb dX4_goOn_161 (by decide) ?_
          exact r_vret hx hb hr hlocks hZ hK hw h dX4_goOn_197
      · replace h := if_some_f c19 h
        refine lv_aload_n hx hb dX4_goOn_93 rfl (lv_at hl 0 rfl) ?_
        refine lv_iconst (v := (1 : Int32)) hx hb dX4_goOn_94 (by decide) ?_
        refine r_putI hx hb hts iw4 tyX4 tyX4_ok nmX4 hown hK hw x0 2 g12 (by decide) rfl (by decide) rfl (hq _ qw299) (fun _ h9 => h9) rfl rfl rfl dX4_goOn_95 (fun H locs hw => ?_)
        replace h := lt_some h
        obtain ⟨M29, eM29, h⟩ := h
        rw [← eM29] at hw
        exact hb98 1000 _ _ h _ _ _ hw (lv_sub hl [0] rfl)
    · replace h := if_some_f c15 h
      refine lv_aload_n hx hb dX4_goOn_70 rfl (lv_at hl 0 rfl) ?_
      refine lv_iconst (v := (0 : Int32)) hx hb dX4_goOn_71 (by decide) ?_
      refine r_putI hx hb hts iw4 tyX4 tyX4_ok nmX4 hown hK hw x0 2 g12 (by decide) rfl (by decide) rfl (hq _ qw299) (fun _ h9 => h9) rfl rfl rfl dX4_goOn_72 (fun H locs hw => ?_)
      replace h := lt_some h
      obtain ⟨M30, eM30, h⟩ := h
      rw [← eM30] at hw
      refine lv_goto (tgt := 197) hx hb dX4_goOn_75 (by decide) ?_
      exact r_vret hx hb hr hlocks hZ hK hw h dX4_goOn_197
  have hb8 : ∀ (nn : Nat), ∀ (M : Mm) (x0 : Nat), f_X4_goOn_b8 nn M x0 = some res → ∀ (H : Heap) (locs : List Loc) (ls : Array Slot), Wd D cy shX ad nX (Aw ad nX) s.heap M H locs → lv_has ls 1 [(0, .ref (ad x0))] → W p l e (headSpec (wU yX4_goOn cX4_goOn 1 none) rmX4_goOn).room s m args below meth c H locs 0 0 (QV D cy shX ad nX adK adV below args s res) (F0 m 8 ls []) := by
    intro nn
    induction nn with
    | zero => intro M x0 h; simp [f_X4_goOn_b8] at h
    | succ nn ih =>
      intro M x0 h H locs ls hw hl
      unfold f_X4_goOn_b8 at h
      refine lv_aload_n hx hb dX4_goOn_8 rfl (lv_at hl 0 rfl) ?_
      replace h := gd_some h
      obtain ⟨g31, h⟩ := h
      refine r_getI hx hb hts iw4 hown hK hw x0 3 g31 (by decide) rfl (by decide) rfl (hq _ qw300) (fun _ h9 => h9) dX4_goOn_9 ?_
      refine lv_aload_n hx hb dX4_goOn_12 rfl (lv_at hl 0 rfl) ?_
      refine r_getI hx hb hts iw4 hown hK hw x0 1 g31 (by decide) rfl (by decide) rfl (hq _ qw297) (fun _ h9 => h9) dX4_goOn_13 ?_
      refine lv_icmp_ge (tgt := 46) hx hb dX4_goOn_16 (by decide) (fun c32 => ?_) (fun c32 => ?_)
      · replace h := if_some_t c32 h
        exact hb46 _ _ h _ _ _ hw (lv_sub hl [0] rfl)
      · replace h := if_some_f c32 h
        refine lv_aload_n hx hb dX4_goOn_19 rfl (lv_at hl 0 rfl) ?_
        replace h := bd_some h
        obtain ⟨q33, eq33, h⟩ := h
        refine r_getR hx hb hts iw4 hown hK hw x0 0 g31 (by decide) rfl (by decide) rfl (hq _ qw296) (fun _ h9 => h9) dX4_goOn_20 eq33 ?_
        refine lv_aload_n hx hb dX4_goOn_23 rfl (lv_at hl 0 rfl) ?_
        refine r_getI hx hb hts iw4 hown hK hw x0 3 g31 (by decide) rfl (by decide) rfl (hq _ qw300) (fun _ h9 => h9) dX4_goOn_24 ?_
        replace h := gd_some h
        obtain ⟨g34, h⟩ := h
        refine r_iald hx hb hK hw q33 g34 dX4_goOn_27 ?_
        refine lv_bipush (v := (32 : Int32)) hx hb dX4_goOn_28 (by decide) ?_
        refine lv_icmp_ne (tgt := 46) hx hb dX4_goOn_30 (by decide) (fun c35 => ?_) (fun c35 => ?_)
        · replace h := if_some_f c35 h
          exact hb46 _ _ h _ _ _ hw (lv_sub hl [0] rfl)
        · replace h := if_some_t c35 h
          refine lv_aload_n hx hb dX4_goOn_33 rfl (lv_at hl 0 rfl) ?_
          refine lv_dup hx hb dX4_goOn_34 rfl ?_
          refine r_getI hx hb hts iw4 hown hK hw x0 3 g31 (by decide) rfl (by decide) rfl (hq _ qw300) (fun _ h9 => h9) dX4_goOn_35 ?_
          refine lv_iconst (v := (1 : Int32)) hx hb dX4_goOn_38 (by decide) ?_
          refine lv_iadd hx hb dX4_goOn_39 ?_
          refine r_putI hx hb hts iw4 tyX4 tyX4_ok nmX4 hown hK hw x0 3 g31 (by decide) rfl (by decide) rfl (hq _ qw300) (fun _ h9 => h9) rfl rfl rfl dX4_goOn_40 (fun H locs hw => ?_)
          replace h := lt_some h
          obtain ⟨M36, eM36, h⟩ := h
          rw [← eM36] at hw
          refine lv_goto (tgt := 8) hx hb dX4_goOn_43 (by decide) ?_
          exact ih _ _ h _ _ _ hw (lv_sub hl [0] rfl)
  unfold f_X4_goOn at h
  refine lv_aload_n hx hb dX4_goOn_0 rfl (lv_at hl 0 rfl) ?_
  refine lv_aload_n hx hb dX4_goOn_1 rfl (lv_at hl 0 rfl) ?_
  replace h := gd_some h
  obtain ⟨g37, h⟩ := h
  refine r_getI hx hb hts iw4 hown hK hw o0 4 g37 (by decide) rfl (by decide) rfl (hq _ qw301) (fun _ h9 => h9) dX4_goOn_2 ?_
  refine r_putI hx hb hts iw4 tyX4 tyX4_ok nmX4 hown hK hw o0 3 g37 (by decide) rfl (by decide) rfl (hq _ qw300) (fun _ h9 => h9) rfl rfl rfl dX4_goOn_5 (fun H locs hw => ?_)
  replace h := lt_some h
  obtain ⟨M38, eM38, h⟩ := h
  rw [← eM38] at hw
  exact hb8 1000 _ _ h _ _ _ hw (lv_sub hl [0] rfl)
theorem dX4_isWord_0 : decode cX4_isWord 0 = .ok (.aload_n 0, 1) := by decide +kernel
theorem dX4_isWord_1 : decode cX4_isWord 1 = .ok (.getfield 19, 3) := by decide +kernel
theorem dX4_isWord_4 : decode cX4_isWord 4 = .ok (.iconst 1, 1) := by decide +kernel
theorem dX4_isWord_5 : decode cX4_isWord 5 = .ok (.if_icmp .ne 19, 3) := by decide +kernel
theorem dX4_isWord_8 : decode cX4_isWord 8 = .ok (.aload_n 0, 1) := by decide +kernel
theorem dX4_isWord_9 : decode cX4_isWord 9 = .ok (.getfield 25, 3) := by decide +kernel
theorem dX4_isWord_12 : decode cX4_isWord 12 = .ok (.aload_n 0, 1) := by decide +kernel
theorem dX4_isWord_13 : decode cX4_isWord 13 = .ok (.getfield 22, 3) := by decide +kernel
theorem dX4_isWord_16 : decode cX4_isWord 16 = .ok (.isub, 1) := by decide +kernel
theorem dX4_isWord_17 : decode cX4_isWord 17 = .ok (.aload_n 1, 1) := by decide +kernel
theorem dX4_isWord_18 : decode cX4_isWord 18 = .ok (.invokevirtual 89, 3) := by decide +kernel
theorem dX4_isWord_21 : decode cX4_isWord 21 = .ok (.if_icmp .eq 5, 3) := by decide +kernel
theorem dX4_isWord_24 : decode cX4_isWord 24 = .ok (.iconst 0, 1) := by decide +kernel
theorem dX4_isWord_25 : decode cX4_isWord 25 = .ok (.ireturn, 1) := by decide +kernel
theorem dX4_isWord_26 : decode cX4_isWord 26 = .ok (.iconst 0, 1) := by decide +kernel
theorem dX4_isWord_27 : decode cX4_isWord 27 = .ok (.istore_n 2, 1) := by decide +kernel
theorem dX4_isWord_28 : decode cX4_isWord 28 = .ok (.iload_n 2, 1) := by decide +kernel
theorem dX4_isWord_29 : decode cX4_isWord 29 = .ok (.aload_n 1, 1) := by decide +kernel
theorem dX4_isWord_30 : decode cX4_isWord 30 = .ok (.invokevirtual 89, 3) := by decide +kernel
theorem dX4_isWord_33 : decode cX4_isWord 33 = .ok (.if_icmp .ge 30, 3) := by decide +kernel
theorem dX4_isWord_36 : decode cX4_isWord 36 = .ok (.aload_n 0, 1) := by decide +kernel
theorem dX4_isWord_37 : decode cX4_isWord 37 = .ok (.getfield 9, 3) := by decide +kernel
theorem dX4_isWord_40 : decode cX4_isWord 40 = .ok (.aload_n 0, 1) := by decide +kernel
theorem dX4_isWord_41 : decode cX4_isWord 41 = .ok (.getfield 22, 3) := by decide +kernel
theorem dX4_isWord_44 : decode cX4_isWord 44 = .ok (.iload_n 2, 1) := by decide +kernel
theorem dX4_isWord_45 : decode cX4_isWord 45 = .ok (.iadd, 1) := by decide +kernel
theorem dX4_isWord_46 : decode cX4_isWord 46 = .ok (.iaload, 1) := by decide +kernel
theorem dX4_isWord_47 : decode cX4_isWord 47 = .ok (.aload_n 1, 1) := by decide +kernel
theorem dX4_isWord_48 : decode cX4_isWord 48 = .ok (.iload_n 2, 1) := by decide +kernel
theorem dX4_isWord_49 : decode cX4_isWord 49 = .ok (.invokevirtual 93, 3) := by decide +kernel
theorem dX4_isWord_52 : decode cX4_isWord 52 = .ok (.if_icmp .eq 5, 3) := by decide +kernel
theorem dX4_isWord_55 : decode cX4_isWord 55 = .ok (.iconst 0, 1) := by decide +kernel
theorem dX4_isWord_56 : decode cX4_isWord 56 = .ok (.ireturn, 1) := by decide +kernel
theorem dX4_isWord_57 : decode cX4_isWord 57 = .ok (.iinc 2 1, 3) := by decide +kernel
theorem dX4_isWord_60 : decode cX4_isWord 60 = .ok (.goto (-32), 3) := by decide +kernel
theorem dX4_isWord_63 : decode cX4_isWord 63 = .ok (.iconst 1, 1) := by decide +kernel
theorem dX4_isWord_64 : decode cX4_isWord 64 = .ok (.ireturn, 1) := by decide +kernel
set_option maxHeartbeats 4000000 in
set_option maxRecDepth 100000 in
theorem c_X4_isWord (l : Launch) (D : va_G) (cy : Nat → ClassId) (ad adK adV : Nat → Nat) (M : Mm) (o0 : Nat) (a1 : Nat) (res : Mm × Int32) (h : f_X4_isWord M o0 a1 = some res) : Met l yX4_isWord (wU yX4_isWord cX4_isWord 3 (some .boolean)) rmX4_isWord (va_Pc [.ref (ad o0), .ref (adK a1)] (Pre D cy shX ad nX adK adV M)) (va_Qi (fun r (M2 : Mm) => r = res.2 ∧ M2 = res.1) (Pre D cy shX ad nX adK adV) (Aw ad nX)) 0 0 (Aw ad nX) := by
  refine Met.ofW (cc := cX4_isWord) (maxL := 3) (ret := (some .boolean)) (by decide) rfl ?_
  intro p e s m args below meth c s₁ B hml hv
  obtain ⟨hargs, hPre⟩ := hv
  have hx := B.exec
  have hb := B.bytes
  have hr := B.returns
  have hts := atoms_spec (ws := wU yX4_isWord cX4_isWord 3 (some .boolean)) B.pre
  have hq : ∀ w ∈ gW, w.before args s = true := fun w hw => hts w (List.mem_cons_of_mem _ hw)
  have hcm : ∀ w ∈ gW, w ∈ wU yX4_isWord cX4_isWord 3 (some .boolean) := fun w hw => List.mem_cons_of_mem _ hw
  have hown : s.vm.findClass RX4 = some m.cls := findClass_of_methodNamed B.named
  have hlocks := B.notSynchronized
  have hF : CallFix p m c cX4_isWord 3 s args (wU yX4_isWord cX4_isWord 3 (some .boolean)) RX4 := ⟨hx, hb, hml, hown, hts⟩
  have hK := hPre.2.1
  have hZ := hPre.2.2.2
  have hw : Wd D cy shX ad nX (Aw ad nX) s.heap M s.heap [] := ⟨hPre.1, hPre.2.2.1, va_S.rf⟩
  have iw4 : ∀ w ∈ u_ws RX4 TX4 6, w ∈ wU yX4_isWord cX4_isWord 3 (some .boolean) := fun w hw => List.mem_cons_of_mem _ (iX4 w hw)
  rw [show entryFrame m args 3 = entryFrame m ([.ref (ad o0), .ref (adK a1)] : List Value).toArray 3 from by rw [hargs]]
  have hl := lv_entry ([.ref (ad o0), .ref (adK a1)]) (n := 3) (Nat.le_of_ble_eq_true rfl)
  rw [lg_entry_eq]
  generalize (lg_sl ([.ref (ad o0), .ref (adK a1)]) ++ List.replicate (3 - (lg_sl ([.ref (ad o0), .ref (adK a1)])).length) Slot.unset).toArray = ls at hl ⊢
  have hl : lv_has ls 3 [(0, .ref (ad o0)), (1, .ref (adK a1))] := hl
  have hb28 : ∀ (nn : Nat), ∀ (M : Mm) (x0 : Nat) (x1 : Nat) (x2 : Int32), f_X4_isWord_b28 nn M x0 x1 x2 = some res → ∀ (H : Heap) (locs : List Loc) (ls : Array Slot), Wd D cy shX ad nX (Aw ad nX) s.heap M H locs → lv_has ls 3 [(0, .ref (ad x0)), (1, .ref (adK x1)), (2, .int x2)] → W p l e (headSpec (wU yX4_isWord cX4_isWord 3 (some .boolean)) rmX4_isWord).room s m args below meth c H locs 0 0 (QI D cy shX ad nX adK adV below args s res) (F0 m 28 ls []) := by
    intro nn
    induction nn with
    | zero => intro M x0 x1 x2 h; simp [f_X4_isWord_b28] at h
    | succ nn ih =>
      intro M x0 x1 x2 h H locs ls hw hl
      unfold f_X4_isWord_b28 at h
      refine lv_iload_n hx hb dX4_isWord_28 rfl (lv_at hl 2 rfl) ?_
      refine lv_aload_n hx hb dX4_isWord_29 rfl (lv_at hl 1 rfl) ?_
      replace h := gd_some h
      obtain ⟨g1, h⟩ := h
      refine r_slength (rest := [.int x2]) hF hZ hK hw g1 qw504 hl.1 (Nat.le_of_ble_eq_true rfl) ⟨Nat.le_of_ble_eq_true rfl, Nat.le_of_ble_eq_true rfl⟩ ⟨Nat.zero_le _, Nat.zero_le _⟩ dX4_isWord_30 (fun H locs hw => ?_)
      refine lv_icmp_ge (tgt := 63) hx hb dX4_isWord_33 (by decide) (fun c2 => ?_) (fun c2 => ?_)
      · replace h := if_some_t c2 h
        refine lv_iconst (v := (1 : Int32)) hx hb dX4_isWord_63 (by decide) ?_
        exact r_iret hx hb hr rfl hlocks hZ hK hw h dX4_isWord_64
      · replace h := if_some_f c2 h
        refine lv_aload_n hx hb dX4_isWord_36 rfl (lv_at hl 0 rfl) ?_
        replace h := gd_some h
        obtain ⟨g3, h⟩ := h
        replace h := bd_some h
        obtain ⟨q4, eq4, h⟩ := h
        refine r_getR hx hb hts iw4 hown hK hw x0 0 g3 (by decide) rfl (by decide) rfl (hq _ qw296) (fun _ h9 => h9) dX4_isWord_37 eq4 ?_
        refine lv_aload_n hx hb dX4_isWord_40 rfl (lv_at hl 0 rfl) ?_
        refine r_getI hx hb hts iw4 hown hK hw x0 3 g3 (by decide) rfl (by decide) rfl (hq _ qw300) (fun _ h9 => h9) dX4_isWord_41 ?_
        refine lv_iload_n hx hb dX4_isWord_44 rfl (lv_at hl 2 rfl) ?_
        refine lv_iadd hx hb dX4_isWord_45 ?_
        replace h := gd_some h
        obtain ⟨g5, h⟩ := h
        refine r_iald hx hb hK hw q4 g5 dX4_isWord_46 ?_
        refine lv_aload_n hx hb dX4_isWord_47 rfl (lv_at hl 1 rfl) ?_
        refine lv_iload_n hx hb dX4_isWord_48 rfl (lv_at hl 2 rfl) ?_
        replace h := gd_some h
        obtain ⟨g6, h⟩ := h
        refine r_scharAt (rest := [.int (M.1 q4 ((M.1 x0 3) + x2).toNatClampNeg)]) hF hZ hK hw g6 qw514 hl.1 (Nat.le_of_ble_eq_true rfl) ⟨Nat.le_of_ble_eq_true rfl, Nat.le_of_ble_eq_true rfl⟩ ⟨Nat.zero_le _, Nat.zero_le _⟩ dX4_isWord_49 (fun H locs hw => ?_)
        refine lv_icmp_eq (tgt := 57) hx hb dX4_isWord_52 (by decide) (fun c7 => ?_) (fun c7 => ?_)
        · replace h := if_some_t c7 h
          refine lv_iinc (v := x2 + (1 : Int32)) (lv' := [(2, .int (x2 + (1 : Int32))), (0, .ref (ad x0)), (1, .ref (adK x1))]) hx hb dX4_isWord_57 hl (k := 2) rfl (congrArg (fun z => x2 + z) (by decide)) (by decide) rfl (fun ls hl => ?_)
          refine lv_goto (tgt := 28) hx hb dX4_isWord_60 (by decide) ?_
          exact ih _ _ _ _ h _ _ _ hw (lv_sub hl [1, 2, 0] rfl)
        · replace h := if_some_f c7 h
          refine lv_iconst (v := (0 : Int32)) hx hb dX4_isWord_55 (by decide) ?_
          exact r_iret hx hb hr rfl hlocks hZ hK hw h dX4_isWord_56
  unfold f_X4_isWord at h
  refine lv_aload_n hx hb dX4_isWord_0 rfl (lv_at hl 0 rfl) ?_
  replace h := gd_some h
  obtain ⟨g8, h⟩ := h
  refine r_getI hx hb hts iw4 hown hK hw o0 2 g8 (by decide) rfl (by decide) rfl (hq _ qw299) (fun _ h9 => h9) dX4_isWord_1 ?_
  refine lv_iconst (v := (1 : Int32)) hx hb dX4_isWord_4 (by decide) ?_
  refine lv_icmp_ne (tgt := 24) hx hb dX4_isWord_5 (by decide) (fun c9 => ?_) (fun c9 => ?_)
  · replace h := if_some_f c9 h
    refine lv_iconst (v := (0 : Int32)) hx hb dX4_isWord_24 (by decide) ?_
    exact r_iret hx hb hr rfl hlocks hZ hK hw h dX4_isWord_25
  · replace h := if_some_t c9 h
    refine lv_aload_n hx hb dX4_isWord_8 rfl (lv_at hl 0 rfl) ?_
    refine r_getI hx hb hts iw4 hown hK hw o0 4 g8 (by decide) rfl (by decide) rfl (hq _ qw301) (fun _ h9 => h9) dX4_isWord_9 ?_
    refine lv_aload_n hx hb dX4_isWord_12 rfl (lv_at hl 0 rfl) ?_
    refine r_getI hx hb hts iw4 hown hK hw o0 3 g8 (by decide) rfl (by decide) rfl (hq _ qw300) (fun _ h9 => h9) dX4_isWord_13 ?_
    refine lv_isub hx hb dX4_isWord_16 ?_
    refine lv_aload_n hx hb dX4_isWord_17 rfl (lv_at hl 1 rfl) ?_
    replace h := gd_some h
    obtain ⟨g10, h⟩ := h
    refine r_slength (rest := [.int ((M.1 o0 4) - (M.1 o0 3))]) hF hZ hK hw g10 qw504 hl.1 (Nat.le_of_ble_eq_true rfl) ⟨Nat.le_of_ble_eq_true rfl, Nat.le_of_ble_eq_true rfl⟩ ⟨Nat.zero_le _, Nat.zero_le _⟩ dX4_isWord_18 (fun H locs hw => ?_)
    refine lv_icmp_eq (tgt := 26) hx hb dX4_isWord_21 (by decide) (fun c11 => ?_) (fun c11 => ?_)
    · replace h := if_some_t c11 h
      refine lv_iconst (v := (0 : Int32)) hx hb dX4_isWord_26 (by decide) ?_
      refine lv_istore_n (lv' := [(2, .int (0 : Int32)), (0, .ref (ad o0)), (1, .ref (adK a1))]) hx hb dX4_isWord_27 rfl hl (by decide) rfl (fun ls hl => ?_)
      exact hb28 1000 _ _ _ _ h _ _ _ hw (lv_sub hl [1, 2, 0] rfl)
    · replace h := if_some_f c11 h
      refine lv_iconst (v := (0 : Int32)) hx hb dX4_isWord_24 (by decide) ?_
      exact r_iret hx hb hr rfl hlocks hZ hK hw h dX4_isWord_25
theorem dX4_kindOfWord_0 : decode cX4_kindOfWord 0 = .ok (.aload_n 0, 1) := by decide +kernel
theorem dX4_kindOfWord_1 : decode cX4_kindOfWord 1 = .ok (.ldc 97, 2) := by decide +kernel
theorem dX4_kindOfWord_3 : decode cX4_kindOfWord 3 = .ok (.invokevirtual 48, 3) := by decide +kernel
theorem dX4_kindOfWord_6 : decode cX4_kindOfWord 6 = .ok (.ifCond .eq 5, 3) := by decide +kernel
theorem dX4_kindOfWord_9 : decode cX4_kindOfWord 9 = .ok (.iconst 0, 1) := by decide +kernel
theorem dX4_kindOfWord_10 : decode cX4_kindOfWord 10 = .ok (.ireturn, 1) := by decide +kernel
theorem dX4_kindOfWord_11 : decode cX4_kindOfWord 11 = .ok (.aload_n 0, 1) := by decide +kernel
theorem dX4_kindOfWord_12 : decode cX4_kindOfWord 12 = .ok (.ldc 99, 2) := by decide +kernel
theorem dX4_kindOfWord_14 : decode cX4_kindOfWord 14 = .ok (.invokevirtual 48, 3) := by decide +kernel
theorem dX4_kindOfWord_17 : decode cX4_kindOfWord 17 = .ok (.ifCond .eq 5, 3) := by decide +kernel
theorem dX4_kindOfWord_20 : decode cX4_kindOfWord 20 = .ok (.iconst 1, 1) := by decide +kernel
theorem dX4_kindOfWord_21 : decode cX4_kindOfWord 21 = .ok (.ireturn, 1) := by decide +kernel
theorem dX4_kindOfWord_22 : decode cX4_kindOfWord 22 = .ok (.aload_n 0, 1) := by decide +kernel
theorem dX4_kindOfWord_23 : decode cX4_kindOfWord 23 = .ok (.ldc 101, 2) := by decide +kernel
theorem dX4_kindOfWord_25 : decode cX4_kindOfWord 25 = .ok (.invokevirtual 48, 3) := by decide +kernel
theorem dX4_kindOfWord_28 : decode cX4_kindOfWord 28 = .ok (.ifCond .eq 5, 3) := by decide +kernel
theorem dX4_kindOfWord_31 : decode cX4_kindOfWord 31 = .ok (.iconst 2, 1) := by decide +kernel
theorem dX4_kindOfWord_32 : decode cX4_kindOfWord 32 = .ok (.ireturn, 1) := by decide +kernel
theorem dX4_kindOfWord_33 : decode cX4_kindOfWord 33 = .ok (.aload_n 0, 1) := by decide +kernel
theorem dX4_kindOfWord_34 : decode cX4_kindOfWord 34 = .ok (.ldc 103, 2) := by decide +kernel
theorem dX4_kindOfWord_36 : decode cX4_kindOfWord 36 = .ok (.invokevirtual 48, 3) := by decide +kernel
theorem dX4_kindOfWord_39 : decode cX4_kindOfWord 39 = .ok (.ifCond .eq 5, 3) := by decide +kernel
theorem dX4_kindOfWord_42 : decode cX4_kindOfWord 42 = .ok (.iconst 3, 1) := by decide +kernel
theorem dX4_kindOfWord_43 : decode cX4_kindOfWord 43 = .ok (.ireturn, 1) := by decide +kernel
theorem dX4_kindOfWord_44 : decode cX4_kindOfWord 44 = .ok (.aload_n 0, 1) := by decide +kernel
theorem dX4_kindOfWord_45 : decode cX4_kindOfWord 45 = .ok (.ldc 105, 2) := by decide +kernel
theorem dX4_kindOfWord_47 : decode cX4_kindOfWord 47 = .ok (.invokevirtual 48, 3) := by decide +kernel
theorem dX4_kindOfWord_50 : decode cX4_kindOfWord 50 = .ok (.ifCond .eq 5, 3) := by decide +kernel
theorem dX4_kindOfWord_53 : decode cX4_kindOfWord 53 = .ok (.iconst 4, 1) := by decide +kernel
theorem dX4_kindOfWord_54 : decode cX4_kindOfWord 54 = .ok (.ireturn, 1) := by decide +kernel
theorem dX4_kindOfWord_55 : decode cX4_kindOfWord 55 = .ok (.aload_n 0, 1) := by decide +kernel
theorem dX4_kindOfWord_56 : decode cX4_kindOfWord 56 = .ok (.ldc 107, 2) := by decide +kernel
theorem dX4_kindOfWord_58 : decode cX4_kindOfWord 58 = .ok (.invokevirtual 48, 3) := by decide +kernel
theorem dX4_kindOfWord_61 : decode cX4_kindOfWord 61 = .ok (.ifCond .eq 5, 3) := by decide +kernel
theorem dX4_kindOfWord_64 : decode cX4_kindOfWord 64 = .ok (.iconst 5, 1) := by decide +kernel
theorem dX4_kindOfWord_65 : decode cX4_kindOfWord 65 = .ok (.ireturn, 1) := by decide +kernel
theorem dX4_kindOfWord_66 : decode cX4_kindOfWord 66 = .ok (.aload_n 0, 1) := by decide +kernel
theorem dX4_kindOfWord_67 : decode cX4_kindOfWord 67 = .ok (.ldc 109, 2) := by decide +kernel
theorem dX4_kindOfWord_69 : decode cX4_kindOfWord 69 = .ok (.invokevirtual 48, 3) := by decide +kernel
theorem dX4_kindOfWord_72 : decode cX4_kindOfWord 72 = .ok (.ifCond .eq 8, 3) := by decide +kernel
theorem dX4_kindOfWord_75 : decode cX4_kindOfWord 75 = .ok (.bipush 6, 2) := by decide +kernel
theorem dX4_kindOfWord_77 : decode cX4_kindOfWord 77 = .ok (.goto 4, 3) := by decide +kernel
theorem dX4_kindOfWord_80 : decode cX4_kindOfWord 80 = .ok (.iconst (-1), 1) := by decide +kernel
theorem dX4_kindOfWord_81 : decode cX4_kindOfWord 81 = .ok (.ireturn, 1) := by decide +kernel
set_option maxHeartbeats 4000000 in
set_option maxRecDepth 100000 in
theorem c_X4_kindOfWord (l : Launch) (D : va_G) (cy : Nat → ClassId) (ad adK adV : Nat → Nat) (M : Mm) (o0 : Nat) (res : Mm × Int32) (h : f_X4_kindOfWord M o0 = some res) : Met l yX4_kindOfWord (wU yX4_kindOfWord cX4_kindOfWord 1 (some .int)) rmX4_kindOfWord (va_Pc [.ref (ad o0)] (Pre D cy shX ad nX adK adV M)) (va_Qi (fun r (M2 : Mm) => r = res.2 ∧ M2 = res.1) (Pre D cy shX ad nX adK adV) (Aw ad nX)) 0 0 (Aw ad nX) := by
  refine Met.ofW (cc := cX4_kindOfWord) (maxL := 1) (ret := (some .int)) (by decide) rfl ?_
  intro p e s m args below meth c s₁ B hml hv
  obtain ⟨hargs, hPre⟩ := hv
  have hx := B.exec
  have hb := B.bytes
  have hr := B.returns
  have hts := atoms_spec (ws := wU yX4_kindOfWord cX4_kindOfWord 1 (some .int)) B.pre
  have hq : ∀ w ∈ gW, w.before args s = true := fun w hw => hts w (List.mem_cons_of_mem _ hw)
  have hcm : ∀ w ∈ gW, w ∈ wU yX4_kindOfWord cX4_kindOfWord 1 (some .int) := fun w hw => List.mem_cons_of_mem _ hw
  have hown : s.vm.findClass RX4 = some m.cls := findClass_of_methodNamed B.named
  have hlocks := B.notSynchronized
  have hF : CallFix p m c cX4_kindOfWord 1 s args (wU yX4_kindOfWord cX4_kindOfWord 1 (some .int)) RX4 := ⟨hx, hb, hml, hown, hts⟩
  have hK := hPre.2.1
  have hZ := hPre.2.2.2
  have hw : Wd D cy shX ad nX (Aw ad nX) s.heap M s.heap [] := ⟨hPre.1, hPre.2.2.1, va_S.rf⟩
  rw [show entryFrame m args 1 = entryFrame m ([.ref (ad o0)] : List Value).toArray 1 from by rw [hargs]]
  have hl := lv_entry ([.ref (ad o0)]) (n := 1) (Nat.le_of_ble_eq_true rfl)
  rw [lg_entry_eq]
  generalize (lg_sl ([.ref (ad o0)]) ++ List.replicate (1 - (lg_sl ([.ref (ad o0)])).length) Slot.unset).toArray = ls at hl ⊢
  have hl : lv_has ls 1 [(0, .ref (ad o0))] := hl
  unfold f_X4_kindOfWord at h
  refine lv_aload_n hx hb dX4_kindOfWord_0 rfl (lv_at hl 0 rfl) ?_
  refine va_ldcS hx hb hown (hZ.2.1 _ (List.mem_of_getElem? (i := 0) rfl)) dX4_kindOfWord_1 ?_
  replace h := gd_some h
  obtain ⟨g2, h⟩ := h
  replace h := bd_some h
  obtain ⟨r1, er1, h⟩ := h
  refine r_callVi (As := [.ref (adK 0)]) (rest := []) hF (c_X4_isWord l D cy ad adK adV M o0 0 r1 er1) (gW_goodV hcm qw503 qw500 qw502 qw5 qw66) hdX4_isWord rfl ⟨Nat.le_of_ble_eq_true rfl, Nat.le_of_ble_eq_true rfl⟩ rfl rfl hZ hK hw g2 (by decide) rfl rfl hl.1 rfl (Nat.le_of_ble_eq_true rfl) ⟨Nat.zero_le _, Nat.zero_le _⟩ dX4_kindOfWord_3 (fun H locs hw => ?_)
  refine lv_if_eq (tgt := 11) hx hb dX4_kindOfWord_6 (by decide) (fun c3 => ?_) (fun c3 => ?_)
  · replace h := if_some_t c3 h
    refine lv_aload_n hx hb dX4_kindOfWord_11 rfl (lv_at hl 0 rfl) ?_
    refine va_ldcS hx hb hown (hZ.2.1 _ (List.mem_of_getElem? (i := 1) rfl)) dX4_kindOfWord_12 ?_
    replace h := bd_some h
    obtain ⟨r4, er4, h⟩ := h
    refine r_callVi (As := [.ref (adK 1)]) (rest := []) hF (c_X4_isWord l D cy ad adK adV r1.1 o0 1 r4 er4) (gW_goodV hcm qw503 qw500 qw502 qw5 qw66) hdX4_isWord rfl ⟨Nat.le_of_ble_eq_true rfl, Nat.le_of_ble_eq_true rfl⟩ rfl rfl hZ hK hw g2 (by decide) rfl rfl hl.1 rfl (Nat.le_of_ble_eq_true rfl) ⟨Nat.zero_le _, Nat.zero_le _⟩ dX4_kindOfWord_14 (fun H locs hw => ?_)
    refine lv_if_eq (tgt := 22) hx hb dX4_kindOfWord_17 (by decide) (fun c5 => ?_) (fun c5 => ?_)
    · replace h := if_some_t c5 h
      refine lv_aload_n hx hb dX4_kindOfWord_22 rfl (lv_at hl 0 rfl) ?_
      refine va_ldcS hx hb hown (hZ.2.1 _ (List.mem_of_getElem? (i := 2) rfl)) dX4_kindOfWord_23 ?_
      replace h := bd_some h
      obtain ⟨r6, er6, h⟩ := h
      refine r_callVi (As := [.ref (adK 2)]) (rest := []) hF (c_X4_isWord l D cy ad adK adV r4.1 o0 2 r6 er6) (gW_goodV hcm qw503 qw500 qw502 qw5 qw66) hdX4_isWord rfl ⟨Nat.le_of_ble_eq_true rfl, Nat.le_of_ble_eq_true rfl⟩ rfl rfl hZ hK hw g2 (by decide) rfl rfl hl.1 rfl (Nat.le_of_ble_eq_true rfl) ⟨Nat.zero_le _, Nat.zero_le _⟩ dX4_kindOfWord_25 (fun H locs hw => ?_)
      refine lv_if_eq (tgt := 33) hx hb dX4_kindOfWord_28 (by decide) (fun c7 => ?_) (fun c7 => ?_)
      · replace h := if_some_t c7 h
        refine lv_aload_n hx hb dX4_kindOfWord_33 rfl (lv_at hl 0 rfl) ?_
        refine va_ldcS hx hb hown (hZ.2.1 _ (List.mem_of_getElem? (i := 3) rfl)) dX4_kindOfWord_34 ?_
        replace h := bd_some h
        obtain ⟨r8, er8, h⟩ := h
        refine r_callVi (As := [.ref (adK 3)]) (rest := []) hF (c_X4_isWord l D cy ad adK adV r6.1 o0 3 r8 er8) (gW_goodV hcm qw503 qw500 qw502 qw5 qw66) hdX4_isWord rfl ⟨Nat.le_of_ble_eq_true rfl, Nat.le_of_ble_eq_true rfl⟩ rfl rfl hZ hK hw g2 (by decide) rfl rfl hl.1 rfl (Nat.le_of_ble_eq_true rfl) ⟨Nat.zero_le _, Nat.zero_le _⟩ dX4_kindOfWord_36 (fun H locs hw => ?_)
        refine lv_if_eq (tgt := 44) hx hb dX4_kindOfWord_39 (by decide) (fun c9 => ?_) (fun c9 => ?_)
        · replace h := if_some_t c9 h
          refine lv_aload_n hx hb dX4_kindOfWord_44 rfl (lv_at hl 0 rfl) ?_
          refine va_ldcS hx hb hown (hZ.2.1 _ (List.mem_of_getElem? (i := 4) rfl)) dX4_kindOfWord_45 ?_
          replace h := bd_some h
          obtain ⟨r10, er10, h⟩ := h
          refine r_callVi (As := [.ref (adK 4)]) (rest := []) hF (c_X4_isWord l D cy ad adK adV r8.1 o0 4 r10 er10) (gW_goodV hcm qw503 qw500 qw502 qw5 qw66) hdX4_isWord rfl ⟨Nat.le_of_ble_eq_true rfl, Nat.le_of_ble_eq_true rfl⟩ rfl rfl hZ hK hw g2 (by decide) rfl rfl hl.1 rfl (Nat.le_of_ble_eq_true rfl) ⟨Nat.zero_le _, Nat.zero_le _⟩ dX4_kindOfWord_47 (fun H locs hw => ?_)
          refine lv_if_eq (tgt := 55) hx hb dX4_kindOfWord_50 (by decide) (fun c11 => ?_) (fun c11 => ?_)
          · replace h := if_some_t c11 h
            refine lv_aload_n hx hb dX4_kindOfWord_55 rfl (lv_at hl 0 rfl) ?_
            refine va_ldcS hx hb hown (hZ.2.1 _ (List.mem_of_getElem? (i := 5) rfl)) dX4_kindOfWord_56 ?_
            replace h := bd_some h
            obtain ⟨r12, er12, h⟩ := h
            refine r_callVi (As := [.ref (adK 5)]) (rest := []) hF (c_X4_isWord l D cy ad adK adV r10.1 o0 5 r12 er12) (gW_goodV hcm qw503 qw500 qw502 qw5 qw66) hdX4_isWord rfl ⟨Nat.le_of_ble_eq_true rfl, Nat.le_of_ble_eq_true rfl⟩ rfl rfl hZ hK hw g2 (by decide) rfl rfl hl.1 rfl (Nat.le_of_ble_eq_true rfl) ⟨Nat.zero_le _, Nat.zero_le _⟩ dX4_kindOfWord_58 (fun H locs hw => ?_)
            refine lv_if_eq (tgt := 66) hx hb dX4_kindOfWord_61 (by decide) (fun c13 => ?_) (fun c13 => ?_)
            · replace h := if_some_t c13 h
              refine lv_aload_n hx hb dX4_kindOfWord_66 rfl (lv_at hl 0 rfl) ?_
              refine va_ldcS hx hb hown (hZ.2.1 _ (List.mem_of_getElem? (i := 6) rfl)) dX4_kindOfWord_67 ?_
              replace h := bd_some h
              obtain ⟨r14, er14, h⟩ := h
              refine r_callVi (As := [.ref (adK 6)]) (rest := []) hF (c_X4_isWord l D cy ad adK adV r12.1 o0 6 r14 er14) (gW_goodV hcm qw503 qw500 qw502 qw5 qw66) hdX4_isWord rfl ⟨Nat.le_of_ble_eq_true rfl, Nat.le_of_ble_eq_true rfl⟩ rfl rfl hZ hK hw g2 (by decide) rfl rfl hl.1 rfl (Nat.le_of_ble_eq_true rfl) ⟨Nat.zero_le _, Nat.zero_le _⟩ dX4_kindOfWord_69 (fun H locs hw => ?_)
              refine lv_if_eq (tgt := 80) hx hb dX4_kindOfWord_72 (by decide) (fun c15 => ?_) (fun c15 => ?_)
              · replace h := if_some_t c15 h
                refine lv_iconst (v := (-1 : Int32)) hx hb dX4_kindOfWord_80 (by decide) ?_
                exact r_iret hx hb hr rfl hlocks hZ hK hw h dX4_kindOfWord_81
              · replace h := if_some_f c15 h
                refine lv_bipush (v := (6 : Int32)) hx hb dX4_kindOfWord_75 (by decide) ?_
                refine lv_goto (tgt := 81) hx hb dX4_kindOfWord_77 (by decide) ?_
                exact r_iret hx hb hr rfl hlocks hZ hK hw h dX4_kindOfWord_81
            · replace h := if_some_f c13 h
              refine lv_iconst (v := (5 : Int32)) hx hb dX4_kindOfWord_64 (by decide) ?_
              exact r_iret hx hb hr rfl hlocks hZ hK hw h dX4_kindOfWord_65
          · replace h := if_some_f c11 h
            refine lv_iconst (v := (4 : Int32)) hx hb dX4_kindOfWord_53 (by decide) ?_
            exact r_iret hx hb hr rfl hlocks hZ hK hw h dX4_kindOfWord_54
        · replace h := if_some_f c9 h
          refine lv_iconst (v := (3 : Int32)) hx hb dX4_kindOfWord_42 (by decide) ?_
          exact r_iret hx hb hr rfl hlocks hZ hK hw h dX4_kindOfWord_43
      · replace h := if_some_f c7 h
        refine lv_iconst (v := (2 : Int32)) hx hb dX4_kindOfWord_31 (by decide) ?_
        exact r_iret hx hb hr rfl hlocks hZ hK hw h dX4_kindOfWord_32
    · replace h := if_some_f c5 h
      refine lv_iconst (v := (1 : Int32)) hx hb dX4_kindOfWord_20 (by decide) ?_
      exact r_iret hx hb hr rfl hlocks hZ hK hw h dX4_kindOfWord_21
  · replace h := if_some_f c3 h
    refine lv_iconst (v := (0 : Int32)) hx hb dX4_kindOfWord_9 (by decide) ?_
    exact r_iret hx hb hr rfl hlocks hZ hK hw h dX4_kindOfWord_10
theorem dX4_isNumber_0 : decode cX4_isNumber 0 = .ok (.aload_n 0, 1) := by decide +kernel
theorem dX4_isNumber_1 : decode cX4_isNumber 1 = .ok (.getfield 19, 3) := by decide +kernel
theorem dX4_isNumber_4 : decode cX4_isNumber 4 = .ok (.iconst 2, 1) := by decide +kernel
theorem dX4_isNumber_5 : decode cX4_isNumber 5 = .ok (.if_icmp .ne 23, 3) := by decide +kernel
theorem dX4_isNumber_8 : decode cX4_isNumber 8 = .ok (.aload_n 0, 1) := by decide +kernel
theorem dX4_isNumber_9 : decode cX4_isNumber 9 = .ok (.getfield 28, 3) := by decide +kernel
theorem dX4_isNumber_12 : decode cX4_isNumber 12 = .ok (.iload_n 1, 1) := by decide +kernel
theorem dX4_isNumber_13 : decode cX4_isNumber 13 = .ok (.if_icmp .lt 15, 3) := by decide +kernel
theorem dX4_isNumber_16 : decode cX4_isNumber 16 = .ok (.aload_n 0, 1) := by decide +kernel
theorem dX4_isNumber_17 : decode cX4_isNumber 17 = .ok (.getfield 28, 3) := by decide +kernel
theorem dX4_isNumber_20 : decode cX4_isNumber 20 = .ok (.iload_n 2, 1) := by decide +kernel
theorem dX4_isNumber_21 : decode cX4_isNumber 21 = .ok (.if_icmp .gt 7, 3) := by decide +kernel
theorem dX4_isNumber_24 : decode cX4_isNumber 24 = .ok (.iconst 1, 1) := by decide +kernel
theorem dX4_isNumber_25 : decode cX4_isNumber 25 = .ok (.goto 4, 3) := by decide +kernel
theorem dX4_isNumber_28 : decode cX4_isNumber 28 = .ok (.iconst 0, 1) := by decide +kernel
theorem dX4_isNumber_29 : decode cX4_isNumber 29 = .ok (.ireturn, 1) := by decide +kernel
set_option maxHeartbeats 4000000 in
set_option maxRecDepth 100000 in
theorem c_X4_isNumber (l : Launch) (D : va_G) (cy : Nat → ClassId) (ad adK adV : Nat → Nat) (M : Mm) (o0 : Nat) (a1 : Int32) (a2 : Int32) (res : Mm × Int32) (h : f_X4_isNumber M o0 a1 a2 = some res) : Met l yX4_isNumber (wU yX4_isNumber cX4_isNumber 3 (some .boolean)) rmX4_isNumber (va_Pc [.ref (ad o0), .int a1, .int a2] (Pre D cy shX ad nX adK adV M)) (va_Qi (fun r (M2 : Mm) => r = res.2 ∧ M2 = res.1) (Pre D cy shX ad nX adK adV) (Aw ad nX)) 0 0 (Aw ad nX) := by
  refine Met.ofW (cc := cX4_isNumber) (maxL := 3) (ret := (some .boolean)) (by decide) rfl ?_
  intro p e s m args below meth c s₁ B hml hv
  obtain ⟨hargs, hPre⟩ := hv
  have hx := B.exec
  have hb := B.bytes
  have hr := B.returns
  have hts := atoms_spec (ws := wU yX4_isNumber cX4_isNumber 3 (some .boolean)) B.pre
  have hq : ∀ w ∈ gW, w.before args s = true := fun w hw => hts w (List.mem_cons_of_mem _ hw)
  have hcm : ∀ w ∈ gW, w ∈ wU yX4_isNumber cX4_isNumber 3 (some .boolean) := fun w hw => List.mem_cons_of_mem _ hw
  have hown : s.vm.findClass RX4 = some m.cls := findClass_of_methodNamed B.named
  have hlocks := B.notSynchronized
  have hF : CallFix p m c cX4_isNumber 3 s args (wU yX4_isNumber cX4_isNumber 3 (some .boolean)) RX4 := ⟨hx, hb, hml, hown, hts⟩
  have hK := hPre.2.1
  have hZ := hPre.2.2.2
  have hw : Wd D cy shX ad nX (Aw ad nX) s.heap M s.heap [] := ⟨hPre.1, hPre.2.2.1, va_S.rf⟩
  have iw4 : ∀ w ∈ u_ws RX4 TX4 6, w ∈ wU yX4_isNumber cX4_isNumber 3 (some .boolean) := fun w hw => List.mem_cons_of_mem _ (iX4 w hw)
  rw [show entryFrame m args 3 = entryFrame m ([.ref (ad o0), .int a1, .int a2] : List Value).toArray 3 from by rw [hargs]]
  have hl := lv_entry ([.ref (ad o0), .int a1, .int a2]) (n := 3) (Nat.le_of_ble_eq_true rfl)
  rw [lg_entry_eq]
  generalize (lg_sl ([.ref (ad o0), .int a1, .int a2]) ++ List.replicate (3 - (lg_sl ([.ref (ad o0), .int a1, .int a2])).length) Slot.unset).toArray = ls at hl ⊢
  have hl : lv_has ls 3 [(0, .ref (ad o0)), (1, .int a1), (2, .int a2)] := hl
  unfold f_X4_isNumber at h
  refine lv_aload_n hx hb dX4_isNumber_0 rfl (lv_at hl 0 rfl) ?_
  replace h := gd_some h
  obtain ⟨g1, h⟩ := h
  refine r_getI hx hb hts iw4 hown hK hw o0 2 g1 (by decide) rfl (by decide) rfl (hq _ qw299) (fun _ h9 => h9) dX4_isNumber_1 ?_
  refine lv_iconst (v := (2 : Int32)) hx hb dX4_isNumber_4 (by decide) ?_
  refine lv_icmp_ne (tgt := 28) hx hb dX4_isNumber_5 (by decide) (fun c2 => ?_) (fun c2 => ?_)
  · replace h := if_some_f c2 h
    refine lv_iconst (v := (0 : Int32)) hx hb dX4_isNumber_28 (by decide) ?_
    exact r_iret hx hb hr rfl hlocks hZ hK hw h dX4_isNumber_29
  · replace h := if_some_t c2 h
    refine lv_aload_n hx hb dX4_isNumber_8 rfl (lv_at hl 0 rfl) ?_
    refine r_getI hx hb hts iw4 hown hK hw o0 5 g1 (by decide) rfl (by decide) rfl (hq _ qw302) (fun _ h9 => h9) dX4_isNumber_9 ?_
    refine lv_iload_n hx hb dX4_isNumber_12 rfl (lv_at hl 1 rfl) ?_
    refine lv_icmp_lt (tgt := 28) hx hb dX4_isNumber_13 (by decide) (fun c3 => ?_) (fun c3 => ?_)
    · replace h := if_some_t c3 h
      refine lv_iconst (v := (0 : Int32)) hx hb dX4_isNumber_28 (by decide) ?_
      exact r_iret hx hb hr rfl hlocks hZ hK hw h dX4_isNumber_29
    · replace h := if_some_f c3 h
      refine lv_aload_n hx hb dX4_isNumber_16 rfl (lv_at hl 0 rfl) ?_
      refine r_getI hx hb hts iw4 hown hK hw o0 5 g1 (by decide) rfl (by decide) rfl (hq _ qw302) (fun _ h9 => h9) dX4_isNumber_17 ?_
      refine lv_iload_n hx hb dX4_isNumber_20 rfl (lv_at hl 2 rfl) ?_
      refine lv_icmp_gt (tgt := 28) hx hb dX4_isNumber_21 (by decide) (fun c4 => ?_) (fun c4 => ?_)
      · replace h := if_some_t c4 h
        refine lv_iconst (v := (0 : Int32)) hx hb dX4_isNumber_28 (by decide) ?_
        exact r_iret hx hb hr rfl hlocks hZ hK hw h dX4_isNumber_29
      · replace h := if_some_f c4 h
        refine lv_iconst (v := (1 : Int32)) hx hb dX4_isNumber_24 (by decide) ?_
        refine lv_goto (tgt := 29) hx hb dX4_isNumber_25 (by decide) ?_
        exact r_iret hx hb hr rfl hlocks hZ hK hw h dX4_isNumber_29
theorem dX4_readPerhaps_0 : decode cX4_readPerhaps 0 = .ok (.aload_n 0, 1) := by decide +kernel
theorem dX4_readPerhaps_1 : decode cX4_readPerhaps 1 = .ok (.aload_n 1, 1) := by decide +kernel
theorem dX4_readPerhaps_2 : decode cX4_readPerhaps 2 = .ok (.invokevirtual 48, 3) := by decide +kernel
theorem dX4_readPerhaps_5 : decode cX4_readPerhaps 5 = .ok (.ifCond .ne 6, 3) := by decide +kernel
theorem dX4_readPerhaps_8 : decode cX4_readPerhaps 8 = .ok (.iload 4, 2) := by decide +kernel
theorem dX4_readPerhaps_10 : decode cX4_readPerhaps 10 = .ok (.ireturn, 1) := by decide +kernel
theorem dX4_readPerhaps_11 : decode cX4_readPerhaps 11 = .ok (.aload_n 0, 1) := by decide +kernel
theorem dX4_readPerhaps_12 : decode cX4_readPerhaps 12 = .ok (.invokevirtual 31, 3) := by decide +kernel
theorem dX4_readPerhaps_15 : decode cX4_readPerhaps 15 = .ok (.aload_n 0, 1) := by decide +kernel
theorem dX4_readPerhaps_16 : decode cX4_readPerhaps 16 = .ok (.iload_n 2, 1) := by decide +kernel
theorem dX4_readPerhaps_17 : decode cX4_readPerhaps 17 = .ok (.iload_n 3, 1) := by decide +kernel
theorem dX4_readPerhaps_18 : decode cX4_readPerhaps 18 = .ok (.invokevirtual 65, 3) := by decide +kernel
theorem dX4_readPerhaps_21 : decode cX4_readPerhaps 21 = .ok (.ifCond .ne 5, 3) := by decide +kernel
theorem dX4_readPerhaps_24 : decode cX4_readPerhaps 24 = .ok (.iconst (-1), 1) := by decide +kernel
theorem dX4_readPerhaps_25 : decode cX4_readPerhaps 25 = .ok (.ireturn, 1) := by decide +kernel
theorem dX4_readPerhaps_26 : decode cX4_readPerhaps 26 = .ok (.aload_n 0, 1) := by decide +kernel
theorem dX4_readPerhaps_27 : decode cX4_readPerhaps 27 = .ok (.getfield 28, 3) := by decide +kernel
theorem dX4_readPerhaps_30 : decode cX4_readPerhaps 30 = .ok (.istore 5, 2) := by decide +kernel
theorem dX4_readPerhaps_32 : decode cX4_readPerhaps 32 = .ok (.aload_n 0, 1) := by decide +kernel
theorem dX4_readPerhaps_33 : decode cX4_readPerhaps 33 = .ok (.invokevirtual 31, 3) := by decide +kernel
theorem dX4_readPerhaps_36 : decode cX4_readPerhaps 36 = .ok (.iload 5, 2) := by decide +kernel
theorem dX4_readPerhaps_38 : decode cX4_readPerhaps 38 = .ok (.ireturn, 1) := by decide +kernel
set_option maxHeartbeats 4000000 in
set_option maxRecDepth 100000 in
theorem c_X4_readPerhaps (l : Launch) (D : va_G) (cy : Nat → ClassId) (ad adK adV : Nat → Nat) (M : Mm) (o0 : Nat) (a1 : Nat) (a2 : Int32) (a3 : Int32) (a4 : Int32) (res : Mm × Int32) (h : f_X4_readPerhaps M o0 a1 a2 a3 a4 = some res) : Met l yX4_readPerhaps (wU yX4_readPerhaps cX4_readPerhaps 6 (some .int)) rmX4_readPerhaps (va_Pc [.ref (ad o0), .ref (adK a1), .int a2, .int a3, .int a4] (Pre D cy shX ad nX adK adV M)) (va_Qi (fun r (M2 : Mm) => r = res.2 ∧ M2 = res.1) (Pre D cy shX ad nX adK adV) (Aw ad nX)) 0 0 (Aw ad nX) := by
  refine Met.ofW (cc := cX4_readPerhaps) (maxL := 6) (ret := (some .int)) (by decide) rfl ?_
  intro p e s m args below meth c s₁ B hml hv
  obtain ⟨hargs, hPre⟩ := hv
  have hx := B.exec
  have hb := B.bytes
  have hr := B.returns
  have hts := atoms_spec (ws := wU yX4_readPerhaps cX4_readPerhaps 6 (some .int)) B.pre
  have hq : ∀ w ∈ gW, w.before args s = true := fun w hw => hts w (List.mem_cons_of_mem _ hw)
  have hcm : ∀ w ∈ gW, w ∈ wU yX4_readPerhaps cX4_readPerhaps 6 (some .int) := fun w hw => List.mem_cons_of_mem _ hw
  have hown : s.vm.findClass RX4 = some m.cls := findClass_of_methodNamed B.named
  have hlocks := B.notSynchronized
  have hF : CallFix p m c cX4_readPerhaps 6 s args (wU yX4_readPerhaps cX4_readPerhaps 6 (some .int)) RX4 := ⟨hx, hb, hml, hown, hts⟩
  have hK := hPre.2.1
  have hZ := hPre.2.2.2
  have hw : Wd D cy shX ad nX (Aw ad nX) s.heap M s.heap [] := ⟨hPre.1, hPre.2.2.1, va_S.rf⟩
  have iw4 : ∀ w ∈ u_ws RX4 TX4 6, w ∈ wU yX4_readPerhaps cX4_readPerhaps 6 (some .int) := fun w hw => List.mem_cons_of_mem _ (iX4 w hw)
  rw [show entryFrame m args 6 = entryFrame m ([.ref (ad o0), .ref (adK a1), .int a2, .int a3, .int a4] : List Value).toArray 6 from by rw [hargs]]
  have hl := lv_entry ([.ref (ad o0), .ref (adK a1), .int a2, .int a3, .int a4]) (n := 6) (Nat.le_of_ble_eq_true rfl)
  rw [lg_entry_eq]
  generalize (lg_sl ([.ref (ad o0), .ref (adK a1), .int a2, .int a3, .int a4]) ++ List.replicate (6 - (lg_sl ([.ref (ad o0), .ref (adK a1), .int a2, .int a3, .int a4])).length) Slot.unset).toArray = ls at hl ⊢
  have hl : lv_has ls 6 [(0, .ref (ad o0)), (1, .ref (adK a1)), (2, .int a2), (3, .int a3), (4, .int a4)] := hl
  unfold f_X4_readPerhaps at h
  refine lv_aload_n hx hb dX4_readPerhaps_0 rfl (lv_at hl 0 rfl) ?_
  refine lv_aload_n hx hb dX4_readPerhaps_1 rfl (lv_at hl 1 rfl) ?_
  replace h := gd_some h
  obtain ⟨g2, h⟩ := h
  replace h := bd_some h
  obtain ⟨r1, er1, h⟩ := h
  refine r_callVi (As := [.ref (adK a1)]) (rest := []) hF (c_X4_isWord l D cy ad adK adV M o0 a1 r1 er1) (gW_goodV hcm qw503 qw500 qw502 qw5 qw66) hdX4_isWord rfl ⟨Nat.le_of_ble_eq_true rfl, Nat.le_of_ble_eq_true rfl⟩ rfl rfl hZ hK hw g2 (by decide) rfl rfl hl.1 rfl (Nat.le_of_ble_eq_true rfl) ⟨Nat.zero_le _, Nat.zero_le _⟩ dX4_readPerhaps_2 (fun H locs hw => ?_)
  refine lv_if_ne (tgt := 11) hx hb dX4_readPerhaps_5 (by decide) (fun c3 => ?_) (fun c3 => ?_)
  · replace h := if_some_f c3 h
    refine lv_aload_n hx hb dX4_readPerhaps_11 rfl (lv_at hl 0 rfl) ?_
    replace h := bd_some h
    obtain ⟨r4, er4, h⟩ := h
    refine r_callVv (As := []) (rest := []) hF (c_X4_goOn l D cy ad adK adV r1.1 o0 r4 er4) (gW_goodV hcm qw477 qw474 qw476 qw1 qw66) hdX4_goOn rfl ⟨Nat.le_of_ble_eq_true rfl, Nat.le_of_ble_eq_true rfl⟩ rfl rfl hZ hK hw g2 (by decide) rfl rfl hl.1 rfl (Nat.le_of_ble_eq_true rfl) ⟨Nat.zero_le _, Nat.zero_le _⟩ dX4_readPerhaps_12 (fun H locs hw => ?_)
    refine lv_aload_n hx hb dX4_readPerhaps_15 rfl (lv_at hl 0 rfl) ?_
    refine lv_iload_n hx hb dX4_readPerhaps_16 rfl (lv_at hl 2 rfl) ?_
    refine lv_iload_n hx hb dX4_readPerhaps_17 rfl (lv_at hl 3 rfl) ?_
    replace h := bd_some h
    obtain ⟨r5, er5, h⟩ := h
    refine r_callVi (As := [.int a2, .int a3]) (rest := []) hF (c_X4_isNumber l D cy ad adK adV r4.1 o0 a2 a3 r5 er5) (gW_goodV hcm qw565 qw562 qw564 qw7 qw66) hdX4_isNumber rfl ⟨Nat.le_of_ble_eq_true rfl, Nat.le_of_ble_eq_true rfl⟩ rfl rfl hZ hK hw g2 (by decide) rfl rfl hl.1 rfl (Nat.le_of_ble_eq_true rfl) ⟨Nat.zero_le _, Nat.zero_le _⟩ dX4_readPerhaps_18 (fun H locs hw => ?_)
    refine lv_if_ne (tgt := 26) hx hb dX4_readPerhaps_21 (by decide) (fun c6 => ?_) (fun c6 => ?_)
    · replace h := if_some_f c6 h
      refine lv_aload_n hx hb dX4_readPerhaps_26 rfl (lv_at hl 0 rfl) ?_
      refine r_getI hx hb hts iw4 hown hK hw o0 5 g2 (by decide) rfl (by decide) rfl (hq _ qw302) (fun _ h9 => h9) dX4_readPerhaps_27 ?_
      refine lv_istore (lv' := [(5, .int (r5.1.1 o0 5)), (0, .ref (ad o0)), (1, .ref (adK a1)), (2, .int a2), (3, .int a3), (4, .int a4)]) hx hb dX4_readPerhaps_30 hl (by decide) rfl (fun ls hl => ?_)
      refine lv_aload_n hx hb dX4_readPerhaps_32 rfl (lv_at hl 1 rfl) ?_
      replace h := bd_some h
      obtain ⟨r7, er7, h⟩ := h
      refine r_callVv (As := []) (rest := []) hF (c_X4_goOn l D cy ad adK adV r5.1 o0 r7 er7) (gW_goodV hcm qw477 qw474 qw476 qw1 qw66) hdX4_goOn rfl ⟨Nat.le_of_ble_eq_true rfl, Nat.le_of_ble_eq_true rfl⟩ rfl rfl hZ hK hw g2 (by decide) rfl rfl hl.1 rfl (Nat.le_of_ble_eq_true rfl) ⟨Nat.zero_le _, Nat.zero_le _⟩ dX4_readPerhaps_33 (fun H locs hw => ?_)
      refine lv_iload hx hb dX4_readPerhaps_36 (lv_at hl 0 rfl) ?_
      exact r_iret hx hb hr rfl hlocks hZ hK hw h dX4_readPerhaps_38
    · replace h := if_some_t c6 h
      refine lv_iconst (v := (-1 : Int32)) hx hb dX4_readPerhaps_24 (by decide) ?_
      exact r_iret hx hb hr rfl hlocks hZ hK hw h dX4_readPerhaps_25
  · replace h := if_some_t c3 h
    refine lv_iload hx hb dX4_readPerhaps_8 (lv_at hl 4 rfl) ?_
    exact r_iret hx hb hr rfl hlocks hZ hK hw h dX4_readPerhaps_10
theorem dX4_readGame_0 : decode cX4_readGame 0 = .ok (.aload_n 1, 1) := by decide +kernel
theorem dX4_readGame_1 : decode cX4_readGame 1 = .ok (.getfield 79, 3) := by decide +kernel
theorem dX4_readGame_4 : decode cX4_readGame 4 = .ok (.bipush 8, 2) := by decide +kernel
theorem dX4_readGame_6 : decode cX4_readGame 6 = .ok (.if_icmp .lt 5, 3) := by decide +kernel
theorem dX4_readGame_9 : decode cX4_readGame 9 = .ok (.iconst 0, 1) := by decide +kernel
theorem dX4_readGame_10 : decode cX4_readGame 10 = .ok (.ireturn, 1) := by decide +kernel
theorem dX4_readGame_11 : decode cX4_readGame 11 = .ok (.aload_n 0, 1) := by decide +kernel
theorem dX4_readGame_12 : decode cX4_readGame 12 = .ok (.invokevirtual 31, 3) := by decide +kernel
theorem dX4_readGame_15 : decode cX4_readGame 15 = .ok (.aload_n 0, 1) := by decide +kernel
theorem dX4_readGame_16 : decode cX4_readGame 16 = .ok (.iconst 0, 1) := by decide +kernel
theorem dX4_readGame_17 : decode cX4_readGame 17 = .ok (.aload_n 1, 1) := by decide +kernel
theorem dX4_readGame_18 : decode cX4_readGame 18 = .ok (.getfield 60, 3) := by decide +kernel
theorem dX4_readGame_21 : decode cX4_readGame 21 = .ok (.iconst 1, 1) := by decide +kernel
theorem dX4_readGame_22 : decode cX4_readGame 22 = .ok (.isub, 1) := by decide +kernel
theorem dX4_readGame_23 : decode cX4_readGame 23 = .ok (.invokevirtual 65, 3) := by decide +kernel
theorem dX4_readGame_26 : decode cX4_readGame 26 = .ok (.ifCond .ne 5, 3) := by decide +kernel
theorem dX4_readGame_29 : decode cX4_readGame 29 = .ok (.iconst 0, 1) := by decide +kernel
theorem dX4_readGame_30 : decode cX4_readGame 30 = .ok (.ireturn, 1) := by decide +kernel
theorem dX4_readGame_31 : decode cX4_readGame 31 = .ok (.aload_n 0, 1) := by decide +kernel
theorem dX4_readGame_32 : decode cX4_readGame 32 = .ok (.getfield 28, 3) := by decide +kernel
theorem dX4_readGame_35 : decode cX4_readGame 35 = .ok (.istore_n 2, 1) := by decide +kernel
theorem dX4_readGame_36 : decode cX4_readGame 36 = .ok (.aload_n 0, 1) := by decide +kernel
theorem dX4_readGame_37 : decode cX4_readGame 37 = .ok (.invokevirtual 31, 3) := by decide +kernel
theorem dX4_readGame_40 : decode cX4_readGame 40 = .ok (.aload_n 0, 1) := by decide +kernel
theorem dX4_readGame_41 : decode cX4_readGame 41 = .ok (.iconst 0, 1) := by decide +kernel
theorem dX4_readGame_42 : decode cX4_readGame 42 = .ok (.aload_n 1, 1) := by decide +kernel
theorem dX4_readGame_43 : decode cX4_readGame 43 = .ok (.getfield 60, 3) := by decide +kernel
theorem dX4_readGame_46 : decode cX4_readGame 46 = .ok (.iconst 1, 1) := by decide +kernel
theorem dX4_readGame_47 : decode cX4_readGame 47 = .ok (.isub, 1) := by decide +kernel
theorem dX4_readGame_48 : decode cX4_readGame 48 = .ok (.invokevirtual 65, 3) := by decide +kernel
theorem dX4_readGame_51 : decode cX4_readGame 51 = .ok (.ifCond .eq 11, 3) := by decide +kernel
theorem dX4_readGame_54 : decode cX4_readGame 54 = .ok (.aload_n 0, 1) := by decide +kernel
theorem dX4_readGame_55 : decode cX4_readGame 55 = .ok (.getfield 28, 3) := by decide +kernel
theorem dX4_readGame_58 : decode cX4_readGame 58 = .ok (.iload_n 2, 1) := by decide +kernel
theorem dX4_readGame_59 : decode cX4_readGame 59 = .ok (.if_icmp .ne 5, 3) := by decide +kernel
theorem dX4_readGame_62 : decode cX4_readGame 62 = .ok (.iconst 0, 1) := by decide +kernel
theorem dX4_readGame_63 : decode cX4_readGame 63 = .ok (.ireturn, 1) := by decide +kernel
theorem dX4_readGame_64 : decode cX4_readGame 64 = .ok (.aload_n 0, 1) := by decide +kernel
theorem dX4_readGame_65 : decode cX4_readGame 65 = .ok (.getfield 28, 3) := by decide +kernel
theorem dX4_readGame_68 : decode cX4_readGame 68 = .ok (.istore_n 3, 1) := by decide +kernel
theorem dX4_readGame_69 : decode cX4_readGame 69 = .ok (.aload_n 0, 1) := by decide +kernel
theorem dX4_readGame_70 : decode cX4_readGame 70 = .ok (.invokevirtual 31, 3) := by decide +kernel
theorem dX4_readGame_73 : decode cX4_readGame 73 = .ok (.aload_n 0, 1) := by decide +kernel
theorem dX4_readGame_74 : decode cX4_readGame 74 = .ok (.ldc 82, 2) := by decide +kernel
theorem dX4_readGame_76 : decode cX4_readGame 76 = .ok (.iconst 1, 1) := by decide +kernel
theorem dX4_readGame_77 : decode cX4_readGame 77 = .ok (.bipush 9, 2) := by decide +kernel
theorem dX4_readGame_79 : decode cX4_readGame 79 = .ok (.iconst 1, 1) := by decide +kernel
theorem dX4_readGame_80 : decode cX4_readGame 80 = .ok (.invokevirtual 71, 3) := by decide +kernel
theorem dX4_readGame_83 : decode cX4_readGame 83 = .ok (.istore 4, 2) := by decide +kernel
theorem dX4_readGame_85 : decode cX4_readGame 85 = .ok (.iload 4, 2) := by decide +kernel
theorem dX4_readGame_87 : decode cX4_readGame 87 = .ok (.ifCond .ge 5, 3) := by decide +kernel
theorem dX4_readGame_90 : decode cX4_readGame 90 = .ok (.iconst 0, 1) := by decide +kernel
theorem dX4_readGame_91 : decode cX4_readGame 91 = .ok (.ireturn, 1) := by decide +kernel
theorem dX4_readGame_92 : decode cX4_readGame 92 = .ok (.aload_n 1, 1) := by decide +kernel
theorem dX4_readGame_93 : decode cX4_readGame 93 = .ok (.iload_n 2, 1) := by decide +kernel
theorem dX4_readGame_94 : decode cX4_readGame 94 = .ok (.iload_n 3, 1) := by decide +kernel
theorem dX4_readGame_95 : decode cX4_readGame 95 = .ok (.iload 4, 2) := by decide +kernel
theorem dX4_readGame_97 : decode cX4_readGame 97 = .ok (.invokevirtual 84, 3) := by decide +kernel
theorem dX4_readGame_100 : decode cX4_readGame 100 = .ok (.pop, 1) := by decide +kernel
theorem dX4_readGame_101 : decode cX4_readGame 101 = .ok (.iconst 1, 1) := by decide +kernel
theorem dX4_readGame_102 : decode cX4_readGame 102 = .ok (.ireturn, 1) := by decide +kernel
set_option maxHeartbeats 4000000 in
set_option maxRecDepth 100000 in
theorem c_X4_readGame (l : Launch) (D : va_G) (cy : Nat → ClassId) (ad adK adV : Nat → Nat) (M : Mm) (o0 : Nat) (a1 : Nat) (res : Mm × Int32) (h : f_X4_readGame M o0 a1 = some res) : Met l yX4_readGame (wU yX4_readGame cX4_readGame 5 (some .boolean)) rmX4_readGame (va_Pc [.ref (ad o0), .ref (ad a1)] (Pre D cy shX ad nX adK adV M)) (va_Qi (fun r (M2 : Mm) => r = res.2 ∧ M2 = res.1) (Pre D cy shX ad nX adK adV) (Aw ad nX)) 0 0 (Aw ad nX) := by
  refine Met.ofW (cc := cX4_readGame) (maxL := 5) (ret := (some .boolean)) (by decide) rfl ?_
  intro p e s m args below meth c s₁ B hml hv
  obtain ⟨hargs, hPre⟩ := hv
  have hx := B.exec
  have hb := B.bytes
  have hr := B.returns
  have hts := atoms_spec (ws := wU yX4_readGame cX4_readGame 5 (some .boolean)) B.pre
  have hq : ∀ w ∈ gW, w.before args s = true := fun w hw => hts w (List.mem_cons_of_mem _ hw)
  have hcm : ∀ w ∈ gW, w ∈ wU yX4_readGame cX4_readGame 5 (some .boolean) := fun w hw => List.mem_cons_of_mem _ hw
  have hown : s.vm.findClass RX4 = some m.cls := findClass_of_methodNamed B.named
  have hlocks := B.notSynchronized
  have hF : CallFix p m c cX4_readGame 5 s args (wU yX4_readGame cX4_readGame 5 (some .boolean)) RX4 := ⟨hx, hb, hml, hown, hts⟩
  have hK := hPre.2.1
  have hZ := hPre.2.2.2
  have hw : Wd D cy shX ad nX (Aw ad nX) s.heap M s.heap [] := ⟨hPre.1, hPre.2.2.1, va_S.rf⟩
  have iw1 : ∀ w ∈ u_ws RX1 TX1 11, w ∈ wU yX4_readGame cX4_readGame 5 (some .boolean) := fun w hw => List.mem_cons_of_mem _ (iX1 w hw)
  have iw4 : ∀ w ∈ u_ws RX4 TX4 6, w ∈ wU yX4_readGame cX4_readGame 5 (some .boolean) := fun w hw => List.mem_cons_of_mem _ (iX4 w hw)
  rw [show entryFrame m args 5 = entryFrame m ([.ref (ad o0), .ref (ad a1)] : List Value).toArray 5 from by rw [hargs]]
  have hl := lv_entry ([.ref (ad o0), .ref (ad a1)]) (n := 5) (Nat.le_of_ble_eq_true rfl)
  rw [lg_entry_eq]
  generalize (lg_sl ([.ref (ad o0), .ref (ad a1)]) ++ List.replicate (5 - (lg_sl ([.ref (ad o0), .ref (ad a1)])).length) Slot.unset).toArray = ls at hl ⊢
  have hl : lv_has ls 5 [(0, .ref (ad o0)), (1, .ref (ad a1))] := hl
  unfold f_X4_readGame at h
  refine lv_aload_n hx hb dX4_readGame_0 rfl (lv_at hl 1 rfl) ?_
  replace h := gd_some h
  obtain ⟨g1, h⟩ := h
  refine r_getI hx hb hts iw1 hown hK hw a1 4 g1 (by decide) rfl (by decide) rfl (hq _ qw197) (fun _ h9 => h9) dX4_readGame_1 ?_
  refine lv_bipush (v := (8 : Int32)) hx hb dX4_readGame_4 (by decide) ?_
  refine lv_icmp_lt (tgt := 11) hx hb dX4_readGame_6 (by decide) (fun c2 => ?_) (fun c2 => ?_)
  · replace h := if_some_t c2 h
    refine lv_aload_n hx hb dX4_readGame_11 rfl (lv_at hl 0 rfl) ?_
    replace h := gd_some h
    obtain ⟨g4, h⟩ := h
    replace h := bd_some h
    obtain ⟨r3, er3, h⟩ := h
    refine r_callVv (As := []) (rest := []) hF (c_X4_goOn l D cy ad adK adV M o0 r3 er3) (gW_goodV hcm qw477 qw474 qw476 qw1 qw66) hdX4_goOn rfl ⟨Nat.le_of_ble_eq_true rfl, Nat.le_of_ble_eq_true rfl⟩ rfl rfl hZ hK hw g4 (by decide) rfl rfl hl.1 rfl (Nat.le_of_ble_eq_true rfl) ⟨Nat.zero_le _, Nat.zero_le _⟩ dX4_readGame_12 (fun H locs hw => ?_)
    refine lv_aload_n hx hb dX4_readGame_15 rfl (lv_at hl 0 rfl) ?_
    refine lv_iconst (v := (0 : Int32)) hx hb dX4_readGame_16 (by decide) ?_
    refine lv_aload_n hx hb dX4_readGame_17 rfl (lv_at hl 1 rfl) ?_
    refine r_getI hx hb hts iw1 hown hK hw a1 3 g1 (by decide) rfl (by decide) rfl (hq _ qw192) (fun _ h9 => h9) dX4_readGame_18 ?_
    refine lv_iconst (v := (1 : Int32)) hx hb dX4_readGame_21 (by decide) ?_
    refine lv_isub hx hb dX4_readGame_22 ?_
    replace h := bd_some h
    obtain ⟨r5, er5, h⟩ := h
    refine r_callVi (As := [.int (0 : Int32), .int ((r3.1.1 a1 3) - (1 : Int32))]) (rest := []) hF (c_X4_isNumber l D cy ad adK adV r3.1 o0 (0 : Int32) ((r3.1.1 a1 3) - (1 : Int32)) r5 er5) (gW_goodV hcm qw565 qw562 qw564 qw7 qw66) hdX4_isNumber rfl ⟨Nat.le_of_ble_eq_true rfl, Nat.le_of_ble_eq_true rfl⟩ rfl rfl hZ hK hw g4 (by decide) rfl rfl hl.1 rfl (Nat.le_of_ble_eq_true rfl) ⟨Nat.zero_le _, Nat.zero_le _⟩ dX4_readGame_23 (fun H locs hw => ?_)
    refine lv_if_ne (tgt := 31) hx hb dX4_readGame_26 (by decide) (fun c6 => ?_) (fun c6 => ?_)
    · replace h := if_some_f c6 h
      refine lv_aload_n hx hb dX4_readGame_31 rfl (lv_at hl 0 rfl) ?_
      refine r_getI hx hb hts iw4 hown hK hw o0 5 g4 (by decide) rfl (by decide) rfl (hq _ qw302) (fun _ h9 => h9) dX4_readGame_32 ?_
      refine lv_istore_n (lv' := [(2, .int (r5.1.1 o0 5)), (0, .ref (ad o0)), (1, .ref (ad a1))]) hx hb dX4_readGame_35 rfl hl (by decide) rfl (fun ls hl => ?_)
      refine lv_aload_n hx hb dX4_readGame_36 rfl (lv_at hl 1 rfl) ?_
      replace h := bd_some h
      obtain ⟨r7, er7, h⟩ := h
      refine r_callVv (As := []) (rest := []) hF (c_X4_goOn l D cy ad adK adV r5.1 o0 r7 er7) (gW_goodV hcm qw477 qw474 qw476 qw1 qw66) hdX4_goOn rfl ⟨Nat.le_of_ble_eq_true rfl, Nat.le_of_ble_eq_true rfl⟩ rfl rfl hZ hK hw g4 (by decide) rfl rfl hl.1 rfl (Nat.le_of_ble_eq_true rfl) ⟨Nat.zero_le _, Nat.zero_le _⟩ dX4_readGame_37 (fun H locs hw => ?_)
      refine lv_aload_n hx hb dX4_readGame_40 rfl (lv_at hl 1 rfl) ?_
      refine lv_iconst (v := (0 : Int32)) hx hb dX4_readGame_41 (by decide) ?_
      refine lv_aload_n hx hb dX4_readGame_42 rfl (lv_at hl 2 rfl) ?_
      refine r_getI hx hb hts iw1 hown hK hw a1 3 g1 (by decide) rfl (by decide) rfl (hq _ qw192) (fun _ h9 => h9) dX4_readGame_43 ?_
      refine lv_iconst (v := (1 : Int32)) hx hb dX4_readGame_46 (by decide) ?_
      refine lv_isub hx hb dX4_readGame_47 ?_
      replace h := bd_some h
      obtain ⟨r8, er8, h⟩ := h
      refine r_callVi (As := [.int (0 : Int32), .int ((r7.1.1 a1 3) - (1 : Int32))]) (rest := []) hF (c_X4_isNumber l D cy ad adK adV r7.1 o0 (0 : Int32) ((r7.1.1 a1 3) - (1 : Int32)) r8 er8) (gW_goodV hcm qw565 qw562 qw564 qw7 qw66) hdX4_isNumber rfl ⟨Nat.le_of_ble_eq_true rfl, Nat.le_of_ble_eq_true rfl⟩ rfl rfl hZ hK hw g4 (by decide) rfl rfl hl.1 rfl (Nat.le_of_ble_eq_true rfl) ⟨Nat.zero_le _, Nat.zero_le _⟩ dX4_readGame_48 (fun H locs hw => ?_)
      refine lv_if_eq (tgt := 62) hx hb dX4_readGame_51 (by decide) (fun c9 => ?_) (fun c9 => ?_)
      · replace h := if_some_t c9 h
        refine lv_iconst (v := (0 : Int32)) hx hb dX4_readGame_62 (by decide) ?_
        exact r_iret hx hb hr rfl hlocks hZ hK hw h dX4_readGame_63
      · replace h := if_some_f c9 h
        refine lv_aload_n hx hb dX4_readGame_54 rfl (lv_at hl 1 rfl) ?_
        refine r_getI hx hb hts iw4 hown hK hw o0 5 g4 (by decide) rfl (by decide) rfl (hq _ qw302) (fun _ h9 => h9) dX4_readGame_55 ?_
        refine lv_iload_n hx hb dX4_readGame_58 rfl (lv_at hl 0 rfl) ?_
        refine lv_icmp_ne (tgt := 64) hx hb dX4_readGame_59 (by decide) (fun c10 => ?_) (fun c10 => ?_)
        · replace h := if_some_f c10 h
          refine lv_aload_n hx hb dX4_readGame_64 rfl (lv_at hl 1 rfl) ?_
          refine r_getI hx hb hts iw4 hown hK hw o0 5 g4 (by decide) rfl (by decide) rfl (hq _ qw302) (fun _ h9 => h9) dX4_readGame_65 ?_
          refine lv_istore_n (lv' := [(3, .int (r8.1.1 o0 5)), (2, .int (r5.1.1 o0 5)), (0, .ref (ad o0)), (1, .ref (ad a1))]) hx hb dX4_readGame_68 rfl hl (by decide) rfl (fun ls hl => ?_)
          refine lv_aload_n hx hb dX4_readGame_69 rfl (lv_at hl 2 rfl) ?_
          replace h := bd_some h
          obtain ⟨r11, er11, h⟩ := h
          refine r_callVv (As := []) (rest := []) hF (c_X4_goOn l D cy ad adK adV r8.1 o0 r11 er11) (gW_goodV hcm qw477 qw474 qw476 qw1 qw66) hdX4_goOn rfl ⟨Nat.le_of_ble_eq_true rfl, Nat.le_of_ble_eq_true rfl⟩ rfl rfl hZ hK hw g4 (by decide) rfl rfl hl.1 rfl (Nat.le_of_ble_eq_true rfl) ⟨Nat.zero_le _, Nat.zero_le _⟩ dX4_readGame_70 (fun H locs hw => ?_)
          refine lv_aload_n hx hb dX4_readGame_73 rfl (lv_at hl 2 rfl) ?_
          refine va_ldcS hx hb hown (hZ.2.1 _ (List.mem_of_getElem? (i := 9) rfl)) dX4_readGame_74 ?_
          refine lv_iconst (v := (1 : Int32)) hx hb dX4_readGame_76 (by decide) ?_
          refine lv_bipush (v := (9 : Int32)) hx hb dX4_readGame_77 (by decide) ?_
          refine lv_iconst (v := (1 : Int32)) hx hb dX4_readGame_79 (by decide) ?_
          replace h := bd_some h
          obtain ⟨r12, er12, h⟩ := h
          refine r_callVi (As := [.ref (adK 9), .int (1 : Int32), .int (9 : Int32), .int (1 : Int32)]) (rest := []) hF (c_X4_readPerhaps l D cy ad adK adV r11.1 o0 9 (1 : Int32) (9 : Int32) (1 : Int32) r12 er12) (gW_goodV hcm qw570 qw567 qw569 qw8 qw66) hdX4_readPerhaps rfl ⟨Nat.le_of_ble_eq_true rfl, Nat.le_of_ble_eq_true rfl⟩ rfl rfl hZ hK hw g4 (by decide) rfl rfl hl.1 rfl (Nat.le_of_ble_eq_true rfl) ⟨Nat.zero_le _, Nat.zero_le _⟩ dX4_readGame_80 (fun H locs hw => ?_)
          refine lv_istore (lv' := [(4, .int r12.2), (3, .int (r8.1.1 o0 5)), (2, .int (r5.1.1 o0 5)), (0, .ref (ad o0)), (1, .ref (ad a1))]) hx hb dX4_readGame_83 hl (by decide) rfl (fun ls hl => ?_)
          refine lv_iload hx hb dX4_readGame_85 (lv_at hl 0 rfl) ?_
          refine lv_if_ge (tgt := 92) hx hb dX4_readGame_87 (by decide) (fun c13 => ?_) (fun c13 => ?_)
          · replace h := if_some_t c13 h
            refine lv_aload_n hx hb dX4_readGame_92 rfl (lv_at hl 4 rfl) ?_
            refine lv_iload_n hx hb dX4_readGame_93 rfl (lv_at hl 2 rfl) ?_
            refine lv_iload_n hx hb dX4_readGame_94 rfl (lv_at hl 1 rfl) ?_
            refine lv_iload hx hb dX4_readGame_95 (lv_at hl 0 rfl) ?_
            replace h := bd_some h
            obtain ⟨r14, er14, h⟩ := h
            refine r_callVi (As := [.int (r5.1.1 o0 5), .int (r8.1.1 o0 5), .int r12.2]) (rest := []) hF (c_X1_addGame l D cy ad adK adV r12.1 a1 (r5.1.1 o0 5) (r8.1.1 o0 5) r12.2 r14 er14) (gW_goodV hcm qw422 qw578 qw420 qw421 qw62) hdX1_addGame rfl ⟨Nat.le_of_ble_eq_true rfl, Nat.le_of_ble_eq_true rfl⟩ rfl rfl hZ hK hw g1 (by decide) rfl rfl hl.1 rfl (Nat.le_of_ble_eq_true rfl) ⟨Nat.zero_le _, Nat.zero_le _⟩ dX4_readGame_97 (fun H locs hw => ?_)
            refine lv_pop hx hb dX4_readGame_100 rfl ?_
            refine lv_iconst (v := (1 : Int32)) hx hb dX4_readGame_101 (by decide) ?_
            exact r_iret hx hb hr rfl hlocks hZ hK hw h dX4_readGame_102
          · replace h := if_some_f c13 h
            refine lv_iconst (v := (0 : Int32)) hx hb dX4_readGame_90 (by decide) ?_
            exact r_iret hx hb hr rfl hlocks hZ hK hw h dX4_readGame_91
        · replace h := if_some_t c10 h
          refine lv_iconst (v := (0 : Int32)) hx hb dX4_readGame_62 (by decide) ?_
          exact r_iret hx hb hr rfl hlocks hZ hK hw h dX4_readGame_63
    · replace h := if_some_t c6 h
      refine lv_iconst (v := (0 : Int32)) hx hb dX4_readGame_29 (by decide) ?_
      exact r_iret hx hb hr rfl hlocks hZ hK hw h dX4_readGame_30
  · replace h := if_some_f c2 h
    refine lv_iconst (v := (0 : Int32)) hx hb dX4_readGame_9 (by decide) ?_
    exact r_iret hx hb hr rfl hlocks hZ hK hw h dX4_readGame_10
theorem dX4_readLaw_0 : decode cX4_readLaw 0 = .ok (.aload_n 0, 1) := by decide +kernel
theorem dX4_readLaw_1 : decode cX4_readLaw 1 = .ok (.invokevirtual 31, 3) := by decide +kernel
theorem dX4_readLaw_4 : decode cX4_readLaw 4 = .ok (.aload_n 0, 1) := by decide +kernel
theorem dX4_readLaw_5 : decode cX4_readLaw 5 = .ok (.iconst 1, 1) := by decide +kernel
theorem dX4_readLaw_6 : decode cX4_readLaw 6 = .ok (.iconst 3, 1) := by decide +kernel
theorem dX4_readLaw_7 : decode cX4_readLaw 7 = .ok (.invokevirtual 65, 3) := by decide +kernel
theorem dX4_readLaw_10 : decode cX4_readLaw 10 = .ok (.ifCond .ne 5, 3) := by decide +kernel
theorem dX4_readLaw_13 : decode cX4_readLaw 13 = .ok (.iconst 0, 1) := by decide +kernel
theorem dX4_readLaw_14 : decode cX4_readLaw 14 = .ok (.ireturn, 1) := by decide +kernel
theorem dX4_readLaw_15 : decode cX4_readLaw 15 = .ok (.aload_n 1, 1) := by decide +kernel
theorem dX4_readLaw_16 : decode cX4_readLaw 16 = .ok (.aload_n 0, 1) := by decide +kernel
theorem dX4_readLaw_17 : decode cX4_readLaw 17 = .ok (.getfield 28, 3) := by decide +kernel
theorem dX4_readLaw_20 : decode cX4_readLaw 20 = .ok (.putfield 87, 3) := by decide +kernel
theorem dX4_readLaw_23 : decode cX4_readLaw 23 = .ok (.aload_n 0, 1) := by decide +kernel
theorem dX4_readLaw_24 : decode cX4_readLaw 24 = .ok (.invokevirtual 31, 3) := by decide +kernel
theorem dX4_readLaw_27 : decode cX4_readLaw 27 = .ok (.iconst 1, 1) := by decide +kernel
theorem dX4_readLaw_28 : decode cX4_readLaw 28 = .ok (.ireturn, 1) := by decide +kernel
set_option maxHeartbeats 4000000 in
set_option maxRecDepth 100000 in
theorem c_X4_readLaw (l : Launch) (D : va_G) (cy : Nat → ClassId) (ad adK adV : Nat → Nat) (M : Mm) (o0 : Nat) (a1 : Nat) (res : Mm × Int32) (h : f_X4_readLaw M o0 a1 = some res) : Met l yX4_readLaw (wU yX4_readLaw cX4_readLaw 2 (some .boolean)) rmX4_readLaw (va_Pc [.ref (ad o0), .ref (ad a1)] (Pre D cy shX ad nX adK adV M)) (va_Qi (fun r (M2 : Mm) => r = res.2 ∧ M2 = res.1) (Pre D cy shX ad nX adK adV) (Aw ad nX)) 0 0 (Aw ad nX) := by
  refine Met.ofW (cc := cX4_readLaw) (maxL := 2) (ret := (some .boolean)) (by decide) rfl ?_
  intro p e s m args below meth c s₁ B hml hv
  obtain ⟨hargs, hPre⟩ := hv
  have hx := B.exec
  have hb := B.bytes
  have hr := B.returns
  have hts := atoms_spec (ws := wU yX4_readLaw cX4_readLaw 2 (some .boolean)) B.pre
  have hq : ∀ w ∈ gW, w.before args s = true := fun w hw => hts w (List.mem_cons_of_mem _ hw)
  have hcm : ∀ w ∈ gW, w ∈ wU yX4_readLaw cX4_readLaw 2 (some .boolean) := fun w hw => List.mem_cons_of_mem _ hw
  have hown : s.vm.findClass RX4 = some m.cls := findClass_of_methodNamed B.named
  have hlocks := B.notSynchronized
  have hF : CallFix p m c cX4_readLaw 2 s args (wU yX4_readLaw cX4_readLaw 2 (some .boolean)) RX4 := ⟨hx, hb, hml, hown, hts⟩
  have hK := hPre.2.1
  have hZ := hPre.2.2.2
  have hw : Wd D cy shX ad nX (Aw ad nX) s.heap M s.heap [] := ⟨hPre.1, hPre.2.2.1, va_S.rf⟩
  have iw1 : ∀ w ∈ u_ws RX1 TX1 11, w ∈ wU yX4_readLaw cX4_readLaw 2 (some .boolean) := fun w hw => List.mem_cons_of_mem _ (iX1 w hw)
  have iw4 : ∀ w ∈ u_ws RX4 TX4 6, w ∈ wU yX4_readLaw cX4_readLaw 2 (some .boolean) := fun w hw => List.mem_cons_of_mem _ (iX4 w hw)
  rw [show entryFrame m args 2 = entryFrame m ([.ref (ad o0), .ref (ad a1)] : List Value).toArray 2 from by rw [hargs]]
  have hl := lv_entry ([.ref (ad o0), .ref (ad a1)]) (n := 2) (Nat.le_of_ble_eq_true rfl)
  rw [lg_entry_eq]
  generalize (lg_sl ([.ref (ad o0), .ref (ad a1)]) ++ List.replicate (2 - (lg_sl ([.ref (ad o0), .ref (ad a1)])).length) Slot.unset).toArray = ls at hl ⊢
  have hl : lv_has ls 2 [(0, .ref (ad o0)), (1, .ref (ad a1))] := hl
  unfold f_X4_readLaw at h
  refine lv_aload_n hx hb dX4_readLaw_0 rfl (lv_at hl 0 rfl) ?_
  replace h := gd_some h
  obtain ⟨g2, h⟩ := h
  replace h := bd_some h
  obtain ⟨r1, er1, h⟩ := h
  refine r_callVv (As := []) (rest := []) hF (c_X4_goOn l D cy ad adK adV M o0 r1 er1) (gW_goodV hcm qw477 qw474 qw476 qw1 qw66) hdX4_goOn rfl ⟨Nat.le_of_ble_eq_true rfl, Nat.le_of_ble_eq_true rfl⟩ rfl rfl hZ hK hw g2 (by decide) rfl rfl hl.1 rfl (Nat.le_of_ble_eq_true rfl) ⟨Nat.zero_le _, Nat.zero_le _⟩ dX4_readLaw_1 (fun H locs hw => ?_)
  refine lv_aload_n hx hb dX4_readLaw_4 rfl (lv_at hl 0 rfl) ?_
  refine lv_iconst (v := (1 : Int32)) hx hb dX4_readLaw_5 (by decide) ?_
  refine lv_iconst (v := (3 : Int32)) hx hb dX4_readLaw_6 (by decide) ?_
  replace h := bd_some h
  obtain ⟨r3, er3, h⟩ := h
  refine r_callVi (As := [.int (1 : Int32), .int (3 : Int32)]) (rest := []) hF (c_X4_isNumber l D cy ad adK adV r1.1 o0 (1 : Int32) (3 : Int32) r3 er3) (gW_goodV hcm qw565 qw562 qw564 qw7 qw66) hdX4_isNumber rfl ⟨Nat.le_of_ble_eq_true rfl, Nat.le_of_ble_eq_true rfl⟩ rfl rfl hZ hK hw g2 (by decide) rfl rfl hl.1 rfl (Nat.le_of_ble_eq_true rfl) ⟨Nat.zero_le _, Nat.zero_le _⟩ dX4_readLaw_7 (fun H locs hw => ?_)
  refine lv_if_ne (tgt := 15) hx hb dX4_readLaw_10 (by decide) (fun c4 => ?_) (fun c4 => ?_)
  · replace h := if_some_f c4 h
    refine lv_aload_n hx hb dX4_readLaw_15 rfl (lv_at hl 1 rfl) ?_
    refine lv_aload_n hx hb dX4_readLaw_16 rfl (lv_at hl 0 rfl) ?_
    refine r_getI hx hb hts iw4 hown hK hw o0 5 g2 (by decide) rfl (by decide) rfl (hq _ qw302) (fun _ h9 => h9) dX4_readLaw_17 ?_
    replace h := gd_some h
    obtain ⟨g5, h⟩ := h
    refine r_putI hx hb hts iw1 tyX1 tyX1_ok nmX1 hown hK hw a1 6 g5 (by decide) rfl (by decide) rfl (hq _ qw202) (fun _ h9 => h9) rfl rfl rfl dX4_readLaw_20 (fun H locs hw => ?_)
    replace h := lt_some h
    obtain ⟨M6, eM6, h⟩ := h
    rw [← eM6] at hw
    refine lv_aload_n hx hb dX4_readLaw_23 rfl (lv_at hl 0 rfl) ?_
    replace h := bd_some h
    obtain ⟨r7, er7, h⟩ := h
    refine r_callVv (As := []) (rest := []) hF (c_X4_goOn l D cy ad adK adV M6 o0 r7 er7) (gW_goodV hcm qw477 qw474 qw476 qw1 qw66) hdX4_goOn rfl ⟨Nat.le_of_ble_eq_true rfl, Nat.le_of_ble_eq_true rfl⟩ rfl rfl hZ hK hw g2 (by decide) rfl rfl hl.1 rfl (Nat.le_of_ble_eq_true rfl) ⟨Nat.zero_le _, Nat.zero_le _⟩ dX4_readLaw_24 (fun H locs hw => ?_)
    refine lv_iconst (v := (1 : Int32)) hx hb dX4_readLaw_27 (by decide) ?_
    exact r_iret hx hb hr rfl hlocks hZ hK hw h dX4_readLaw_28
  · replace h := if_some_t c4 h
    refine lv_iconst (v := (0 : Int32)) hx hb dX4_readLaw_13 (by decide) ?_
    exact r_iret hx hb hr rfl hlocks hZ hK hw h dX4_readLaw_14

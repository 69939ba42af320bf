theorem dX6_finding_0 : decode cX6_finding 0 = .ok (.aload_n 0, 1) := by decide +kernel
theorem dX6_finding_1 : decode cX6_finding 1 = .ok (.getfield 47, 3) := by decide +kernel
theorem dX6_finding_4 : decode cX6_finding 4 = .ok (.iload_n 1, 1) := by decide +kernel
theorem dX6_finding_5 : decode cX6_finding 5 = .ok (.dup2, 1) := by decide +kernel
theorem dX6_finding_6 : decode cX6_finding 6 = .ok (.iaload, 1) := by decide +kernel
theorem dX6_finding_7 : decode cX6_finding 7 = .ok (.iconst 1, 1) := by decide +kernel
theorem dX6_finding_8 : decode cX6_finding 8 = .ok (.iadd, 1) := by decide +kernel
theorem dX6_finding_9 : decode cX6_finding 9 = .ok (.iastore, 1) := by decide +kernel
theorem dX6_finding_10 : decode cX6_finding 10 = .ok (.ldc_w 296, 3) := by decide +kernel
theorem dX6_finding_13 : decode cX6_finding 13 = .ok (.iload_n 1, 1) := by decide +kernel
theorem dX6_finding_14 : decode cX6_finding 14 = .ok (.isub, 1) := by decide +kernel
theorem dX6_finding_15 : decode cX6_finding 15 = .ok (.ireturn, 1) := by decide +kernel
set_option maxHeartbeats 4000000 in
set_option maxRecDepth 100000 in
theorem c_X6_finding (l : Launch) (D : va_G) (cy : Nat → ClassId) (ad adK adV : Nat → Nat) (M : Mm) (o0 : Nat) (a1 : Int32) (res : Mm × Int32) (h : f_X6_finding M o0 a1 = some res) : Met l yX6_finding (wU yX6_finding cX6_finding 2 (some .int)) rmX6_finding (va_Pc [.ref (ad o0), .int a1] (Pre D cy shX ad nX adK adV M)) (va_Qi (fun r (M2 : Mm) => r = res.2 ∧ M2 = res.1) (Pre D cy shX ad nX adK adV) (Aw ad nX)) 0 0 (Aw ad nX) := by
  refine Met.ofW (cc := cX6_finding) (maxL := 2) (ret := (some .int)) (by decide) rfl ?_
  intro p e s m args below meth c s₁ B hml hv
  obtain ⟨hargs, hPre⟩ := hv
  have hx := B.exec
  have hb := B.bytes
  have hr := B.returns
  have hts := atoms_spec (ws := wU yX6_finding cX6_finding 2 (some .int)) B.pre
  have hq : ∀ w ∈ gW, w.before args s = true := fun w hw => hts w (List.mem_cons_of_mem _ hw)
  have hcm : ∀ w ∈ gW, w ∈ wU yX6_finding cX6_finding 2 (some .int) := fun w hw => List.mem_cons_of_mem _ hw
  have hown : s.vm.findClass RX6 = some m.cls := findClass_of_methodNamed B.named
  have hlocks := B.notSynchronized
  have hF : CallFix p m c cX6_finding 2 s args (wU yX6_finding cX6_finding 2 (some .int)) RX6 := ⟨hx, hb, hml, hown, hts⟩
  have hK := hPre.2.1
  have hZ := hPre.2.2.2
  have hw : Wd D cy shX ad nX (Aw ad nX) s.heap M s.heap [] := ⟨hPre.1, hPre.2.2.1, va_S.rf⟩
  have iw6 : ∀ w ∈ u_ws RX6 TX6 8, w ∈ wU yX6_finding cX6_finding 2 (some .int) := fun w hw => List.mem_cons_of_mem _ (iX6 w hw)
  rw [show entryFrame m args 2 = entryFrame m ([.ref (ad o0), .int a1] : List Value).toArray 2 from by rw [hargs]]
  have hl := lv_entry ([.ref (ad o0), .int a1]) (n := 2) (Nat.le_of_ble_eq_true rfl)
  rw [lg_entry_eq]
  generalize (lg_sl ([.ref (ad o0), .int a1]) ++ List.replicate (2 - (lg_sl ([.ref (ad o0), .int a1])).length) Slot.unset).toArray = ls at hl ⊢
  have hl : lv_has ls 2 [(0, .ref (ad o0)), (1, .int a1)] := hl
  unfold f_X6_finding at h
  refine lv_aload_n hx hb dX6_finding_0 rfl (lv_at hl 0 rfl) ?_
  replace h := gd_some h
  obtain ⟨g1, h⟩ := h
  replace h := bd_some h
  obtain ⟨q2, eq2, h⟩ := h
  refine r_getR hx hb hts iw6 hown hK hw o0 7 g1 (by decide) rfl (by decide) rfl (hq _ qw342) (fun _ h9 => h9) dX6_finding_1 eq2 ?_
  refine lv_iload_n hx hb dX6_finding_4 rfl (lv_at hl 1 rfl) ?_
  refine lv_dup2_11 hx hb dX6_finding_5 rfl rfl ?_
  replace h := gd_some h
  obtain ⟨g3, h⟩ := h
  refine r_iald hx hb hK hw q2 g3 dX6_finding_6 ?_
  refine lv_iconst (v := (1 : Int32)) hx hb dX6_finding_7 (by decide) ?_
  refine lv_iadd hx hb dX6_finding_8 ?_
  replace h := gd_some h
  obtain ⟨g4, h⟩ := h
  refine r_iast hx hb hK hw q2 g4 dX6_finding_9 (fun H locs hw => ?_)
  replace h := lt_some h
  obtain ⟨M5, eM5, h⟩ := h
  rw [← eM5] at hw
  refine lv_ldcw (v := (-1000001 : Int32)) hx hb hown (hq _ qw374) dX6_finding_10 ?_
  refine lv_iload_n hx hb dX6_finding_13 rfl (lv_at hl 1 rfl) ?_
  refine lv_isub hx hb dX6_finding_14 ?_
  exact r_iret hx hb hr rfl hlocks hZ hK hw h dX6_finding_15
theorem dX6_isKind_0 : decode cX6_isKind 0 = .ok (.iload_n 0, 1) := by decide +kernel
theorem dX6_isKind_1 : decode cX6_isKind 1 = .ok (.ifCond .lt 13, 3) := by decide +kernel
theorem dX6_isKind_4 : decode cX6_isKind 4 = .ok (.iload_n 0, 1) := by decide +kernel
theorem dX6_isKind_5 : decode cX6_isKind 5 = .ok (.bipush 6, 2) := by decide +kernel
theorem dX6_isKind_7 : decode cX6_isKind 7 = .ok (.if_icmp .gt 7, 3) := by decide +kernel
theorem dX6_isKind_10 : decode cX6_isKind 10 = .ok (.iconst 1, 1) := by decide +kernel
theorem dX6_isKind_11 : decode cX6_isKind 11 = .ok (.goto 4, 3) := by decide +kernel
theorem dX6_isKind_14 : decode cX6_isKind 14 = .ok (.iconst 0, 1) := by decide +kernel
theorem dX6_isKind_15 : decode cX6_isKind 15 = .ok (.ireturn, 1) := by decide +kernel
set_option maxHeartbeats 4000000 in
set_option maxRecDepth 100000 in
theorem c_X6_isKind (l : Launch) (D : va_G) (cy : Nat → ClassId) (ad adK adV : Nat → Nat) (M : Mm) (a0 : Int32) (res : Mm × Int32) (h : f_X6_isKind M a0 = some res) : Met l yX6_isKind (wU yX6_isKind cX6_isKind 1 (some .boolean)) rmX6_isKind (va_Pc [.int a0] (Pre D cy shX ad nX adK adV M)) (va_Qi (fun r (M2 : Mm) => r = res.2 ∧ M2 = res.1) (Pre D cy shX ad nX adK adV) (Aw ad nX)) 0 0 (Aw ad nX) := by
  refine Met.ofW (cc := cX6_isKind) (maxL := 1) (ret := (some .boolean)) (by decide) rfl ?_
  intro p e s m args below meth c s₁ B hml hv
  obtain ⟨hargs, hPre⟩ := hv
  have hx := B.exec
  have hb := B.bytes
  have hr := B.returns
  have hts := atoms_spec (ws := wU yX6_isKind cX6_isKind 1 (some .boolean)) B.pre
  have hq : ∀ w ∈ gW, w.before args s = true := fun w hw => hts w (List.mem_cons_of_mem _ hw)
  have hcm : ∀ w ∈ gW, w ∈ wU yX6_isKind cX6_isKind 1 (some .boolean) := fun w hw => List.mem_cons_of_mem _ hw
  have hown : s.vm.findClass RX6 = some m.cls := findClass_of_methodNamed B.named
  have hlocks := B.notSynchronized
  have hF : CallFix p m c cX6_isKind 1 s args (wU yX6_isKind cX6_isKind 1 (some .boolean)) RX6 := ⟨hx, hb, hml, hown, hts⟩
  have hK := hPre.2.1
  have hZ := hPre.2.2.2
  have hw : Wd D cy shX ad nX (Aw ad nX) s.heap M s.heap [] := ⟨hPre.1, hPre.2.2.1, va_S.rf⟩
  rw [show entryFrame m args 1 = entryFrame m ([.int a0] : List Value).toArray 1 from by rw [hargs]]
  have hl := lv_entry ([.int a0]) (n := 1) (Nat.le_of_ble_eq_true rfl)
  rw [lg_entry_eq]
  generalize (lg_sl ([.int a0]) ++ List.replicate (1 - (lg_sl ([.int a0])).length) Slot.unset).toArray = ls at hl ⊢
  have hl : lv_has ls 1 [(0, .int a0)] := hl
  unfold f_X6_isKind at h
  refine lv_iload_n hx hb dX6_isKind_0 rfl (lv_at hl 0 rfl) ?_
  refine lv_if_lt (tgt := 14) hx hb dX6_isKind_1 (by decide) (fun c1 => ?_) (fun c1 => ?_)
  · replace h := if_some_t c1 h
    refine lv_iconst (v := (0 : Int32)) hx hb dX6_isKind_14 (by decide) ?_
    exact r_iret hx hb hr rfl hlocks hZ hK hw h dX6_isKind_15
  · replace h := if_some_f c1 h
    refine lv_iload_n hx hb dX6_isKind_4 rfl (lv_at hl 0 rfl) ?_
    refine lv_bipush (v := (6 : Int32)) hx hb dX6_isKind_5 (by decide) ?_
    refine lv_icmp_gt (tgt := 14) hx hb dX6_isKind_7 (by decide) (fun c2 => ?_) (fun c2 => ?_)
    · replace h := if_some_t c2 h
      refine lv_iconst (v := (0 : Int32)) hx hb dX6_isKind_14 (by decide) ?_
      exact r_iret hx hb hr rfl hlocks hZ hK hw h dX6_isKind_15
    · replace h := if_some_f c2 h
      refine lv_iconst (v := (1 : Int32)) hx hb dX6_isKind_10 (by decide) ?_
      refine lv_goto (tgt := 15) hx hb dX6_isKind_11 (by decide) ?_
      exact r_iret hx hb hr rfl hlocks hZ hK hw h dX6_isKind_15
theorem dX6_isStrength_0 : decode cX6_isStrength 0 = .ok (.iload_n 0, 1) := by decide +kernel
theorem dX6_isStrength_1 : decode cX6_isStrength 1 = .ok (.iconst 1, 1) := by decide +kernel
theorem dX6_isStrength_2 : decode cX6_isStrength 2 = .ok (.if_icmp .lt 13, 3) := by decide +kernel
theorem dX6_isStrength_5 : decode cX6_isStrength 5 = .ok (.iload_n 0, 1) := by decide +kernel
theorem dX6_isStrength_6 : decode cX6_isStrength 6 = .ok (.bipush 9, 2) := by decide +kernel
theorem dX6_isStrength_8 : decode cX6_isStrength 8 = .ok (.if_icmp .gt 7, 3) := by decide +kernel
theorem dX6_isStrength_11 : decode cX6_isStrength 11 = .ok (.iconst 1, 1) := by decide +kernel
theorem dX6_isStrength_12 : decode cX6_isStrength 12 = .ok (.goto 4, 3) := by decide +kernel
theorem dX6_isStrength_15 : decode cX6_isStrength 15 = .ok (.iconst 0, 1) := by decide +kernel
theorem dX6_isStrength_16 : decode cX6_isStrength 16 = .ok (.ireturn, 1) := by decide +kernel
set_option maxHeartbeats 4000000 in
set_option maxRecDepth 100000 in
theorem c_X6_isStrength (l : Launch) (D : va_G) (cy : Nat → ClassId) (ad adK adV : Nat → Nat) (M : Mm) (a0 : Int32) (res : Mm × Int32) (h : f_X6_isStrength M a0 = some res) : Met l yX6_isStrength (wU yX6_isStrength cX6_isStrength 1 (some .boolean)) rmX6_isStrength (va_Pc [.int a0] (Pre D cy shX ad nX adK adV M)) (va_Qi (fun r (M2 : Mm) => r = res.2 ∧ M2 = res.1) (Pre D cy shX ad nX adK adV) (Aw ad nX)) 0 0 (Aw ad nX) := by
  refine Met.ofW (cc := cX6_isStrength) (maxL := 1) (ret := (some .boolean)) (by decide) rfl ?_
  intro p e s m args below meth c s₁ B hml hv
  obtain ⟨hargs, hPre⟩ := hv
  have hx := B.exec
  have hb := B.bytes
  have hr := B.returns
  have hts := atoms_spec (ws := wU yX6_isStrength cX6_isStrength 1 (some .boolean)) B.pre
  have hq : ∀ w ∈ gW, w.before args s = true := fun w hw => hts w (List.mem_cons_of_mem _ hw)
  have hcm : ∀ w ∈ gW, w ∈ wU yX6_isStrength cX6_isStrength 1 (some .boolean) := fun w hw => List.mem_cons_of_mem _ hw
  have hown : s.vm.findClass RX6 = some m.cls := findClass_of_methodNamed B.named
  have hlocks := B.notSynchronized
  have hF : CallFix p m c cX6_isStrength 1 s args (wU yX6_isStrength cX6_isStrength 1 (some .boolean)) RX6 := ⟨hx, hb, hml, hown, hts⟩
  have hK := hPre.2.1
  have hZ := hPre.2.2.2
  have hw : Wd D cy shX ad nX (Aw ad nX) s.heap M s.heap [] := ⟨hPre.1, hPre.2.2.1, va_S.rf⟩
  rw [show entryFrame m args 1 = entryFrame m ([.int a0] : List Value).toArray 1 from by rw [hargs]]
  have hl := lv_entry ([.int a0]) (n := 1) (Nat.le_of_ble_eq_true rfl)
  rw [lg_entry_eq]
  generalize (lg_sl ([.int a0]) ++ List.replicate (1 - (lg_sl ([.int a0])).length) Slot.unset).toArray = ls at hl ⊢
  have hl : lv_has ls 1 [(0, .int a0)] := hl
  unfold f_X6_isStrength at h
  refine lv_iload_n hx hb dX6_isStrength_0 rfl (lv_at hl 0 rfl) ?_
  refine lv_iconst (v := (1 : Int32)) hx hb dX6_isStrength_1 (by decide) ?_
  refine lv_icmp_lt (tgt := 15) hx hb dX6_isStrength_2 (by decide) (fun c1 => ?_) (fun c1 => ?_)
  · replace h := if_some_t c1 h
    refine lv_iconst (v := (0 : Int32)) hx hb dX6_isStrength_15 (by decide) ?_
    exact r_iret hx hb hr rfl hlocks hZ hK hw h dX6_isStrength_16
  · replace h := if_some_f c1 h
    refine lv_iload_n hx hb dX6_isStrength_5 rfl (lv_at hl 0 rfl) ?_
    refine lv_bipush (v := (9 : Int32)) hx hb dX6_isStrength_6 (by decide) ?_
    refine lv_icmp_gt (tgt := 15) hx hb dX6_isStrength_8 (by decide) (fun c2 => ?_) (fun c2 => ?_)
    · replace h := if_some_t c2 h
      refine lv_iconst (v := (0 : Int32)) hx hb dX6_isStrength_15 (by decide) ?_
      exact r_iret hx hb hr rfl hlocks hZ hK hw h dX6_isStrength_16
    · replace h := if_some_f c2 h
      refine lv_iconst (v := (1 : Int32)) hx hb dX6_isStrength_11 (by decide) ?_
      refine lv_goto (tgt := 16) hx hb dX6_isStrength_12 (by decide) ?_
      exact r_iret hx hb hr rfl hlocks hZ hK hw h dX6_isStrength_16
theorem dX6_side_0 : decode cX6_side 0 = .ok (.iload_n 1, 1) := by decide +kernel
theorem dX6_side_1 : decode cX6_side 1 = .ok (.invokestatic 52, 3) := by decide +kernel
theorem dX6_side_4 : decode cX6_side 4 = .ok (.ifCond .eq 10, 3) := by decide +kernel
theorem dX6_side_7 : decode cX6_side 7 = .ok (.iload_n 2, 1) := by decide +kernel
theorem dX6_side_8 : decode cX6_side 8 = .ok (.invokestatic 56, 3) := by decide +kernel
theorem dX6_side_11 : decode cX6_side 11 = .ok (.ifCond .ne 9, 3) := by decide +kernel
theorem dX6_side_14 : decode cX6_side 14 = .ok (.aload_n 0, 1) := by decide +kernel
theorem dX6_side_15 : decode cX6_side 15 = .ok (.iconst 0, 1) := by decide +kernel
theorem dX6_side_16 : decode cX6_side 16 = .ok (.invokevirtual 59, 3) := by decide +kernel
theorem dX6_side_19 : decode cX6_side 19 = .ok (.ireturn, 1) := by decide +kernel
theorem dX6_side_20 : decode cX6_side 20 = .ok (.aload_n 0, 1) := by decide +kernel
theorem dX6_side_21 : decode cX6_side 21 = .ok (.getfield 10, 3) := by decide +kernel
theorem dX6_side_24 : decode cX6_side 24 = .ok (.getfield 63, 3) := by decide +kernel
theorem dX6_side_27 : decode cX6_side 27 = .ok (.bipush 6, 2) := by decide +kernel
theorem dX6_side_29 : decode cX6_side 29 = .ok (.if_icmp .lt 9, 3) := by decide +kernel
theorem dX6_side_32 : decode cX6_side 32 = .ok (.aload_n 0, 1) := by decide +kernel
theorem dX6_side_33 : decode cX6_side 33 = .ok (.iconst 1, 1) := by decide +kernel
theorem dX6_side_34 : decode cX6_side 34 = .ok (.invokevirtual 59, 3) := by decide +kernel
theorem dX6_side_37 : decode cX6_side 37 = .ok (.ireturn, 1) := by decide +kernel
theorem dX6_side_38 : decode cX6_side 38 = .ok (.aload_n 0, 1) := by decide +kernel
theorem dX6_side_39 : decode cX6_side 39 = .ok (.getfield 10, 3) := by decide +kernel
theorem dX6_side_42 : decode cX6_side 42 = .ok (.iload_n 1, 1) := by decide +kernel
theorem dX6_side_43 : decode cX6_side 43 = .ok (.iload_n 2, 1) := by decide +kernel
theorem dX6_side_44 : decode cX6_side 44 = .ok (.iconst 0, 1) := by decide +kernel
theorem dX6_side_45 : decode cX6_side 45 = .ok (.invokevirtual 67, 3) := by decide +kernel
theorem dX6_side_48 : decode cX6_side 48 = .ok (.ireturn, 1) := by decide +kernel
set_option maxHeartbeats 4000000 in
set_option maxRecDepth 100000 in
theorem c_X6_side (l : Launch) (D : va_G) (cy : Nat → ClassId) (ad adK adV : Nat → Nat) (M : Mm) (o0 : Nat) (a1 : Int32) (a2 : Int32) (res : Mm × Int32) (h : f_X6_side M o0 a1 a2 = some res) : Met l yX6_side (wU yX6_side cX6_side 3 (some .int)) rmX6_side (va_Pc [.ref (ad o0), .int a1, .int a2] (Pre D cy shX ad nX adK adV M)) (va_Qi (fun r (M2 : Mm) => r = res.2 ∧ M2 = res.1) (Pre D cy shX ad nX adK adV) (Aw ad nX)) 0 0 (Aw ad nX) := by
  refine Met.ofW (cc := cX6_side) (maxL := 3) (ret := (some .int)) (by decide) rfl ?_
  intro p e s m args below meth c s₁ B hml hv
  obtain ⟨hargs, hPre⟩ := hv
  have hx := B.exec
  have hb := B.bytes
  have hr := B.returns
  have hts := atoms_spec (ws := wU yX6_side cX6_side 3 (some .int)) B.pre
  have hq : ∀ w ∈ gW, w.before args s = true := fun w hw => hts w (List.mem_cons_of_mem _ hw)
  have hcm : ∀ w ∈ gW, w ∈ wU yX6_side cX6_side 3 (some .int) := fun w hw => List.mem_cons_of_mem _ hw
  have hown : s.vm.findClass RX6 = some m.cls := findClass_of_methodNamed B.named
  have hlocks := B.notSynchronized
  have hF : CallFix p m c cX6_side 3 s args (wU yX6_side cX6_side 3 (some .int)) RX6 := ⟨hx, hb, hml, hown, hts⟩
  have hK := hPre.2.1
  have hZ := hPre.2.2.2
  have hw : Wd D cy shX ad nX (Aw ad nX) s.heap M s.heap [] := ⟨hPre.1, hPre.2.2.1, va_S.rf⟩
  have iw1 : ∀ w ∈ u_ws RX1 TX1 11, w ∈ wU yX6_side cX6_side 3 (some .int) := fun w hw => List.mem_cons_of_mem _ (iX1 w hw)
  have iw6 : ∀ w ∈ u_ws RX6 TX6 8, w ∈ wU yX6_side cX6_side 3 (some .int) := fun w hw => List.mem_cons_of_mem _ (iX6 w hw)
  rw [show entryFrame m args 3 = entryFrame m ([.ref (ad o0), .int a1, .int a2] : List Value).toArray 3 from by rw [hargs]]
  have hl := lv_entry ([.ref (ad o0), .int a1, .int a2]) (n := 3) (Nat.le_of_ble_eq_true rfl)
  rw [lg_entry_eq]
  generalize (lg_sl ([.ref (ad o0), .int a1, .int a2]) ++ List.replicate (3 - (lg_sl ([.ref (ad o0), .int a1, .int a2])).length) Slot.unset).toArray = ls at hl ⊢
  have hl : lv_has ls 3 [(0, .ref (ad o0)), (1, .int a1), (2, .int a2)] := hl
  have hb14 : ∀ (M : Mm) (x0 : Nat), f_X6_side_b14 M x0 = some res → ∀ (H : Heap) (locs : List Loc) (ls : Array Slot), Wd D cy shX ad nX (Aw ad nX) s.heap M H locs → lv_has ls 3 [(0, .ref (ad x0))] → W p l e (headSpec (wU yX6_side cX6_side 3 (some .int)) rmX6_side).room s m args below meth c H locs 0 0 (QI D cy shX ad nX adK adV below args s res) (F0 m 14 ls []) := by
    intro M x0 h H locs ls hw hl
    unfold f_X6_side_b14 at h
    refine lv_aload_n hx hb dX6_side_14 rfl (lv_at hl 0 rfl) ?_
    refine lv_iconst (v := (0 : Int32)) hx hb dX6_side_15 (by decide) ?_
    replace h := gd_some h
    obtain ⟨g2, h⟩ := h
    replace h := bd_some h
    obtain ⟨r1, er1, h⟩ := h
    refine r_callVi (As := [.int (0 : Int32)]) (rest := []) hF (c_X6_finding l D cy ad adK adV M x0 (0 : Int32) r1 er1) (gW_goodV hcm qw373 qw370 qw372 qw0 qw60) hdX6_finding rfl ⟨Nat.le_of_ble_eq_true rfl, Nat.le_of_ble_eq_true rfl⟩ rfl rfl hZ hK hw g2 (by decide) rfl rfl hl.1 rfl (Nat.le_of_ble_eq_true rfl) ⟨Nat.zero_le _, Nat.zero_le _⟩ dX6_side_16 (fun H locs hw => ?_)
    exact r_iret hx hb hr rfl hlocks hZ hK hw h dX6_side_19
  unfold f_X6_side at h
  refine lv_iload_n hx hb dX6_side_0 rfl (lv_at hl 1 rfl) ?_
  replace h := bd_some h
  obtain ⟨r3, er3, h⟩ := h
  refine r_callSi (As := [.int a1]) (rest := []) hF (c_X6_isKind l D cy ad adK adV M a1 r3 er3) (gW_goodS hcm qw366 qw364 qw365 qw60) hdX6_isKind ⟨Nat.le_of_ble_eq_true rfl, Nat.le_of_ble_eq_true rfl⟩ rfl rfl hZ hK hw rfl hl.1 rfl (Nat.le_of_ble_eq_true rfl) ⟨Nat.zero_le _, Nat.zero_le _⟩ dX6_side_1 (fun H locs hw => ?_)
  refine lv_if_eq (tgt := 14) hx hb dX6_side_4 (by decide) (fun c4 => ?_) (fun c4 => ?_)
  · replace h := if_some_t c4 h
    exact hb14 _ _ h _ _ _ hw (lv_sub hl [0] rfl)
  · replace h := if_some_f c4 h
    refine lv_iload_n hx hb dX6_side_7 rfl (lv_at hl 2 rfl) ?_
    replace h := bd_some h
    obtain ⟨r5, er5, h⟩ := h
    refine r_callSi (As := [.int a2]) (rest := []) hF (c_X6_isStrength l D cy ad adK adV r3.1 a2 r5 er5) (gW_goodS hcm qw369 qw367 qw368 qw60) hdX6_isStrength ⟨Nat.le_of_ble_eq_true rfl, Nat.le_of_ble_eq_true rfl⟩ rfl rfl hZ hK hw rfl hl.1 rfl (Nat.le_of_ble_eq_true rfl) ⟨Nat.zero_le _, Nat.zero_le _⟩ dX6_side_8 (fun H locs hw => ?_)
    refine lv_if_ne (tgt := 20) hx hb dX6_side_11 (by decide) (fun c6 => ?_) (fun c6 => ?_)
    · replace h := if_some_f c6 h
      refine lv_aload_n hx hb dX6_side_20 rfl (lv_at hl 0 rfl) ?_
      replace h := gd_some h
      obtain ⟨g7, h⟩ := h
      replace h := bd_some h
      obtain ⟨q8, eq8, h⟩ := h
      refine r_getR hx hb hts iw6 hown hK hw o0 0 g7 (by decide) rfl (by decide) rfl (hq _ qw335) (fun _ h9 => h9) dX6_side_21 eq8 ?_
      replace h := gd_some h
      obtain ⟨g9, h⟩ := h
      refine r_getI hx hb hts iw1 hown hK hw q8 3 g9 (by decide) rfl (by decide) rfl (hq _ qw190) (fun _ h9 => h9) dX6_side_24 ?_
      refine lv_bipush (v := (6 : Int32)) hx hb dX6_side_27 (by decide) ?_
      refine lv_icmp_lt (tgt := 38) hx hb dX6_side_29 (by decide) (fun c10 => ?_) (fun c10 => ?_)
      · replace h := if_some_t c10 h
        refine lv_aload_n hx hb dX6_side_38 rfl (lv_at hl 0 rfl) ?_
        replace h := bd_some h
        obtain ⟨q11, eq11, h⟩ := h
        refine r_getR hx hb hts iw6 hown hK hw o0 0 g7 (by decide) rfl (by decide) rfl (hq _ qw335) (fun _ h9 => h9) dX6_side_39 eq11 ?_
        refine lv_iload_n hx hb dX6_side_42 rfl (lv_at hl 1 rfl) ?_
        refine lv_iload_n hx hb dX6_side_43 rfl (lv_at hl 2 rfl) ?_
        refine lv_iconst (v := (0 : Int32)) hx hb dX6_side_44 (by decide) ?_
        replace h := gd_some h
        obtain ⟨g13, h⟩ := h
        replace h := bd_some h
        obtain ⟨r12, er12, h⟩ := h
        refine r_callVi (As := [.int a1, .int a2, .int (0 : Int32)]) (rest := []) hF (c_X1_addSide l D cy ad adK adV r5.1 q11 a1 a2 (0 : Int32) r12 er12) (gW_goodV hcm qw378 qw375 qw376 qw377 qw61) hdX1_addSide rfl ⟨Nat.le_of_ble_eq_true rfl, Nat.le_of_ble_eq_true rfl⟩ rfl rfl hZ hK hw g13 (by decide) rfl rfl hl.1 rfl (Nat.le_of_ble_eq_true rfl) ⟨Nat.zero_le _, Nat.zero_le _⟩ dX6_side_45 (fun H locs hw => ?_)
        exact r_iret hx hb hr rfl hlocks hZ hK hw h dX6_side_48
      · replace h := if_some_f c10 h
        refine lv_aload_n hx hb dX6_side_32 rfl (lv_at hl 0 rfl) ?_
        refine lv_iconst (v := (1 : Int32)) hx hb dX6_side_33 (by decide) ?_
        replace h := bd_some h
        obtain ⟨r14, er14, h⟩ := h
        refine r_callVi (As := [.int (1 : Int32)]) (rest := []) hF (c_X6_finding l D cy ad adK adV r5.1 o0 (1 : Int32) r14 er14) (gW_goodV hcm qw373 qw370 qw372 qw0 qw60) hdX6_finding rfl ⟨Nat.le_of_ble_eq_true rfl, Nat.le_of_ble_eq_true rfl⟩ rfl rfl hZ hK hw g7 (by decide) rfl rfl hl.1 rfl (Nat.le_of_ble_eq_true rfl) ⟨Nat.zero_le _, Nat.zero_le _⟩ dX6_side_34 (fun H locs hw => ?_)
        exact r_iret hx hb hr rfl hlocks hZ hK hw h dX6_side_37
    · replace h := if_some_t c6 h
      exact hb14 _ _ h _ _ _ hw (lv_sub hl [0] rfl)
theorem dX6_sideOf_0 : decode cX6_sideOf 0 = .ok (.aload_n 0, 1) := by decide +kernel
theorem dX6_sideOf_1 : decode cX6_sideOf 1 = .ok (.getfield 10, 3) := by decide +kernel
theorem dX6_sideOf_4 : decode cX6_sideOf 4 = .ok (.iload_n 1, 1) := by decide +kernel
theorem dX6_sideOf_5 : decode cX6_sideOf 5 = .ok (.invokevirtual 71, 3) := by decide +kernel
theorem dX6_sideOf_8 : decode cX6_sideOf 8 = .ok (.ifCond .ne 9, 3) := by decide +kernel
theorem dX6_sideOf_11 : decode cX6_sideOf 11 = .ok (.aload_n 0, 1) := by decide +kernel
theorem dX6_sideOf_12 : decode cX6_sideOf 12 = .ok (.iconst 0, 1) := by decide +kernel
theorem dX6_sideOf_13 : decode cX6_sideOf 13 = .ok (.invokevirtual 59, 3) := by decide +kernel
theorem dX6_sideOf_16 : decode cX6_sideOf 16 = .ok (.ireturn, 1) := by decide +kernel
theorem dX6_sideOf_17 : decode cX6_sideOf 17 = .ok (.aload_n 0, 1) := by decide +kernel
theorem dX6_sideOf_18 : decode cX6_sideOf 18 = .ok (.getfield 10, 3) := by decide +kernel
theorem dX6_sideOf_21 : decode cX6_sideOf 21 = .ok (.getfield 74, 3) := by decide +kernel
theorem dX6_sideOf_24 : decode cX6_sideOf 24 = .ok (.iload_n 1, 1) := by decide +kernel
theorem dX6_sideOf_25 : decode cX6_sideOf 25 = .ok (.aaload, 1) := by decide +kernel
theorem dX6_sideOf_26 : decode cX6_sideOf 26 = .ok (.astore_n 3, 1) := by decide +kernel
theorem dX6_sideOf_27 : decode cX6_sideOf 27 = .ok (.iload_n 2, 1) := by decide +kernel
theorem dX6_sideOf_28 : decode cX6_sideOf 28 = .ok (.tableswitch 116 0 7 #[48, 53, 58, 63, 68, 85, 98, 107], 48) := by decide +kernel
theorem dX6_sideOf_76 : decode cX6_sideOf 76 = .ok (.aload_n 3, 1) := by decide +kernel
theorem dX6_sideOf_77 : decode cX6_sideOf 77 = .ok (.getfield 78, 3) := by decide +kernel
theorem dX6_sideOf_80 : decode cX6_sideOf 80 = .ok (.ireturn, 1) := by decide +kernel
theorem dX6_sideOf_81 : decode cX6_sideOf 81 = .ok (.aload_n 3, 1) := by decide +kernel
theorem dX6_sideOf_82 : decode cX6_sideOf 82 = .ok (.getfield 83, 3) := by decide +kernel
theorem dX6_sideOf_85 : decode cX6_sideOf 85 = .ok (.ireturn, 1) := by decide +kernel
theorem dX6_sideOf_86 : decode cX6_sideOf 86 = .ok (.aload_n 3, 1) := by decide +kernel
theorem dX6_sideOf_87 : decode cX6_sideOf 87 = .ok (.getfield 86, 3) := by decide +kernel
theorem dX6_sideOf_90 : decode cX6_sideOf 90 = .ok (.ireturn, 1) := by decide +kernel
theorem dX6_sideOf_91 : decode cX6_sideOf 91 = .ok (.aload_n 3, 1) := by decide +kernel
theorem dX6_sideOf_92 : decode cX6_sideOf 92 = .ok (.getfield 89, 3) := by decide +kernel
theorem dX6_sideOf_95 : decode cX6_sideOf 95 = .ok (.ireturn, 1) := by decide +kernel
theorem dX6_sideOf_96 : decode cX6_sideOf 96 = .ok (.aload_n 0, 1) := by decide +kernel
theorem dX6_sideOf_97 : decode cX6_sideOf 97 = .ok (.getfield 10, 3) := by decide +kernel
theorem dX6_sideOf_100 : decode cX6_sideOf 100 = .ok (.iload_n 1, 1) := by decide +kernel
theorem dX6_sideOf_101 : decode cX6_sideOf 101 = .ok (.invokevirtual 92, 3) := by decide +kernel
theorem dX6_sideOf_104 : decode cX6_sideOf 104 = .ok (.ifCond .eq 7, 3) := by decide +kernel
theorem dX6_sideOf_107 : decode cX6_sideOf 107 = .ok (.iconst 1, 1) := by decide +kernel
theorem dX6_sideOf_108 : decode cX6_sideOf 108 = .ok (.goto 4, 3) := by decide +kernel
theorem dX6_sideOf_111 : decode cX6_sideOf 111 = .ok (.iconst 0, 1) := by decide +kernel
theorem dX6_sideOf_112 : decode cX6_sideOf 112 = .ok (.ireturn, 1) := by decide +kernel
theorem dX6_sideOf_113 : decode cX6_sideOf 113 = .ok (.aload_n 3, 1) := by decide +kernel
theorem dX6_sideOf_114 : decode cX6_sideOf 114 = .ok (.getfield 95, 3) := by decide +kernel
theorem dX6_sideOf_117 : decode cX6_sideOf 117 = .ok (.ifCond .eq 7, 3) := by decide +kernel
theorem dX6_sideOf_120 : decode cX6_sideOf 120 = .ok (.iconst 1, 1) := by decide +kernel
theorem dX6_sideOf_121 : decode cX6_sideOf 121 = .ok (.goto 4, 3) := by decide +kernel
theorem dX6_sideOf_124 : decode cX6_sideOf 124 = .ok (.iconst 0, 1) := by decide +kernel
theorem dX6_sideOf_125 : decode cX6_sideOf 125 = .ok (.ireturn, 1) := by decide +kernel
theorem dX6_sideOf_126 : decode cX6_sideOf 126 = .ok (.aload_n 0, 1) := by decide +kernel
theorem dX6_sideOf_127 : decode cX6_sideOf 127 = .ok (.getfield 10, 3) := by decide +kernel
theorem dX6_sideOf_130 : decode cX6_sideOf 130 = .ok (.iload_n 1, 1) := by decide +kernel
theorem dX6_sideOf_131 : decode cX6_sideOf 131 = .ok (.invokevirtual 98, 3) := by decide +kernel
theorem dX6_sideOf_134 : decode cX6_sideOf 134 = .ok (.ireturn, 1) := by decide +kernel
theorem dX6_sideOf_135 : decode cX6_sideOf 135 = .ok (.aload_n 0, 1) := by decide +kernel
theorem dX6_sideOf_136 : decode cX6_sideOf 136 = .ok (.getfield 10, 3) := by decide +kernel
theorem dX6_sideOf_139 : decode cX6_sideOf 139 = .ok (.iload_n 1, 1) := by decide +kernel
theorem dX6_sideOf_140 : decode cX6_sideOf 140 = .ok (.invokevirtual 101, 3) := by decide +kernel
theorem dX6_sideOf_143 : decode cX6_sideOf 143 = .ok (.ireturn, 1) := by decide +kernel
theorem dX6_sideOf_144 : decode cX6_sideOf 144 = .ok (.aload_n 0, 1) := by decide +kernel
theorem dX6_sideOf_145 : decode cX6_sideOf 145 = .ok (.iconst 0, 1) := by decide +kernel
theorem dX6_sideOf_146 : decode cX6_sideOf 146 = .ok (.invokevirtual 59, 3) := by decide +kernel
theorem dX6_sideOf_149 : decode cX6_sideOf 149 = .ok (.ireturn, 1) := by decide +kernel
set_option maxHeartbeats 4000000 in
set_option maxRecDepth 100000 in
theorem c_X6_sideOf (l : Launch) (D : va_G) (cy : Nat → ClassId) (ad adK adV : Nat → Nat) (M : Mm) (o0 : Nat) (a1 : Int32) (a2 : Int32) (res : Mm × Int32) (h : f_X6_sideOf M o0 a1 a2 = some res) : Met l yX6_sideOf (wU yX6_sideOf cX6_sideOf 4 (some .int)) rmX6_sideOf (va_Pc [.ref (ad o0), .int a1, .int a2] (Pre D cy shX ad nX adK adV M)) (va_Qi (fun r (M2 : Mm) => r = res.2 ∧ M2 = res.1) (Pre D cy shX ad nX adK adV) (Aw ad nX)) 0 0 (Aw ad nX) := by
  refine Met.ofW (cc := cX6_sideOf) (maxL := 4) (ret := (some .int)) (by decide) rfl ?_
  intro p e s m args below meth c s₁ B hml hv
  obtain ⟨hargs, hPre⟩ := hv
  have hx := B.exec
  have hb := B.bytes
  have hr := B.returns
  have hts := atoms_spec (ws := wU yX6_sideOf cX6_sideOf 4 (some .int)) B.pre
  have hq : ∀ w ∈ gW, w.before args s = true := fun w hw => hts w (List.mem_cons_of_mem _ hw)
  have hcm : ∀ w ∈ gW, w ∈ wU yX6_sideOf cX6_sideOf 4 (some .int) := fun w hw => List.mem_cons_of_mem _ hw
  have hown : s.vm.findClass RX6 = some m.cls := findClass_of_methodNamed B.named
  have hlocks := B.notSynchronized
  have hF : CallFix p m c cX6_sideOf 4 s args (wU yX6_sideOf cX6_sideOf 4 (some .int)) RX6 := ⟨hx, hb, hml, hown, hts⟩
  have hK := hPre.2.1
  have hZ := hPre.2.2.2
  have hw : Wd D cy shX ad nX (Aw ad nX) s.heap M s.heap [] := ⟨hPre.1, hPre.2.2.1, va_S.rf⟩
  have iw1 : ∀ w ∈ u_ws RX1 TX1 11, w ∈ wU yX6_sideOf cX6_sideOf 4 (some .int) := fun w hw => List.mem_cons_of_mem _ (iX1 w hw)
  have iw3 : ∀ w ∈ u_ws RX3 TX3 6, w ∈ wU yX6_sideOf cX6_sideOf 4 (some .int) := fun w hw => List.mem_cons_of_mem _ (iX3 w hw)
  have iw6 : ∀ w ∈ u_ws RX6 TX6 8, w ∈ wU yX6_sideOf cX6_sideOf 4 (some .int) := fun w hw => List.mem_cons_of_mem _ (iX6 w hw)
  rw [show entryFrame m args 4 = entryFrame m ([.ref (ad o0), .int a1, .int a2] : List Value).toArray 4 from by rw [hargs]]
  have hl := lv_entry ([.ref (ad o0), .int a1, .int a2]) (n := 4) (Nat.le_of_ble_eq_true rfl)
  rw [lg_entry_eq]
  generalize (lg_sl ([.ref (ad o0), .int a1, .int a2]) ++ List.replicate (4 - (lg_sl ([.ref (ad o0), .int a1, .int a2])).length) Slot.unset).toArray = ls at hl ⊢
  have hl : lv_has ls 4 [(0, .ref (ad o0)), (1, .int a1), (2, .int a2)] := hl
  unfold f_X6_sideOf at h
  refine lv_aload_n hx hb dX6_sideOf_0 rfl (lv_at hl 0 rfl) ?_
  replace h := gd_some h
  obtain ⟨g1, h⟩ := h
  replace h := bd_some h
  obtain ⟨q2, eq2, h⟩ := h
  refine r_getR hx hb hts iw6 hown hK hw o0 0 g1 (by decide) rfl (by decide) rfl (hq _ qw335) (fun _ h9 => h9) dX6_sideOf_1 eq2 ?_
  refine lv_iload_n hx hb dX6_sideOf_4 rfl (lv_at hl 1 rfl) ?_
  replace h := gd_some h
  obtain ⟨g4, h⟩ := h
  replace h := bd_some h
  obtain ⟨r3, er3, h⟩ := h
  refine r_callVi (As := [.int a1]) (rest := []) hF (c_X1_hasSide l D cy ad adK adV M q2 a1 r3 er3) (gW_goodV hcm qw390 qw387 qw388 qw389 qw61) hdX1_hasSide rfl ⟨Nat.le_of_ble_eq_true rfl, Nat.le_of_ble_eq_true rfl⟩ rfl rfl hZ hK hw g4 (by decide) rfl rfl hl.1 rfl (Nat.le_of_ble_eq_true rfl) ⟨Nat.zero_le _, Nat.zero_le _⟩ dX6_sideOf_5 (fun H locs hw => ?_)
  refine lv_if_ne (tgt := 17) hx hb dX6_sideOf_8 (by decide) (fun c5 => ?_) (fun c5 => ?_)
  · replace h := if_some_f c5 h
    refine lv_aload_n hx hb dX6_sideOf_17 rfl (lv_at hl 0 rfl) ?_
    replace h := bd_some h
    obtain ⟨q6, eq6, h⟩ := h
    refine r_getR hx hb hts iw6 hown hK hw o0 0 g1 (by decide) rfl (by decide) rfl (hq _ qw335) (fun _ h9 => h9) dX6_sideOf_18 eq6 ?_
    replace h := gd_some h
    obtain ⟨g7, h⟩ := h
    replace h := bd_some h
    obtain ⟨q8, eq8, h⟩ := h
    refine r_getR hx hb hts iw1 hown hK hw q6 0 g7 (by decide) rfl (by decide) rfl (hq _ qw182) (fun _ h9 => h9) dX6_sideOf_21 eq8 ?_
    refine lv_iload_n hx hb dX6_sideOf_24 rfl (lv_at hl 1 rfl) ?_
    replace h := gd_some h
    obtain ⟨g9, h⟩ := h
    replace h := bd_some h
    obtain ⟨q10, eq10, h⟩ := h
    refine r_aald hx hb hK hw q8 2 (by decide) rfl g9 dX6_sideOf_25 eq10 ?_
    refine lv_astore_n (lv' := [(3, .ref (ad q10)), (0, .ref (ad o0)), (1, .int a1), (2, .int a2)]) hx hb dX6_sideOf_26 rfl hl (by decide) rfl (fun ls hl => ?_)
    refine lv_iload_n hx hb dX6_sideOf_27 rfl (lv_at hl 3 rfl) ?_
    by_cases s11 : a2 = 0
    · replace h := if_some_t s11 h
      refine lv_tableIn (off := 48) (tgt := 76) hx hb dX6_sideOf_28 (by rw [s11]; decide) (by rw [s11]; decide) (by rw [s11]; decide) (by decide) ?_
      refine lv_aload_n hx hb dX6_sideOf_76 rfl (lv_at hl 0 rfl) ?_
      replace h := gd_some h
      obtain ⟨g12, h⟩ := h
      refine r_getI hx hb hts iw3 hown hK hw q10 0 g12 (by decide) rfl (by decide) rfl (hq _ qw98) (fun _ h9 => h9) dX6_sideOf_77 ?_
      exact r_iret hx hb hr rfl hlocks hZ hK hw h dX6_sideOf_80
    replace h := if_some_f s11 h
    by_cases s13 : a2 = 1
    · replace h := if_some_t s13 h
      refine lv_tableIn (off := 53) (tgt := 81) hx hb dX6_sideOf_28 (by rw [s13]; decide) (by rw [s13]; decide) (by rw [s13]; decide) (by decide) ?_
      refine lv_aload_n hx hb dX6_sideOf_81 rfl (lv_at hl 0 rfl) ?_
      replace h := gd_some h
      obtain ⟨g14, h⟩ := h
      refine r_getI hx hb hts iw3 hown hK hw q10 1 g14 (by decide) rfl (by decide) rfl (hq _ qw101) (fun _ h9 => h9) dX6_sideOf_82 ?_
      exact r_iret hx hb hr rfl hlocks hZ hK hw h dX6_sideOf_85
    replace h := if_some_f s13 h
    by_cases s15 : a2 = 2
    · replace h := if_some_t s15 h
      refine lv_tableIn (off := 58) (tgt := 86) hx hb dX6_sideOf_28 (by rw [s15]; decide) (by rw [s15]; decide) (by rw [s15]; decide) (by decide) ?_
      refine lv_aload_n hx hb dX6_sideOf_86 rfl (lv_at hl 0 rfl) ?_
      replace h := gd_some h
      obtain ⟨g16, h⟩ := h
      refine r_getI hx hb hts iw3 hown hK hw q10 2 g16 (by decide) rfl (by decide) rfl (hq _ qw104) (fun _ h9 => h9) dX6_sideOf_87 ?_
      exact r_iret hx hb hr rfl hlocks hZ hK hw h dX6_sideOf_90
    replace h := if_some_f s15 h
    by_cases s17 : a2 = 3
    · replace h := if_some_t s17 h
      refine lv_tableIn (off := 63) (tgt := 91) hx hb dX6_sideOf_28 (by rw [s17]; decide) (by rw [s17]; decide) (by rw [s17]; decide) (by decide) ?_
      refine lv_aload_n hx hb dX6_sideOf_91 rfl (lv_at hl 0 rfl) ?_
      replace h := gd_some h
      obtain ⟨g18, h⟩ := h
      refine r_getI hx hb hts iw3 hown hK hw q10 3 g18 (by decide) rfl (by decide) rfl (hq _ qw107) (fun _ h9 => h9) dX6_sideOf_92 ?_
      exact r_iret hx hb hr rfl hlocks hZ hK hw h dX6_sideOf_95
    replace h := if_some_f s17 h
    by_cases s19 : a2 = 4
    · replace h := if_some_t s19 h
      refine lv_tableIn (off := 68) (tgt := 96) hx hb dX6_sideOf_28 (by rw [s19]; decide) (by rw [s19]; decide) (by rw [s19]; decide) (by decide) ?_
      refine lv_aload_n hx hb dX6_sideOf_96 rfl (lv_at hl 1 rfl) ?_
      replace h := bd_some h
      obtain ⟨q20, eq20, h⟩ := h
      refine r_getR hx hb hts iw6 hown hK hw o0 0 g1 (by decide) rfl (by decide) rfl (hq _ qw335) (fun _ h9 => h9) dX6_sideOf_97 eq20 ?_
      refine lv_iload_n hx hb dX6_sideOf_100 rfl (lv_at hl 2 rfl) ?_
      replace h := gd_some h
      obtain ⟨g22, h⟩ := h
      replace h := bd_some h
      obtain ⟨r21, er21, h⟩ := h
      refine r_callVi (As := [.int a1]) (rest := []) hF (c_X1_isBarred l D cy ad adK adV r3.1 q20 a1 r21 er21) (gW_goodV hcm qw394 qw391 qw392 qw393 qw61) hdX1_isBarred rfl ⟨Nat.le_of_ble_eq_true rfl, Nat.le_of_ble_eq_true rfl⟩ rfl rfl hZ hK hw g22 (by decide) rfl rfl hl.1 rfl (Nat.le_of_ble_eq_true rfl) ⟨Nat.zero_le _, Nat.zero_le _⟩ dX6_sideOf_101 (fun H locs hw => ?_)
      refine lv_if_eq (tgt := 111) hx hb dX6_sideOf_104 (by decide) (fun c23 => ?_) (fun c23 => ?_)
      · replace h := if_some_t c23 h
        refine lv_iconst (v := (0 : Int32)) hx hb dX6_sideOf_111 (by decide) ?_
        exact r_iret hx hb hr rfl hlocks hZ hK hw h dX6_sideOf_112
      · replace h := if_some_f c23 h
        refine lv_iconst (v := (1 : Int32)) hx hb dX6_sideOf_107 (by decide) ?_
        refine lv_goto (tgt := 112) hx hb dX6_sideOf_108 (by decide) ?_
        exact r_iret hx hb hr rfl hlocks hZ hK hw h dX6_sideOf_112
    replace h := if_some_f s19 h
    by_cases s24 : a2 = 5
    · replace h := if_some_t s24 h
      refine lv_tableIn (off := 85) (tgt := 113) hx hb dX6_sideOf_28 (by rw [s24]; decide) (by rw [s24]; decide) (by rw [s24]; decide) (by decide) ?_
      refine lv_aload_n hx hb dX6_sideOf_113 rfl (lv_at hl 0 rfl) ?_
      replace h := gd_some h
      obtain ⟨g25, h⟩ := h
      refine r_getI hx hb hts iw3 hown hK hw q10 5 g25 (by decide) rfl (by decide) rfl (hq _ qw113) (fun _ h9 => h9) dX6_sideOf_114 ?_
      refine lv_if_eq (tgt := 124) hx hb dX6_sideOf_117 (by decide) (fun c26 => ?_) (fun c26 => ?_)
      · replace h := if_some_t c26 h
        refine lv_iconst (v := (0 : Int32)) hx hb dX6_sideOf_124 (by decide) ?_
        exact r_iret hx hb hr rfl hlocks hZ hK hw h dX6_sideOf_125
      · replace h := if_some_f c26 h
        refine lv_iconst (v := (1 : Int32)) hx hb dX6_sideOf_120 (by decide) ?_
        refine lv_goto (tgt := 125) hx hb dX6_sideOf_121 (by decide) ?_
        exact r_iret hx hb hr rfl hlocks hZ hK hw h dX6_sideOf_125
    replace h := if_some_f s24 h
    by_cases s27 : a2 = 6
    · replace h := if_some_t s27 h
      refine lv_tableIn (off := 98) (tgt := 126) hx hb dX6_sideOf_28 (by rw [s27]; decide) (by rw [s27]; decide) (by rw [s27]; decide) (by decide) ?_
      refine lv_aload_n hx hb dX6_sideOf_126 rfl (lv_at hl 1 rfl) ?_
      replace h := bd_some h
      obtain ⟨q28, eq28, h⟩ := h
      refine r_getR hx hb hts iw6 hown hK hw o0 0 g1 (by decide) rfl (by decide) rfl (hq _ qw335) (fun _ h9 => h9) dX6_sideOf_127 eq28 ?_
      refine lv_iload_n hx hb dX6_sideOf_130 rfl (lv_at hl 2 rfl) ?_
      replace h := gd_some h
      obtain ⟨g30, h⟩ := h
      replace h := bd_some h
      obtain ⟨r29, er29, h⟩ := h
      refine r_callVi (As := [.int a1]) (rest := []) hF (c_X1_gamesPlayedBy l D cy ad adK adV r3.1 q28 a1 r29 er29) (gW_goodV hcm qw398 qw395 qw396 qw397 qw61) hdX1_gamesPlayedBy rfl ⟨Nat.le_of_ble_eq_true rfl, Nat.le_of_ble_eq_true rfl⟩ rfl rfl hZ hK hw g30 (by decide) rfl rfl hl.1 rfl (Nat.le_of_ble_eq_true rfl) ⟨Nat.zero_le _, Nat.zero_le _⟩ dX6_sideOf_131 (fun H locs hw => ?_)
      exact r_iret hx hb hr rfl hlocks hZ hK hw h dX6_sideOf_134
    replace h := if_some_f s27 h
    by_cases s31 : a2 = 7
    · replace h := if_some_t s31 h
      refine lv_tableIn (off := 107) (tgt := 135) hx hb dX6_sideOf_28 (by rw [s31]; decide) (by rw [s31]; decide) (by rw [s31]; decide) (by decide) ?_
      refine lv_aload_n hx hb dX6_sideOf_135 rfl (lv_at hl 1 rfl) ?_
      replace h := bd_some h
      obtain ⟨q32, eq32, h⟩ := h
      refine r_getR hx hb hts iw6 hown hK hw o0 0 g1 (by decide) rfl (by decide) rfl (hq _ qw335) (fun _ h9 => h9) dX6_sideOf_136 eq32 ?_
      refine lv_iload_n hx hb dX6_sideOf_139 rfl (lv_at hl 2 rfl) ?_
      replace h := gd_some h
      obtain ⟨g34, h⟩ := h
      replace h := bd_some h
      obtain ⟨r33, er33, h⟩ := h
      refine r_callVi (As := [.int a1]) (rest := []) hF (c_X1_gamesGivenTo l D cy ad adK adV r3.1 q32 a1 r33 er33) (gW_goodV hcm qw406 qw403 qw404 qw405 qw61) hdX1_gamesGivenTo rfl ⟨Nat.le_of_ble_eq_true rfl, Nat.le_of_ble_eq_true rfl⟩ rfl rfl hZ hK hw g34 (by decide) rfl rfl hl.1 rfl (Nat.le_of_ble_eq_true rfl) ⟨Nat.zero_le _, Nat.zero_le _⟩ dX6_sideOf_140 (fun H locs hw => ?_)
      exact r_iret hx hb hr rfl hlocks hZ hK hw h dX6_sideOf_143
    replace h := if_some_f s31 h
    have hout36 : a2.toInt < 0 ∨ 7 < a2.toInt := by
      refine tsw_out (fun cz h1 h2 => ?_)
      rcases (show cz = 0 ∨ cz = 1 ∨ cz = 2 ∨ cz = 3 ∨ cz = 4 ∨ cz = 5 ∨ cz = 6 ∨ cz = 7 by omega) with rfl | rfl | rfl | rfl | rfl | rfl | rfl | rfl
      · exact fun e9 => s11 (e9.trans (by decide))
      · exact fun e9 => s13 (e9.trans (by decide))
      · exact fun e9 => s15 (e9.trans (by decide))
      · exact fun e9 => s17 (e9.trans (by decide))
      · exact fun e9 => s19 (e9.trans (by decide))
      · exact fun e9 => s24 (e9.trans (by decide))
      · exact fun e9 => s27 (e9.trans (by decide))
      · exact fun e9 => s31 (e9.trans (by decide))
    refine lv_tableOut (tgt := 144) hx hb dX6_sideOf_28 hout36 (by decide) ?_
    refine lv_aload_n hx hb dX6_sideOf_144 rfl (lv_at hl 1 rfl) ?_
    refine lv_iconst (v := (0 : Int32)) hx hb dX6_sideOf_145 (by decide) ?_
    replace h := bd_some h
    obtain ⟨r35, er35, h⟩ := h
    refine r_callVi (As := [.int (0 : Int32)]) (rest := []) hF (c_X6_finding l D cy ad adK adV r3.1 o0 (0 : Int32) r35 er35) (gW_goodV hcm qw373 qw370 qw372 qw0 qw60) hdX6_finding rfl ⟨Nat.le_of_ble_eq_true rfl, Nat.le_of_ble_eq_true rfl⟩ rfl rfl hZ hK hw g1 (by decide) rfl rfl hl.1 rfl (Nat.le_of_ble_eq_true rfl) ⟨Nat.zero_le _, Nat.zero_le _⟩ dX6_sideOf_146 (fun H locs hw => ?_)
    exact r_iret hx hb hr rfl hlocks hZ hK hw h dX6_sideOf_149
  · replace h := if_some_t c5 h
    refine lv_aload_n hx hb dX6_sideOf_11 rfl (lv_at hl 0 rfl) ?_
    refine lv_iconst (v := (0 : Int32)) hx hb dX6_sideOf_12 (by decide) ?_
    replace h := bd_some h
    obtain ⟨r37, er37, h⟩ := h
    refine r_callVi (As := [.int (0 : Int32)]) (rest := []) hF (c_X6_finding l D cy ad adK adV r3.1 o0 (0 : Int32) r37 er37) (gW_goodV hcm qw373 qw370 qw372 qw0 qw60) hdX6_finding rfl ⟨Nat.le_of_ble_eq_true rfl, Nat.le_of_ble_eq_true rfl⟩ rfl rfl hZ hK hw g1 (by decide) rfl rfl hl.1 rfl (Nat.le_of_ble_eq_true rfl) ⟨Nat.zero_le _, Nat.zero_le _⟩ dX6_sideOf_13 (fun H locs hw => ?_)
    exact r_iret hx hb hr rfl hlocks hZ hK hw h dX6_sideOf_16
theorem dX6_canBecome_0 : decode cX6_canBecome 0 = .ok (.iload_n 0, 1) := by decide +kernel
theorem dX6_canBecome_1 : decode cX6_canBecome 1 = .ok (.tableswitch 53 0 2 #[27, 32, 37], 27) := by decide +kernel
theorem dX6_canBecome_28 : decode cX6_canBecome 28 = .ok (.iload_n 1, 1) := by decide +kernel
theorem dX6_canBecome_29 : decode cX6_canBecome 29 = .ok (.invokestatic 52, 3) := by decide +kernel
theorem dX6_canBecome_32 : decode cX6_canBecome 32 = .ok (.ireturn, 1) := by decide +kernel
theorem dX6_canBecome_33 : decode cX6_canBecome 33 = .ok (.iload_n 1, 1) := by decide +kernel
theorem dX6_canBecome_34 : decode cX6_canBecome 34 = .ok (.invokestatic 56, 3) := by decide +kernel
theorem dX6_canBecome_37 : decode cX6_canBecome 37 = .ok (.ireturn, 1) := by decide +kernel
theorem dX6_canBecome_38 : decode cX6_canBecome 38 = .ok (.iload_n 1, 1) := by decide +kernel
theorem dX6_canBecome_39 : decode cX6_canBecome 39 = .ok (.ifCond .lt 13, 3) := by decide +kernel
theorem dX6_canBecome_42 : decode cX6_canBecome 42 = .ok (.iload_n 1, 1) := by decide +kernel
theorem dX6_canBecome_43 : decode cX6_canBecome 43 = .ok (.bipush 9, 2) := by decide +kernel
theorem dX6_canBecome_45 : decode cX6_canBecome 45 = .ok (.if_icmp .gt 7, 3) := by decide +kernel
theorem dX6_canBecome_48 : decode cX6_canBecome 48 = .ok (.iconst 1, 1) := by decide +kernel
theorem dX6_canBecome_49 : decode cX6_canBecome 49 = .ok (.goto 4, 3) := by decide +kernel
theorem dX6_canBecome_52 : decode cX6_canBecome 52 = .ok (.iconst 0, 1) := by decide +kernel
theorem dX6_canBecome_53 : decode cX6_canBecome 53 = .ok (.ireturn, 1) := by decide +kernel
theorem dX6_canBecome_54 : decode cX6_canBecome 54 = .ok (.iconst 0, 1) := by decide +kernel
theorem dX6_canBecome_55 : decode cX6_canBecome 55 = .ok (.ireturn, 1) := by decide +kernel
set_option maxHeartbeats 4000000 in
set_option maxRecDepth 100000 in
theorem c_X6_canBecome (l : Launch) (D : va_G) (cy : Nat → ClassId) (ad adK adV : Nat → Nat) (M : Mm) (a0 : Int32) (a1 : Int32) (res : Mm × Int32) (h : f_X6_canBecome M a0 a1 = some res) : Met l yX6_canBecome (wU yX6_canBecome cX6_canBecome 2 (some .boolean)) rmX6_canBecome (va_Pc [.int a0, .int a1] (Pre D cy shX ad nX adK adV M)) (va_Qi (fun r (M2 : Mm) => r = res.2 ∧ M2 = res.1) (Pre D cy shX ad nX adK adV) (Aw ad nX)) 0 0 (Aw ad nX) := by
  refine Met.ofW (cc := cX6_canBecome) (maxL := 2) (ret := (some .boolean)) (by decide) rfl ?_
  intro p e s m args below meth c s₁ B hml hv
  obtain ⟨hargs, hPre⟩ := hv
  have hx := B.exec
  have hb := B.bytes
  have hr := B.returns
  have hts := atoms_spec (ws := wU yX6_canBecome cX6_canBecome 2 (some .boolean)) B.pre
  have hq : ∀ w ∈ gW, w.before args s = true := fun w hw => hts w (List.mem_cons_of_mem _ hw)
  have hcm : ∀ w ∈ gW, w ∈ wU yX6_canBecome cX6_canBecome 2 (some .boolean) := fun w hw => List.mem_cons_of_mem _ hw
  have hown : s.vm.findClass RX6 = some m.cls := findClass_of_methodNamed B.named
  have hlocks := B.notSynchronized
  have hF : CallFix p m c cX6_canBecome 2 s args (wU yX6_canBecome cX6_canBecome 2 (some .boolean)) RX6 := ⟨hx, hb, hml, hown, hts⟩
  have hK := hPre.2.1
  have hZ := hPre.2.2.2
  have hw : Wd D cy shX ad nX (Aw ad nX) s.heap M s.heap [] := ⟨hPre.1, hPre.2.2.1, va_S.rf⟩
  rw [show entryFrame m args 2 = entryFrame m ([.int a0, .int a1] : List Value).toArray 2 from by rw [hargs]]
  have hl := lv_entry ([.int a0, .int a1]) (n := 2) (Nat.le_of_ble_eq_true rfl)
  rw [lg_entry_eq]
  generalize (lg_sl ([.int a0, .int a1]) ++ List.replicate (2 - (lg_sl ([.int a0, .int a1])).length) Slot.unset).toArray = ls at hl ⊢
  have hl : lv_has ls 2 [(0, .int a0), (1, .int a1)] := hl
  unfold f_X6_canBecome at h
  refine lv_iload_n hx hb dX6_canBecome_0 rfl (lv_at hl 0 rfl) ?_
  by_cases s1 : a0 = 0
  · replace h := if_some_t s1 h
    refine lv_tableIn (off := 27) (tgt := 28) hx hb dX6_canBecome_1 (by rw [s1]; decide) (by rw [s1]; decide) (by rw [s1]; decide) (by decide) ?_
    refine lv_iload_n hx hb dX6_canBecome_28 rfl (lv_at hl 1 rfl) ?_
    replace h := bd_some h
    obtain ⟨r2, er2, h⟩ := h
    refine r_callSi (As := [.int a1]) (rest := []) hF (c_X6_isKind l D cy ad adK adV M a1 r2 er2) (gW_goodS hcm qw366 qw364 qw365 qw60) hdX6_isKind ⟨Nat.le_of_ble_eq_true rfl, Nat.le_of_ble_eq_true rfl⟩ rfl rfl hZ hK hw rfl hl.1 rfl (Nat.le_of_ble_eq_true rfl) ⟨Nat.zero_le _, Nat.zero_le _⟩ dX6_canBecome_29 (fun H locs hw => ?_)
    replace h := gd_some h
    obtain ⟨z3, h⟩ := h
    exact r_iret hx hb hr (nar_bz z3) hlocks hZ hK hw h dX6_canBecome_32
  replace h := if_some_f s1 h
  by_cases s4 : a0 = 1
  · replace h := if_some_t s4 h
    refine lv_tableIn (off := 32) (tgt := 33) hx hb dX6_canBecome_1 (by rw [s4]; decide) (by rw [s4]; decide) (by rw [s4]; decide) (by decide) ?_
    refine lv_iload_n hx hb dX6_canBecome_33 rfl (lv_at hl 1 rfl) ?_
    replace h := bd_some h
    obtain ⟨r5, er5, h⟩ := h
    refine r_callSi (As := [.int a1]) (rest := []) hF (c_X6_isStrength l D cy ad adK adV M a1 r5 er5) (gW_goodS hcm qw369 qw367 qw368 qw60) hdX6_isStrength ⟨Nat.le_of_ble_eq_true rfl, Nat.le_of_ble_eq_true rfl⟩ rfl rfl hZ hK hw rfl hl.1 rfl (Nat.le_of_ble_eq_true rfl) ⟨Nat.zero_le _, Nat.zero_le _⟩ dX6_canBecome_34 (fun H locs hw => ?_)
    replace h := gd_some h
    obtain ⟨z6, h⟩ := h
    exact r_iret hx hb hr (nar_bz z6) hlocks hZ hK hw h dX6_canBecome_37
  replace h := if_some_f s4 h
  by_cases s7 : a0 = 2
  · replace h := if_some_t s7 h
    refine lv_tableIn (off := 37) (tgt := 38) hx hb dX6_canBecome_1 (by rw [s7]; decide) (by rw [s7]; decide) (by rw [s7]; decide) (by decide) ?_
    refine lv_iload_n hx hb dX6_canBecome_38 rfl (lv_at hl 1 rfl) ?_
    refine lv_if_lt (tgt := 52) hx hb dX6_canBecome_39 (by decide) (fun c8 => ?_) (fun c8 => ?_)
    · replace h := if_some_t c8 h
      refine lv_iconst (v := (0 : Int32)) hx hb dX6_canBecome_52 (by decide) ?_
      exact r_iret hx hb hr rfl hlocks hZ hK hw h dX6_canBecome_53
    · replace h := if_some_f c8 h
      refine lv_iload_n hx hb dX6_canBecome_42 rfl (lv_at hl 1 rfl) ?_
      refine lv_bipush (v := (9 : Int32)) hx hb dX6_canBecome_43 (by decide) ?_
      refine lv_icmp_gt (tgt := 52) hx hb dX6_canBecome_45 (by decide) (fun c9 => ?_) (fun c9 => ?_)
      · replace h := if_some_t c9 h
        refine lv_iconst (v := (0 : Int32)) hx hb dX6_canBecome_52 (by decide) ?_
        exact r_iret hx hb hr rfl hlocks hZ hK hw h dX6_canBecome_53
      · replace h := if_some_f c9 h
        refine lv_iconst (v := (1 : Int32)) hx hb dX6_canBecome_48 (by decide) ?_
        refine lv_goto (tgt := 53) hx hb dX6_canBecome_49 (by decide) ?_
        exact r_iret hx hb hr rfl hlocks hZ hK hw h dX6_canBecome_53
  replace h := if_some_f s7 h
  have hout10 : a0.toInt < 0 ∨ 2 < a0.toInt := by
    refine tsw_out (fun cz h1 h2 => ?_)
    rcases (show cz = 0 ∨ cz = 1 ∨ cz = 2 by omega) with rfl | rfl | rfl
    · exact fun e9 => s1 (e9.trans (by decide))
    · exact fun e9 => s4 (e9.trans (by decide))
    · exact fun e9 => s7 (e9.trans (by decide))
  refine lv_tableOut (tgt := 54) hx hb dX6_canBecome_1 hout10 (by decide) ?_
  refine lv_iconst (v := (0 : Int32)) hx hb dX6_canBecome_54 (by decide) ?_
  exact r_iret hx hb hr rfl hlocks hZ hK hw h dX6_canBecome_55
theorem dX6_change_0 : decode cX6_change 0 = .ok (.aload_n 0, 1) := by decide +kernel
theorem dX6_change_1 : decode cX6_change 1 = .ok (.getfield 10, 3) := by decide +kernel
theorem dX6_change_4 : decode cX6_change 4 = .ok (.iload_n 1, 1) := by decide +kernel
theorem dX6_change_5 : decode cX6_change 5 = .ok (.invokevirtual 71, 3) := by decide +kernel
theorem dX6_change_8 : decode cX6_change 8 = .ok (.ifCond .eq 11, 3) := by decide +kernel
theorem dX6_change_11 : decode cX6_change 11 = .ok (.iload_n 2, 1) := by decide +kernel
theorem dX6_change_12 : decode cX6_change 12 = .ok (.iload_n 3, 1) := by decide +kernel
theorem dX6_change_13 : decode cX6_change 13 = .ok (.invokestatic 104, 3) := by decide +kernel
theorem dX6_change_16 : decode cX6_change 16 = .ok (.ifCond .ne 9, 3) := by decide +kernel
theorem dX6_change_19 : decode cX6_change 19 = .ok (.aload_n 0, 1) := by decide +kernel
theorem dX6_change_20 : decode cX6_change 20 = .ok (.iconst 0, 1) := by decide +kernel
theorem dX6_change_21 : decode cX6_change 21 = .ok (.invokevirtual 59, 3) := by decide +kernel
theorem dX6_change_24 : decode cX6_change 24 = .ok (.ireturn, 1) := by decide +kernel
theorem dX6_change_25 : decode cX6_change 25 = .ok (.aload_n 0, 1) := by decide +kernel
theorem dX6_change_26 : decode cX6_change 26 = .ok (.getfield 10, 3) := by decide +kernel
theorem dX6_change_29 : decode cX6_change 29 = .ok (.getfield 74, 3) := by decide +kernel
theorem dX6_change_32 : decode cX6_change 32 = .ok (.iload_n 1, 1) := by decide +kernel
theorem dX6_change_33 : decode cX6_change 33 = .ok (.aaload, 1) := by decide +kernel
theorem dX6_change_34 : decode cX6_change 34 = .ok (.astore 4, 2) := by decide +kernel
theorem dX6_change_36 : decode cX6_change 36 = .ok (.iload_n 2, 1) := by decide +kernel
theorem dX6_change_37 : decode cX6_change 37 = .ok (.ifCond .ne 19, 3) := by decide +kernel
theorem dX6_change_40 : decode cX6_change 40 = .ok (.aload 4, 2) := by decide +kernel
theorem dX6_change_42 : decode cX6_change 42 = .ok (.getfield 78, 3) := by decide +kernel
theorem dX6_change_45 : decode cX6_change 45 = .ok (.istore 5, 2) := by decide +kernel
theorem dX6_change_47 : decode cX6_change 47 = .ok (.aload 4, 2) := by decide +kernel
theorem dX6_change_49 : decode cX6_change 49 = .ok (.iload_n 3, 1) := by decide +kernel
theorem dX6_change_50 : decode cX6_change 50 = .ok (.putfield 78, 3) := by decide +kernel
theorem dX6_change_53 : decode cX6_change 53 = .ok (.goto 37, 3) := by decide +kernel
theorem dX6_change_56 : decode cX6_change 56 = .ok (.iload_n 2, 1) := by decide +kernel
theorem dX6_change_57 : decode cX6_change 57 = .ok (.iconst 1, 1) := by decide +kernel
theorem dX6_change_58 : decode cX6_change 58 = .ok (.if_icmp .ne 19, 3) := by decide +kernel
theorem dX6_change_61 : decode cX6_change 61 = .ok (.aload 4, 2) := by decide +kernel
theorem dX6_change_63 : decode cX6_change 63 = .ok (.getfield 83, 3) := by decide +kernel
theorem dX6_change_66 : decode cX6_change 66 = .ok (.istore 5, 2) := by decide +kernel
theorem dX6_change_68 : decode cX6_change 68 = .ok (.aload 4, 2) := by decide +kernel
theorem dX6_change_70 : decode cX6_change 70 = .ok (.iload_n 3, 1) := by decide +kernel
theorem dX6_change_71 : decode cX6_change 71 = .ok (.putfield 83, 3) := by decide +kernel
theorem dX6_change_74 : decode cX6_change 74 = .ok (.goto 16, 3) := by decide +kernel
theorem dX6_change_77 : decode cX6_change 77 = .ok (.aload 4, 2) := by decide +kernel
theorem dX6_change_79 : decode cX6_change 79 = .ok (.getfield 86, 3) := by decide +kernel
theorem dX6_change_82 : decode cX6_change 82 = .ok (.istore 5, 2) := by decide +kernel
theorem dX6_change_84 : decode cX6_change 84 = .ok (.aload 4, 2) := by decide +kernel
theorem dX6_change_86 : decode cX6_change 86 = .ok (.iload_n 3, 1) := by decide +kernel
theorem dX6_change_87 : decode cX6_change 87 = .ok (.putfield 86, 3) := by decide +kernel
theorem dX6_change_90 : decode cX6_change 90 = .ok (.iload 5, 2) := by decide +kernel
theorem dX6_change_92 : decode cX6_change 92 = .ok (.ireturn, 1) := by decide +kernel
set_option maxHeartbeats 4000000 in
set_option maxRecDepth 100000 in
theorem c_X6_change (l : Launch) (D : va_G) (cy : Nat → ClassId) (ad adK adV : Nat → Nat) (M : Mm) (o0 : Nat) (a1 : Int32) (a2 : Int32) (a3 : Int32) (res : Mm × Int32) (h : f_X6_change M o0 a1 a2 a3 = some res) : Met l yX6_change (wU yX6_change cX6_change 6 (some .int)) rmX6_change (va_Pc [.ref (ad o0), .int a1, .int a2, .int a3] (Pre D cy shX ad nX adK adV M)) (va_Qi (fun r (M2 : Mm) => r = res.2 ∧ M2 = res.1) (Pre D cy shX ad nX adK adV) (Aw ad nX)) 0 0 (Aw ad nX) := by
  refine Met.ofW (cc := cX6_change) (maxL := 6) (ret := (some .int)) (by decide) rfl ?_
  intro p e s m args below meth c s₁ B hml hv
  obtain ⟨hargs, hPre⟩ := hv
  have hx := B.exec
  have hb := B.bytes
  have hr := B.returns
  have hts := atoms_spec (ws := wU yX6_change cX6_change 6 (some .int)) B.pre
  have hq : ∀ w ∈ gW, w.before args s = true := fun w hw => hts w (List.mem_cons_of_mem _ hw)
  have hcm : ∀ w ∈ gW, w ∈ wU yX6_change cX6_change 6 (some .int) := fun w hw => List.mem_cons_of_mem _ hw
  have hown : s.vm.findClass RX6 = some m.cls := findClass_of_methodNamed B.named
  have hlocks := B.notSynchronized
  have hF : CallFix p m c cX6_change 6 s args (wU yX6_change cX6_change 6 (some .int)) RX6 := ⟨hx, hb, hml, hown, hts⟩
  have hK := hPre.2.1
  have hZ := hPre.2.2.2
  have hw : Wd D cy shX ad nX (Aw ad nX) s.heap M s.heap [] := ⟨hPre.1, hPre.2.2.1, va_S.rf⟩
  have iw1 : ∀ w ∈ u_ws RX1 TX1 11, w ∈ wU yX6_change cX6_change 6 (some .int) := fun w hw => List.mem_cons_of_mem _ (iX1 w hw)
  have iw3 : ∀ w ∈ u_ws RX3 TX3 6, w ∈ wU yX6_change cX6_change 6 (some .int) := fun w hw => List.mem_cons_of_mem _ (iX3 w hw)
  have iw6 : ∀ w ∈ u_ws RX6 TX6 8, w ∈ wU yX6_change cX6_change 6 (some .int) := fun w hw => List.mem_cons_of_mem _ (iX6 w hw)
  rw [show entryFrame m args 6 = entryFrame m ([.ref (ad o0), .int a1, .int a2, .int a3] : List Value).toArray 6 from by rw [hargs]]
  have hl := lv_entry ([.ref (ad o0), .int a1, .int a2, .int a3]) (n := 6) (Nat.le_of_ble_eq_true rfl)
  rw [lg_entry_eq]
  generalize (lg_sl ([.ref (ad o0), .int a1, .int a2, .int a3]) ++ List.replicate (6 - (lg_sl ([.ref (ad o0), .int a1, .int a2, .int a3])).length) Slot.unset).toArray = ls at hl ⊢
  have hl : lv_has ls 6 [(0, .ref (ad o0)), (1, .int a1), (2, .int a2), (3, .int a3)] := hl
  have hb19 : ∀ (M : Mm) (x0 : Nat), f_X6_change_b19 M x0 = some res → ∀ (H : Heap) (locs : List Loc) (ls : Array Slot), Wd D cy shX ad nX (Aw ad nX) s.heap M H locs → lv_has ls 6 [(0, .ref (ad x0))] → W p l e (headSpec (wU yX6_change cX6_change 6 (some .int)) rmX6_change).room s m args below meth c H locs 0 0 (QI D cy shX ad nX adK adV below args s res) (F0 m 19 ls []) := by
    intro M x0 h H locs ls hw hl
    unfold f_X6_change_b19 at h
    refine lv_aload_n hx hb dX6_change_19 rfl (lv_at hl 0 rfl) ?_
    refine lv_iconst (v := (0 : Int32)) hx hb dX6_change_20 (by decide) ?_
    replace h := gd_some h
    obtain ⟨g2, h⟩ := h
    replace h := bd_some h
    obtain ⟨r1, er1, h⟩ := h
    refine r_callVi (As := [.int (0 : Int32)]) (rest := []) hF (c_X6_finding l D cy ad adK adV M x0 (0 : Int32) r1 er1) (gW_goodV hcm qw373 qw370 qw372 qw0 qw60) hdX6_finding rfl ⟨Nat.le_of_ble_eq_true rfl, Nat.le_of_ble_eq_true rfl⟩ rfl rfl hZ hK hw g2 (by decide) rfl rfl hl.1 rfl (Nat.le_of_ble_eq_true rfl) ⟨Nat.zero_le _, Nat.zero_le _⟩ dX6_change_21 (fun H locs hw => ?_)
    exact r_iret hx hb hr rfl hlocks hZ hK hw h dX6_change_24
  unfold f_X6_change at h
  refine lv_aload_n hx hb dX6_change_0 rfl (lv_at hl 0 rfl) ?_
  replace h := gd_some h
  obtain ⟨g3, h⟩ := h
  replace h := bd_some h
  obtain ⟨q4, eq4, h⟩ := h
  refine r_getR hx hb hts iw6 hown hK hw o0 0 g3 (by decide) rfl (by decide) rfl (hq _ qw335) (fun _ h9 => h9) dX6_change_1 eq4 ?_
  refine lv_iload_n hx hb dX6_change_4 rfl (lv_at hl 1 rfl) ?_
  replace h := gd_some h
  obtain ⟨g6, h⟩ := h
  replace h := bd_some h
  obtain ⟨r5, er5, h⟩ := h
  refine r_callVi (As := [.int a1]) (rest := []) hF (c_X1_hasSide l D cy ad adK adV M q4 a1 r5 er5) (gW_goodV hcm qw390 qw387 qw388 qw389 qw61) hdX1_hasSide rfl ⟨Nat.le_of_ble_eq_true rfl, Nat.le_of_ble_eq_true rfl⟩ rfl rfl hZ hK hw g6 (by decide) rfl rfl hl.1 rfl (Nat.le_of_ble_eq_true rfl) ⟨Nat.zero_le _, Nat.zero_le _⟩ dX6_change_5 (fun H locs hw => ?_)
  refine lv_if_eq (tgt := 19) hx hb dX6_change_8 (by decide) (fun c7 => ?_) (fun c7 => ?_)
  · replace h := if_some_t c7 h
    exact hb19 _ _ h _ _ _ hw (lv_sub hl [0] rfl)
  · replace h := if_some_f c7 h
    refine lv_iload_n hx hb dX6_change_11 rfl (lv_at hl 2 rfl) ?_
    refine lv_iload_n hx hb dX6_change_12 rfl (lv_at hl 3 rfl) ?_
    replace h := bd_some h
    obtain ⟨r8, er8, h⟩ := h
    refine r_callSi (As := [.int a2, .int a3]) (rest := []) hF (c_X6_canBecome l D cy ad adK adV r5.1 a2 a3 r8 er8) (gW_goodS hcm qw413 qw411 qw412 qw60) hdX6_canBecome ⟨Nat.le_of_ble_eq_true rfl, Nat.le_of_ble_eq_true rfl⟩ rfl rfl hZ hK hw rfl hl.1 rfl (Nat.le_of_ble_eq_true rfl) ⟨Nat.zero_le _, Nat.zero_le _⟩ dX6_change_13 (fun H locs hw => ?_)
    refine lv_if_ne (tgt := 25) hx hb dX6_change_16 (by decide) (fun c9 => ?_) (fun c9 => ?_)
    · replace h := if_some_f c9 h
      refine lv_aload_n hx hb dX6_change_25 rfl (lv_at hl 0 rfl) ?_
      replace h := bd_some h
      obtain ⟨q10, eq10, h⟩ := h
      refine r_getR hx hb hts iw6 hown hK hw o0 0 g3 (by decide) rfl (by decide) rfl (hq _ qw335) (fun _ h9 => h9) dX6_change_26 eq10 ?_
      replace h := gd_some h
      obtain ⟨g11, h⟩ := h
      replace h := bd_some h
      obtain ⟨q12, eq12, h⟩ := h
      refine r_getR hx hb hts iw1 hown hK hw q10 0 g11 (by decide) rfl (by decide) rfl (hq _ qw182) (fun _ h9 => h9) dX6_change_29 eq12 ?_
      refine lv_iload_n hx hb dX6_change_32 rfl (lv_at hl 1 rfl) ?_
      replace h := gd_some h
      obtain ⟨g13, h⟩ := h
      replace h := bd_some h
      obtain ⟨q14, eq14, h⟩ := h
      refine r_aald hx hb hK hw q12 2 (by decide) rfl g13 dX6_change_33 eq14 ?_
      refine lv_astore (lv' := [(4, .ref (ad q14)), (0, .ref (ad o0)), (1, .int a1), (2, .int a2), (3, .int a3)]) hx hb dX6_change_34 hl (by decide) rfl (fun ls hl => ?_)
      refine lv_iload_n hx hb dX6_change_36 rfl (lv_at hl 3 rfl) ?_
      refine lv_if_ne (tgt := 56) hx hb dX6_change_37 (by decide) (fun c15 => ?_) (fun c15 => ?_)
      · replace h := if_some_f c15 h
        refine lv_iload_n hx hb dX6_change_56 rfl (lv_at hl 3 rfl) ?_
        refine lv_iconst (v := (1 : Int32)) hx hb dX6_change_57 (by decide) ?_
        refine lv_icmp_ne (tgt := 77) hx hb dX6_change_58 (by decide) (fun c16 => ?_) (fun c16 => ?_)
        · replace h := if_some_f c16 h
          refine lv_aload hx hb dX6_change_77 (lv_at hl 0 rfl) ?_
          replace h := gd_some h
          obtain ⟨g17, h⟩ := h
          refine r_getI hx hb hts iw3 hown hK hw q14 2 g17 (by decide) rfl (by decide) rfl (hq _ qw104) (fun _ h9 => h9) dX6_change_79 ?_
          refine lv_istore (lv' := [(5, .int (r8.1.1 q14 2)), (4, .ref (ad q14)), (0, .ref (ad o0)), (1, .int a1), (2, .int a2), (3, .int a3)]) hx hb dX6_change_82 hl (by decide) rfl (fun ls hl => ?_)
          refine lv_aload hx hb dX6_change_84 (lv_at hl 1 rfl) ?_
          refine lv_iload_n hx hb dX6_change_86 rfl (lv_at hl 5 rfl) ?_
          refine r_putI hx hb hts iw3 tyX3 tyX3_ok nmX3 hown hK hw q14 2 g17 (by decide) rfl (by decide) rfl (hq _ qw104) (fun _ h9 => h9) rfl rfl rfl dX6_change_87 (fun H locs hw => ?_)
          replace h := lt_some h
          obtain ⟨M18, eM18, h⟩ := h
          rw [← eM18] at hw
          refine lv_iload hx hb dX6_change_90 (lv_at hl 0 rfl) ?_
          exact r_iret hx hb hr rfl hlocks hZ hK hw h dX6_change_92
        · replace h := if_some_t c16 h
          refine lv_aload hx hb dX6_change_61 (lv_at hl 0 rfl) ?_
          replace h := gd_some h
          obtain ⟨g19, h⟩ := h
          refine r_getI hx hb hts iw3 hown hK hw q14 1 g19 (by decide) rfl (by decide) rfl (hq _ qw101) (fun _ h9 => h9) dX6_change_63 ?_
          refine lv_istore (lv' := [(5, .int (r8.1.1 q14 1)), (4, .ref (ad q14)), (0, .ref (ad o0)), (1, .int a1), (2, .int a2), (3, .int a3)]) hx hb dX6_change_66 hl (by decide) rfl (fun ls hl => ?_)
          refine lv_aload hx hb dX6_change_68 (lv_at hl 1 rfl) ?_
          refine lv_iload_n hx hb dX6_change_70 rfl (lv_at hl 5 rfl) ?_
          refine r_putI hx hb hts iw3 tyX3 tyX3_ok nmX3 hown hK hw q14 1 g19 (by decide) rfl (by decide) rfl (hq _ qw101) (fun _ h9 => h9) rfl rfl rfl dX6_change_71 (fun H locs hw => ?_)
          replace h := lt_some h
          obtain ⟨M20, eM20, h⟩ := h
          rw [← eM20] at hw
          refine lv_goto (tgt := 90) hx hb dX6_change_74 (by decide) ?_
          refine lv_iload hx hb dX6_change_90 (lv_at hl 0 rfl) ?_
          exact r_iret hx hb hr rfl hlocks hZ hK hw h dX6_change_92
      · replace h := if_some_t c15 h
        refine lv_aload hx hb dX6_change_40 (lv_at hl 0 rfl) ?_
        replace h := gd_some h
        obtain ⟨g21, h⟩ := h
        refine r_getI hx hb hts iw3 hown hK hw q14 0 g21 (by decide) rfl (by decide) rfl (hq _ qw98) (fun _ h9 => h9) dX6_change_42 ?_
        refine lv_istore (lv' := [(5, .int (r8.1.1 q14 0)), (4, .ref (ad q14)), (0, .ref (ad o0)), (1, .int a1), (2, .int a2), (3, .int a3)]) hx hb dX6_change_45 hl (by decide) rfl (fun ls hl => ?_)
        refine lv_aload hx hb dX6_change_47 (lv_at hl 1 rfl) ?_
        refine lv_iload_n hx hb dX6_change_49 rfl (lv_at hl 5 rfl) ?_
        refine r_putI hx hb hts iw3 tyX3 tyX3_ok nmX3 hown hK hw q14 0 g21 (by decide) rfl (by decide) rfl (hq _ qw98) (fun _ h9 => h9) rfl rfl rfl dX6_change_50 (fun H locs hw => ?_)
        replace h := lt_some h
        obtain ⟨M22, eM22, h⟩ := h
        rw [← eM22] at hw
        refine lv_goto (tgt := 90) hx hb dX6_change_53 (by decide) ?_
        refine lv_iload hx hb dX6_change_90 (lv_at hl 0 rfl) ?_
        exact r_iret hx hb hr rfl hlocks hZ hK hw h dX6_change_92
    · replace h := if_some_t c9 h
      exact hb19 _ _ h _ _ _ hw (lv_sub hl [0] rfl)
theorem dX6_game_0 : decode cX6_game 0 = .ok (.aload_n 0, 1) := by decide +kernel
theorem dX6_game_1 : decode cX6_game 1 = .ok (.getfield 10, 3) := by decide +kernel
theorem dX6_game_4 : decode cX6_game 4 = .ok (.iload_n 1, 1) := by decide +kernel
theorem dX6_game_5 : decode cX6_game 5 = .ok (.invokevirtual 71, 3) := by decide +kernel
theorem dX6_game_8 : decode cX6_game 8 = .ok (.ifCond .eq 30, 3) := by decide +kernel
theorem dX6_game_11 : decode cX6_game 11 = .ok (.aload_n 0, 1) := by decide +kernel
theorem dX6_game_12 : decode cX6_game 12 = .ok (.getfield 10, 3) := by decide +kernel
theorem dX6_game_15 : decode cX6_game 15 = .ok (.iload_n 2, 1) := by decide +kernel
theorem dX6_game_16 : decode cX6_game 16 = .ok (.invokevirtual 71, 3) := by decide +kernel
theorem dX6_game_19 : decode cX6_game 19 = .ok (.ifCond .eq 19, 3) := by decide +kernel
theorem dX6_game_22 : decode cX6_game 22 = .ok (.iload_n 1, 1) := by decide +kernel
theorem dX6_game_23 : decode cX6_game 23 = .ok (.iload_n 2, 1) := by decide +kernel
theorem dX6_game_24 : decode cX6_game 24 = .ok (.if_icmp .eq 14, 3) := by decide +kernel
theorem dX6_game_27 : decode cX6_game 27 = .ok (.iload_n 3, 1) := by decide +kernel
theorem dX6_game_28 : decode cX6_game 28 = .ok (.iconst 1, 1) := by decide +kernel
theorem dX6_game_29 : decode cX6_game 29 = .ok (.if_icmp .lt 9, 3) := by decide +kernel
theorem dX6_game_32 : decode cX6_game 32 = .ok (.iload_n 3, 1) := by decide +kernel
theorem dX6_game_33 : decode cX6_game 33 = .ok (.bipush 9, 2) := by decide +kernel
theorem dX6_game_35 : decode cX6_game 35 = .ok (.if_icmp .le 9, 3) := by decide +kernel
theorem dX6_game_38 : decode cX6_game 38 = .ok (.aload_n 0, 1) := by decide +kernel
theorem dX6_game_39 : decode cX6_game 39 = .ok (.iconst 0, 1) := by decide +kernel
theorem dX6_game_40 : decode cX6_game 40 = .ok (.invokevirtual 59, 3) := by decide +kernel
theorem dX6_game_43 : decode cX6_game 43 = .ok (.ireturn, 1) := by decide +kernel
theorem dX6_game_44 : decode cX6_game 44 = .ok (.aload_n 0, 1) := by decide +kernel
theorem dX6_game_45 : decode cX6_game 45 = .ok (.getfield 10, 3) := by decide +kernel
theorem dX6_game_48 : decode cX6_game 48 = .ok (.getfield 108, 3) := by decide +kernel
theorem dX6_game_51 : decode cX6_game 51 = .ok (.bipush 8, 2) := by decide +kernel
theorem dX6_game_53 : decode cX6_game 53 = .ok (.if_icmp .lt 9, 3) := by decide +kernel
theorem dX6_game_56 : decode cX6_game 56 = .ok (.aload_n 0, 1) := by decide +kernel
theorem dX6_game_57 : decode cX6_game 57 = .ok (.iconst 1, 1) := by decide +kernel
theorem dX6_game_58 : decode cX6_game 58 = .ok (.invokevirtual 59, 3) := by decide +kernel
theorem dX6_game_61 : decode cX6_game 61 = .ok (.ireturn, 1) := by decide +kernel
theorem dX6_game_62 : decode cX6_game 62 = .ok (.aload_n 0, 1) := by decide +kernel
theorem dX6_game_63 : decode cX6_game 63 = .ok (.getfield 10, 3) := by decide +kernel
theorem dX6_game_66 : decode cX6_game 66 = .ok (.iload_n 1, 1) := by decide +kernel
theorem dX6_game_67 : decode cX6_game 67 = .ok (.iload_n 2, 1) := by decide +kernel
theorem dX6_game_68 : decode cX6_game 68 = .ok (.iload_n 3, 1) := by decide +kernel
theorem dX6_game_69 : decode cX6_game 69 = .ok (.invokevirtual 111, 3) := by decide +kernel
theorem dX6_game_72 : decode cX6_game 72 = .ok (.ireturn, 1) := by decide +kernel
set_option maxHeartbeats 4000000 in
set_option maxRecDepth 100000 in
theorem c_X6_game (l : Launch) (D : va_G) (cy : Nat → ClassId) (ad adK adV : Nat → Nat) (M : Mm) (o0 : Nat) (a1 : Int32) (a2 : Int32) (a3 : Int32) (res : Mm × Int32) (h : f_X6_game M o0 a1 a2 a3 = some res) : Met l yX6_game (wU yX6_game cX6_game 4 (some .int)) rmX6_game (va_Pc [.ref (ad o0), .int a1, .int a2, .int a3] (Pre D cy shX ad nX adK adV M)) (va_Qi (fun r (M2 : Mm) => r = res.2 ∧ M2 = res.1) (Pre D cy shX ad nX adK adV) (Aw ad nX)) 0 0 (Aw ad nX) := by
  refine Met.ofW (cc := cX6_game) (maxL := 4) (ret := (some .int)) (by decide) rfl ?_
  intro p e s m args below meth c s₁ B hml hv
  obtain ⟨hargs, hPre⟩ := hv
  have hx := B.exec
  have hb := B.bytes
  have hr := B.returns
  have hts := atoms_spec (ws := wU yX6_game cX6_game 4 (some .int)) B.pre
  have hq : ∀ w ∈ gW, w.before args s = true := fun w hw => hts w (List.mem_cons_of_mem _ hw)
  have hcm : ∀ w ∈ gW, w ∈ wU yX6_game cX6_game 4 (some .int) := fun w hw => List.mem_cons_of_mem _ hw
  have hown : s.vm.findClass RX6 = some m.cls := findClass_of_methodNamed B.named
  have hlocks := B.notSynchronized
  have hF : CallFix p m c cX6_game 4 s args (wU yX6_game cX6_game 4 (some .int)) RX6 := ⟨hx, hb, hml, hown, hts⟩
  have hK := hPre.2.1
  have hZ := hPre.2.2.2
  have hw : Wd D cy shX ad nX (Aw ad nX) s.heap M s.heap [] := ⟨hPre.1, hPre.2.2.1, va_S.rf⟩
  have iw1 : ∀ w ∈ u_ws RX1 TX1 11, w ∈ wU yX6_game cX6_game 4 (some .int) := fun w hw => List.mem_cons_of_mem _ (iX1 w hw)
  have iw6 : ∀ w ∈ u_ws RX6 TX6 8, w ∈ wU yX6_game cX6_game 4 (some .int) := fun w hw => List.mem_cons_of_mem _ (iX6 w hw)
  rw [show entryFrame m args 4 = entryFrame m ([.ref (ad o0), .int a1, .int a2, .int a3] : List Value).toArray 4 from by rw [hargs]]
  have hl := lv_entry ([.ref (ad o0), .int a1, .int a2, .int a3]) (n := 4) (Nat.le_of_ble_eq_true rfl)
  rw [lg_entry_eq]
  generalize (lg_sl ([.ref (ad o0), .int a1, .int a2, .int a3]) ++ List.replicate (4 - (lg_sl ([.ref (ad o0), .int a1, .int a2, .int a3])).length) Slot.unset).toArray = ls at hl ⊢
  have hl : lv_has ls 4 [(0, .ref (ad o0)), (1, .int a1), (2, .int a2), (3, .int a3)] := hl
  have hb38 : ∀ (M : Mm) (x0 : Nat), f_X6_game_b38 M x0 = some res → ∀ (H : Heap) (locs : List Loc) (ls : Array Slot), Wd D cy shX ad nX (Aw ad nX) s.heap M H locs → lv_has ls 4 [(0, .ref (ad x0))] → W p l e (headSpec (wU yX6_game cX6_game 4 (some .int)) rmX6_game).room s m args below meth c H locs 0 0 (QI D cy shX ad nX adK adV below args s res) (F0 m 38 ls []) := by
    intro M x0 h H locs ls hw hl
    unfold f_X6_game_b38 at h
    refine lv_aload_n hx hb dX6_game_38 rfl (lv_at hl 0 rfl) ?_
    refine lv_iconst (v := (0 : Int32)) hx hb dX6_game_39 (by decide) ?_
    replace h := gd_some h
    obtain ⟨g2, h⟩ := h
    replace h := bd_some h
    obtain ⟨r1, er1, h⟩ := h
    refine r_callVi (As := [.int (0 : Int32)]) (rest := []) hF (c_X6_finding l D cy ad adK adV M x0 (0 : Int32) r1 er1) (gW_goodV hcm qw373 qw370 qw372 qw0 qw60) hdX6_finding rfl ⟨Nat.le_of_ble_eq_true rfl, Nat.le_of_ble_eq_true rfl⟩ rfl rfl hZ hK hw g2 (by decide) rfl rfl hl.1 rfl (Nat.le_of_ble_eq_true rfl) ⟨Nat.zero_le _, Nat.zero_le _⟩ dX6_game_40 (fun H locs hw => ?_)
    exact r_iret hx hb hr rfl hlocks hZ hK hw h dX6_game_43
  unfold f_X6_game at h
  refine lv_aload_n hx hb dX6_game_0 rfl (lv_at hl 0 rfl) ?_
  replace h := gd_some h
  obtain ⟨g3, h⟩ := h
  replace h := bd_some h
  obtain ⟨q4, eq4, h⟩ := h
  refine r_getR hx hb hts iw6 hown hK hw o0 0 g3 (by decide) rfl (by decide) rfl (hq _ qw335) (fun _ h9 => h9) dX6_game_1 eq4 ?_
  refine lv_iload_n hx hb dX6_game_4 rfl (lv_at hl 1 rfl) ?_
  replace h := gd_some h
  obtain ⟨g6, h⟩ := h
  replace h := bd_some h
  obtain ⟨r5, er5, h⟩ := h
  refine r_callVi (As := [.int a1]) (rest := []) hF (c_X1_hasSide l D cy ad adK adV M q4 a1 r5 er5) (gW_goodV hcm qw390 qw387 qw388 qw389 qw61) hdX1_hasSide rfl ⟨Nat.le_of_ble_eq_true rfl, Nat.le_of_ble_eq_true rfl⟩ rfl rfl hZ hK hw g6 (by decide) rfl rfl hl.1 rfl (Nat.le_of_ble_eq_true rfl) ⟨Nat.zero_le _, Nat.zero_le _⟩ dX6_game_5 (fun H locs hw => ?_)
  refine lv_if_eq (tgt := 38) hx hb dX6_game_8 (by decide) (fun c7 => ?_) (fun c7 => ?_)
  · replace h := if_some_t c7 h
    exact hb38 _ _ h _ _ _ hw (lv_sub hl [0] rfl)
  · replace h := if_some_f c7 h
    refine lv_aload_n hx hb dX6_game_11 rfl (lv_at hl 0 rfl) ?_
    replace h := bd_some h
    obtain ⟨q8, eq8, h⟩ := h
    refine r_getR hx hb hts iw6 hown hK hw o0 0 g3 (by decide) rfl (by decide) rfl (hq _ qw335) (fun _ h9 => h9) dX6_game_12 eq8 ?_
    refine lv_iload_n hx hb dX6_game_15 rfl (lv_at hl 2 rfl) ?_
    replace h := gd_some h
    obtain ⟨g10, h⟩ := h
    replace h := bd_some h
    obtain ⟨r9, er9, h⟩ := h
    refine r_callVi (As := [.int a2]) (rest := []) hF (c_X1_hasSide l D cy ad adK adV r5.1 q8 a2 r9 er9) (gW_goodV hcm qw390 qw387 qw388 qw389 qw61) hdX1_hasSide rfl ⟨Nat.le_of_ble_eq_true rfl, Nat.le_of_ble_eq_true rfl⟩ rfl rfl hZ hK hw g10 (by decide) rfl rfl hl.1 rfl (Nat.le_of_ble_eq_true rfl) ⟨Nat.zero_le _, Nat.zero_le _⟩ dX6_game_16 (fun H locs hw => ?_)
    refine lv_if_eq (tgt := 38) hx hb dX6_game_19 (by decide) (fun c11 => ?_) (fun c11 => ?_)
    · replace h := if_some_t c11 h
      exact hb38 _ _ h _ _ _ hw (lv_sub hl [0] rfl)
    · replace h := if_some_f c11 h
      refine lv_iload_n hx hb dX6_game_22 rfl (lv_at hl 1 rfl) ?_
      refine lv_iload_n hx hb dX6_game_23 rfl (lv_at hl 2 rfl) ?_
      refine lv_icmp_eq (tgt := 38) hx hb dX6_game_24 (by decide) (fun c12 => ?_) (fun c12 => ?_)
      · replace h := if_some_t c12 h
        exact hb38 _ _ h _ _ _ hw (lv_sub hl [0] rfl)
      · replace h := if_some_f c12 h
        refine lv_iload_n hx hb dX6_game_27 rfl (lv_at hl 3 rfl) ?_
        refine lv_iconst (v := (1 : Int32)) hx hb dX6_game_28 (by decide) ?_
        refine lv_icmp_lt (tgt := 38) hx hb dX6_game_29 (by decide) (fun c13 => ?_) (fun c13 => ?_)
        · replace h := if_some_t c13 h
          exact hb38 _ _ h _ _ _ hw (lv_sub hl [0] rfl)
        · replace h := if_some_f c13 h
          refine lv_iload_n hx hb dX6_game_32 rfl (lv_at hl 3 rfl) ?_
          refine lv_bipush (v := (9 : Int32)) hx hb dX6_game_33 (by decide) ?_
          refine lv_icmp_le (tgt := 44) hx hb dX6_game_35 (by decide) (fun c14 => ?_) (fun c14 => ?_)
          · replace h := if_some_t c14 h
            refine lv_aload_n hx hb dX6_game_44 rfl (lv_at hl 0 rfl) ?_
            replace h := bd_some h
            obtain ⟨q15, eq15, h⟩ := h
            refine r_getR hx hb hts iw6 hown hK hw o0 0 g3 (by decide) rfl (by decide) rfl (hq _ qw335) (fun _ h9 => h9) dX6_game_45 eq15 ?_
            replace h := gd_some h
            obtain ⟨g16, h⟩ := h
            refine r_getI hx hb hts iw1 hown hK hw q15 4 g16 (by decide) rfl (by decide) rfl (hq _ qw195) (fun _ h9 => h9) dX6_game_48 ?_
            refine lv_bipush (v := (8 : Int32)) hx hb dX6_game_51 (by decide) ?_
            refine lv_icmp_lt (tgt := 62) hx hb dX6_game_53 (by decide) (fun c17 => ?_) (fun c17 => ?_)
            · replace h := if_some_t c17 h
              refine lv_aload_n hx hb dX6_game_62 rfl (lv_at hl 0 rfl) ?_
              replace h := bd_some h
              obtain ⟨q18, eq18, h⟩ := h
              refine r_getR hx hb hts iw6 hown hK hw o0 0 g3 (by decide) rfl (by decide) rfl (hq _ qw335) (fun _ h9 => h9) dX6_game_63 eq18 ?_
              refine lv_iload_n hx hb dX6_game_66 rfl (lv_at hl 1 rfl) ?_
              refine lv_iload_n hx hb dX6_game_67 rfl (lv_at hl 2 rfl) ?_
              refine lv_iload_n hx hb dX6_game_68 rfl (lv_at hl 3 rfl) ?_
              replace h := gd_some h
              obtain ⟨g20, h⟩ := h
              replace h := bd_some h
              obtain ⟨r19, er19, h⟩ := h
              refine r_callVi (As := [.int a1, .int a2, .int a3]) (rest := []) hF (c_X1_addGame l D cy ad adK adV r9.1 q18 a1 a2 a3 r19 er19) (gW_goodV hcm qw421 qw418 qw419 qw420 qw61) hdX1_addGame rfl ⟨Nat.le_of_ble_eq_true rfl, Nat.le_of_ble_eq_true rfl⟩ rfl rfl hZ hK hw g20 (by decide) rfl rfl hl.1 rfl (Nat.le_of_ble_eq_true rfl) ⟨Nat.zero_le _, Nat.zero_le _⟩ dX6_game_69 (fun H locs hw => ?_)
              exact r_iret hx hb hr rfl hlocks hZ hK hw h dX6_game_72
            · replace h := if_some_f c17 h
              refine lv_aload_n hx hb dX6_game_56 rfl (lv_at hl 0 rfl) ?_
              refine lv_iconst (v := (1 : Int32)) hx hb dX6_game_57 (by decide) ?_
              replace h := bd_some h
              obtain ⟨r21, er21, h⟩ := h
              refine r_callVi (As := [.int (1 : Int32)]) (rest := []) hF (c_X6_finding l D cy ad adK adV r9.1 o0 (1 : Int32) r21 er21) (gW_goodV hcm qw373 qw370 qw372 qw0 qw60) hdX6_finding rfl ⟨Nat.le_of_ble_eq_true rfl, Nat.le_of_ble_eq_true rfl⟩ rfl rfl hZ hK hw g3 (by decide) rfl rfl hl.1 rfl (Nat.le_of_ble_eq_true rfl) ⟨Nat.zero_le _, Nat.zero_le _⟩ dX6_game_58 (fun H locs hw => ?_)
              exact r_iret hx hb hr rfl hlocks hZ hK hw h dX6_game_61
          · replace h := if_some_f c14 h
            exact hb38 _ _ h _ _ _ hw (lv_sub hl [0] rfl)
theorem dX6_gameOf_0 : decode cX6_gameOf 0 = .ok (.aload_n 0, 1) := by decide +kernel
theorem dX6_gameOf_1 : decode cX6_gameOf 1 = .ok (.getfield 10, 3) := by decide +kernel
theorem dX6_gameOf_4 : decode cX6_gameOf 4 = .ok (.iload_n 1, 1) := by decide +kernel
theorem dX6_gameOf_5 : decode cX6_gameOf 5 = .ok (.invokevirtual 114, 3) := by decide +kernel
theorem dX6_gameOf_8 : decode cX6_gameOf 8 = .ok (.ifCond .eq 12, 3) := by decide +kernel
theorem dX6_gameOf_11 : decode cX6_gameOf 11 = .ok (.iload_n 2, 1) := by decide +kernel
theorem dX6_gameOf_12 : decode cX6_gameOf 12 = .ok (.ifCond .lt 8, 3) := by decide +kernel
theorem dX6_gameOf_15 : decode cX6_gameOf 15 = .ok (.iload_n 2, 1) := by decide +kernel
theorem dX6_gameOf_16 : decode cX6_gameOf 16 = .ok (.iconst 4, 1) := by decide +kernel
theorem dX6_gameOf_17 : decode cX6_gameOf 17 = .ok (.if_icmp .le 9, 3) := by decide +kernel
theorem dX6_gameOf_20 : decode cX6_gameOf 20 = .ok (.aload_n 0, 1) := by decide +kernel
theorem dX6_gameOf_21 : decode cX6_gameOf 21 = .ok (.iconst 0, 1) := by decide +kernel
theorem dX6_gameOf_22 : decode cX6_gameOf 22 = .ok (.invokevirtual 59, 3) := by decide +kernel
theorem dX6_gameOf_25 : decode cX6_gameOf 25 = .ok (.ireturn, 1) := by decide +kernel
theorem dX6_gameOf_26 : decode cX6_gameOf 26 = .ok (.iload_n 2, 1) := by decide +kernel
theorem dX6_gameOf_27 : decode cX6_gameOf 27 = .ok (.iconst 2, 1) := by decide +kernel
theorem dX6_gameOf_28 : decode cX6_gameOf 28 = .ok (.if_icmp .le 20, 3) := by decide +kernel
theorem dX6_gameOf_31 : decode cX6_gameOf 31 = .ok (.iload_n 1, 1) := by decide +kernel
theorem dX6_gameOf_32 : decode cX6_gameOf 32 = .ok (.aload_n 0, 1) := by decide +kernel
theorem dX6_gameOf_33 : decode cX6_gameOf 33 = .ok (.getfield 10, 3) := by decide +kernel
theorem dX6_gameOf_36 : decode cX6_gameOf 36 = .ok (.getfield 117, 3) := by decide +kernel
theorem dX6_gameOf_39 : decode cX6_gameOf 39 = .ok (.if_icmp .lt 9, 3) := by decide +kernel
theorem dX6_gameOf_42 : decode cX6_gameOf 42 = .ok (.aload_n 0, 1) := by decide +kernel
theorem dX6_gameOf_43 : decode cX6_gameOf 43 = .ok (.iconst 3, 1) := by decide +kernel
theorem dX6_gameOf_44 : decode cX6_gameOf 44 = .ok (.invokevirtual 59, 3) := by decide +kernel
theorem dX6_gameOf_47 : decode cX6_gameOf 47 = .ok (.ireturn, 1) := by decide +kernel
theorem dX6_gameOf_48 : decode cX6_gameOf 48 = .ok (.aload_n 0, 1) := by decide +kernel
theorem dX6_gameOf_49 : decode cX6_gameOf 49 = .ok (.getfield 10, 3) := by decide +kernel
theorem dX6_gameOf_52 : decode cX6_gameOf 52 = .ok (.getfield 120, 3) := by decide +kernel
theorem dX6_gameOf_55 : decode cX6_gameOf 55 = .ok (.iload_n 1, 1) := by decide +kernel
theorem dX6_gameOf_56 : decode cX6_gameOf 56 = .ok (.aaload, 1) := by decide +kernel
theorem dX6_gameOf_57 : decode cX6_gameOf 57 = .ok (.astore_n 3, 1) := by decide +kernel
theorem dX6_gameOf_58 : decode cX6_gameOf 58 = .ok (.iload_n 2, 1) := by decide +kernel
theorem dX6_gameOf_59 : decode cX6_gameOf 59 = .ok (.tableswitch 49 0 3 #[29, 34, 39, 44], 29) := by decide +kernel
theorem dX6_gameOf_88 : decode cX6_gameOf 88 = .ok (.aload_n 3, 1) := by decide +kernel
theorem dX6_gameOf_89 : decode cX6_gameOf 89 = .ok (.getfield 124, 3) := by decide +kernel
theorem dX6_gameOf_92 : decode cX6_gameOf 92 = .ok (.ireturn, 1) := by decide +kernel
theorem dX6_gameOf_93 : decode cX6_gameOf 93 = .ok (.aload_n 3, 1) := by decide +kernel
theorem dX6_gameOf_94 : decode cX6_gameOf 94 = .ok (.getfield 129, 3) := by decide +kernel
theorem dX6_gameOf_97 : decode cX6_gameOf 97 = .ok (.ireturn, 1) := by decide +kernel
theorem dX6_gameOf_98 : decode cX6_gameOf 98 = .ok (.aload_n 3, 1) := by decide +kernel
theorem dX6_gameOf_99 : decode cX6_gameOf 99 = .ok (.getfield 132, 3) := by decide +kernel
theorem dX6_gameOf_102 : decode cX6_gameOf 102 = .ok (.ireturn, 1) := by decide +kernel
theorem dX6_gameOf_103 : decode cX6_gameOf 103 = .ok (.aload_n 3, 1) := by decide +kernel
theorem dX6_gameOf_104 : decode cX6_gameOf 104 = .ok (.getfield 135, 3) := by decide +kernel
theorem dX6_gameOf_107 : decode cX6_gameOf 107 = .ok (.ireturn, 1) := by decide +kernel
theorem dX6_gameOf_108 : decode cX6_gameOf 108 = .ok (.aload_n 3, 1) := by decide +kernel
theorem dX6_gameOf_109 : decode cX6_gameOf 109 = .ok (.getfield 138, 3) := by decide +kernel
theorem dX6_gameOf_112 : decode cX6_gameOf 112 = .ok (.ireturn, 1) := by decide +kernel
set_option maxHeartbeats 4000000 in
set_option maxRecDepth 100000 in
theorem c_X6_gameOf (l : Launch) (D : va_G) (cy : Nat → ClassId) (ad adK adV : Nat → Nat) (M : Mm) (o0 : Nat) (a1 : Int32) (a2 : Int32) (res : Mm × Int32) (h : f_X6_gameOf M o0 a1 a2 = some res) : Met l yX6_gameOf (wU yX6_gameOf cX6_gameOf 4 (some .int)) rmX6_gameOf (va_Pc [.ref (ad o0), .int a1, .int a2] (Pre D cy shX ad nX adK adV M)) (va_Qi (fun r (M2 : Mm) => r = res.2 ∧ M2 = res.1) (Pre D cy shX ad nX adK adV) (Aw ad nX)) 0 0 (Aw ad nX) := by
  refine Met.ofW (cc := cX6_gameOf) (maxL := 4) (ret := (some .int)) (by decide) rfl ?_
  intro p e s m args below meth c s₁ B hml hv
  obtain ⟨hargs, hPre⟩ := hv
  have hx := B.exec
  have hb := B.bytes
  have hr := B.returns
  have hts := atoms_spec (ws := wU yX6_gameOf cX6_gameOf 4 (some .int)) B.pre
  have hq : ∀ w ∈ gW, w.before args s = true := fun w hw => hts w (List.mem_cons_of_mem _ hw)
  have hcm : ∀ w ∈ gW, w ∈ wU yX6_gameOf cX6_gameOf 4 (some .int) := fun w hw => List.mem_cons_of_mem _ hw
  have hown : s.vm.findClass RX6 = some m.cls := findClass_of_methodNamed B.named
  have hlocks := B.notSynchronized
  have hF : CallFix p m c cX6_gameOf 4 s args (wU yX6_gameOf cX6_gameOf 4 (some .int)) RX6 := ⟨hx, hb, hml, hown, hts⟩
  have hK := hPre.2.1
  have hZ := hPre.2.2.2
  have hw : Wd D cy shX ad nX (Aw ad nX) s.heap M s.heap [] := ⟨hPre.1, hPre.2.2.1, va_S.rf⟩
  have iw0 : ∀ w ∈ u_ws RX0 TX0 9, w ∈ wU yX6_gameOf cX6_gameOf 4 (some .int) := fun w hw => List.mem_cons_of_mem _ (iX0 w hw)
  have iw1 : ∀ w ∈ u_ws RX1 TX1 11, w ∈ wU yX6_gameOf cX6_gameOf 4 (some .int) := fun w hw => List.mem_cons_of_mem _ (iX1 w hw)
  have iw6 : ∀ w ∈ u_ws RX6 TX6 8, w ∈ wU yX6_gameOf cX6_gameOf 4 (some .int) := fun w hw => List.mem_cons_of_mem _ (iX6 w hw)
  rw [show entryFrame m args 4 = entryFrame m ([.ref (ad o0), .int a1, .int a2] : List Value).toArray 4 from by rw [hargs]]
  have hl := lv_entry ([.ref (ad o0), .int a1, .int a2]) (n := 4) (Nat.le_of_ble_eq_true rfl)
  rw [lg_entry_eq]
  generalize (lg_sl ([.ref (ad o0), .int a1, .int a2]) ++ List.replicate (4 - (lg_sl ([.ref (ad o0), .int a1, .int a2])).length) Slot.unset).toArray = ls at hl ⊢
  have hl : lv_has ls 4 [(0, .ref (ad o0)), (1, .int a1), (2, .int a2)] := hl
  have hb48 : ∀ (M : Mm) (x0 : Nat) (x1 : Int32) (x2 : Int32), f_X6_gameOf_b48 M x0 x1 x2 = some res → ∀ (H : Heap) (locs : List Loc) (ls : Array Slot), Wd D cy shX ad nX (Aw ad nX) s.heap M H locs → lv_has ls 4 [(0, .ref (ad x0)), (1, .int x1), (2, .int x2)] → W p l e (headSpec (wU yX6_gameOf cX6_gameOf 4 (some .int)) rmX6_gameOf).room s m args below meth c H locs 0 0 (QI D cy shX ad nX adK adV below args s res) (F0 m 48 ls []) := by
    intro M x0 x1 x2 h H locs ls hw hl
    unfold f_X6_gameOf_b48 at h
    refine lv_aload_n hx hb dX6_gameOf_48 rfl (lv_at hl 0 rfl) ?_
    replace h := gd_some h
    obtain ⟨g1, h⟩ := h
    replace h := bd_some h
    obtain ⟨q2, eq2, h⟩ := h
    refine r_getR hx hb hts iw6 hown hK hw x0 0 g1 (by decide) rfl (by decide) rfl (hq _ qw335) (fun _ h9 => h9) dX6_gameOf_49 eq2 ?_
    replace h := gd_some h
    obtain ⟨g3, h⟩ := h
    replace h := bd_some h
    obtain ⟨q4, eq4, h⟩ := h
    refine r_getR hx hb hts iw1 hown hK hw q2 1 g3 (by decide) rfl (by decide) rfl (hq _ qw186) (fun _ h9 => h9) dX6_gameOf_52 eq4 ?_
    refine lv_iload_n hx hb dX6_gameOf_55 rfl (lv_at hl 1 rfl) ?_
    replace h := gd_some h
    obtain ⟨g5, h⟩ := h
    replace h := bd_some h
    obtain ⟨q6, eq6, h⟩ := h
    refine r_aald hx hb hK hw q4 3 (by decide) rfl g5 dX6_gameOf_56 eq6 ?_
    refine lv_astore_n (lv' := [(3, .ref (ad q6)), (0, .ref (ad x0)), (1, .int x1), (2, .int x2)]) hx hb dX6_gameOf_57 rfl hl (by decide) rfl (fun ls hl => ?_)
    refine lv_iload_n hx hb dX6_gameOf_58 rfl (lv_at hl 3 rfl) ?_
    by_cases s7 : x2 = 0
    · replace h := if_some_t s7 h
      refine lv_tableIn (off := 29) (tgt := 88) hx hb dX6_gameOf_59 (by rw [s7]; decide) (by rw [s7]; decide) (by rw [s7]; decide) (by decide) ?_
      refine lv_aload_n hx hb dX6_gameOf_88 rfl (lv_at hl 0 rfl) ?_
      replace h := gd_some h
      obtain ⟨g8, h⟩ := h
      refine r_getI hx hb hts iw0 hown hK hw q6 0 g8 (by decide) rfl (by decide) rfl (hq _ qw136) (fun _ h9 => h9) dX6_gameOf_89 ?_
      exact r_iret hx hb hr rfl hlocks hZ hK hw h dX6_gameOf_92
    replace h := if_some_f s7 h
    by_cases s9 : x2 = 1
    · replace h := if_some_t s9 h
      refine lv_tableIn (off := 34) (tgt := 93) hx hb dX6_gameOf_59 (by rw [s9]; decide) (by rw [s9]; decide) (by rw [s9]; decide) (by decide) ?_
      refine lv_aload_n hx hb dX6_gameOf_93 rfl (lv_at hl 0 rfl) ?_
      replace h := gd_some h
      obtain ⟨g10, h⟩ := h
      refine r_getI hx hb hts iw0 hown hK hw q6 1 g10 (by decide) rfl (by decide) rfl (hq _ qw140) (fun _ h9 => h9) dX6_gameOf_94 ?_
      exact r_iret hx hb hr rfl hlocks hZ hK hw h dX6_gameOf_97
    replace h := if_some_f s9 h
    by_cases s11 : x2 = 2
    · replace h := if_some_t s11 h
      refine lv_tableIn (off := 39) (tgt := 98) hx hb dX6_gameOf_59 (by rw [s11]; decide) (by rw [s11]; decide) (by rw [s11]; decide) (by decide) ?_
      refine lv_aload_n hx hb dX6_gameOf_98 rfl (lv_at hl 0 rfl) ?_
      replace h := gd_some h
      obtain ⟨g12, h⟩ := h
      refine r_getI hx hb hts iw0 hown hK hw q6 2 g12 (by decide) rfl (by decide) rfl (hq _ qw143) (fun _ h9 => h9) dX6_gameOf_99 ?_
      exact r_iret hx hb hr rfl hlocks hZ hK hw h dX6_gameOf_102
    replace h := if_some_f s11 h
    by_cases s13 : x2 = 3
    · replace h := if_some_t s13 h
      refine lv_tableIn (off := 44) (tgt := 103) hx hb dX6_gameOf_59 (by rw [s13]; decide) (by rw [s13]; decide) (by rw [s13]; decide) (by decide) ?_
      refine lv_aload_n hx hb dX6_gameOf_103 rfl (lv_at hl 0 rfl) ?_
      replace h := gd_some h
      obtain ⟨g14, h⟩ := h
      refine r_getI hx hb hts iw0 hown hK hw q6 3 g14 (by decide) rfl (by decide) rfl (hq _ qw148) (fun _ h9 => h9) dX6_gameOf_104 ?_
      exact r_iret hx hb hr rfl hlocks hZ hK hw h dX6_gameOf_107
    replace h := if_some_f s13 h
    have hout16 : x2.toInt < 0 ∨ 3 < x2.toInt := by
      refine tsw_out (fun cz h1 h2 => ?_)
      rcases (show cz = 0 ∨ cz = 1 ∨ cz = 2 ∨ cz = 3 by omega) with rfl | rfl | rfl | rfl
      · exact fun e9 => s7 (e9.trans (by decide))
      · exact fun e9 => s9 (e9.trans (by decide))
      · exact fun e9 => s11 (e9.trans (by decide))
      · exact fun e9 => s13 (e9.trans (by decide))
    refine lv_tableOut (tgt := 108) hx hb dX6_gameOf_59 hout16 (by decide) ?_
    refine lv_aload_n hx hb dX6_gameOf_108 rfl (lv_at hl 0 rfl) ?_
    replace h := gd_some h
    obtain ⟨g15, h⟩ := h
    refine r_getI hx hb hts iw0 hown hK hw q6 4 g15 (by decide) rfl (by decide) rfl (hq _ qw152) (fun _ h9 => h9) dX6_gameOf_109 ?_
    exact r_iret hx hb hr rfl hlocks hZ hK hw h dX6_gameOf_112
  have hb20 : ∀ (M : Mm) (x0 : Nat), f_X6_gameOf_b20 M x0 = some res → ∀ (H : Heap) (locs : List Loc) (ls : Array Slot), Wd D cy shX ad nX (Aw ad nX) s.heap M H locs → lv_has ls 4 [(0, .ref (ad x0))] → W p l e (headSpec (wU yX6_gameOf cX6_gameOf 4 (some .int)) rmX6_gameOf).room s m args below meth c H locs 0 0 (QI D cy shX ad nX adK adV below args s res) (F0 m 20 ls []) := by
    intro M x0 h H locs ls hw hl
    unfold f_X6_gameOf_b20 at h
    refine lv_aload_n hx hb dX6_gameOf_20 rfl (lv_at hl 0 rfl) ?_
    refine lv_iconst (v := (0 : Int32)) hx hb dX6_gameOf_21 (by decide) ?_
    replace h := gd_some h
    obtain ⟨g18, h⟩ := h
    replace h := bd_some h
    obtain ⟨r17, er17, h⟩ := h
    refine r_callVi (As := [.int (0 : Int32)]) (rest := []) hF (c_X6_finding l D cy ad adK adV M x0 (0 : Int32) r17 er17) (gW_goodV hcm qw373 qw370 qw372 qw0 qw60) hdX6_finding rfl ⟨Nat.le_of_ble_eq_true rfl, Nat.le_of_ble_eq_true rfl⟩ rfl rfl hZ hK hw g18 (by decide) rfl rfl hl.1 rfl (Nat.le_of_ble_eq_true rfl) ⟨Nat.zero_le _, Nat.zero_le _⟩ dX6_gameOf_22 (fun H locs hw => ?_)
    exact r_iret hx hb hr rfl hlocks hZ hK hw h dX6_gameOf_25
  unfold f_X6_gameOf at h
  refine lv_aload_n hx hb dX6_gameOf_0 rfl (lv_at hl 0 rfl) ?_
  replace h := gd_some h
  obtain ⟨g19, h⟩ := h
  replace h := bd_some h
  obtain ⟨q20, eq20, h⟩ := h
  refine r_getR hx hb hts iw6 hown hK hw o0 0 g19 (by decide) rfl (by decide) rfl (hq _ qw335) (fun _ h9 => h9) dX6_gameOf_1 eq20 ?_
  refine lv_iload_n hx hb dX6_gameOf_4 rfl (lv_at hl 1 rfl) ?_
  replace h := gd_some h
  obtain ⟨g22, h⟩ := h
  replace h := bd_some h
  obtain ⟨r21, er21, h⟩ := h
  refine r_callVi (As := [.int a1]) (rest := []) hF (c_X1_hasGame l D cy ad adK adV M q20 a1 r21 er21) (gW_goodV hcm qw429 qw426 qw427 qw428 qw61) hdX1_hasGame rfl ⟨Nat.le_of_ble_eq_true rfl, Nat.le_of_ble_eq_true rfl⟩ rfl rfl hZ hK hw g22 (by decide) rfl rfl hl.1 rfl (Nat.le_of_ble_eq_true rfl) ⟨Nat.zero_le _, Nat.zero_le _⟩ dX6_gameOf_5 (fun H locs hw => ?_)
  refine lv_if_eq (tgt := 20) hx hb dX6_gameOf_8 (by decide) (fun c23 => ?_) (fun c23 => ?_)
  · replace h := if_some_t c23 h
    exact hb20 _ _ h _ _ _ hw (lv_sub hl [0] rfl)
  · replace h := if_some_f c23 h
    refine lv_iload_n hx hb dX6_gameOf_11 rfl (lv_at hl 2 rfl) ?_
    refine lv_if_lt (tgt := 20) hx hb dX6_gameOf_12 (by decide) (fun c24 => ?_) (fun c24 => ?_)
    · replace h := if_some_t c24 h
      exact hb20 _ _ h _ _ _ hw (lv_sub hl [0] rfl)
    · replace h := if_some_f c24 h
      refine lv_iload_n hx hb dX6_gameOf_15 rfl (lv_at hl 2 rfl) ?_
      refine lv_iconst (v := (4 : Int32)) hx hb dX6_gameOf_16 (by decide) ?_
      refine lv_icmp_le (tgt := 26) hx hb dX6_gameOf_17 (by decide) (fun c25 => ?_) (fun c25 => ?_)
      · replace h := if_some_t c25 h
        refine lv_iload_n hx hb dX6_gameOf_26 rfl (lv_at hl 2 rfl) ?_
        refine lv_iconst (v := (2 : Int32)) hx hb dX6_gameOf_27 (by decide) ?_
        refine lv_icmp_le (tgt := 48) hx hb dX6_gameOf_28 (by decide) (fun c26 => ?_) (fun c26 => ?_)
        · replace h := if_some_t c26 h
          exact hb48 _ _ _ _ h _ _ _ hw (lv_sub hl [0, 1, 2] rfl)
        · replace h := if_some_f c26 h
          refine lv_iload_n hx hb dX6_gameOf_31 rfl (lv_at hl 1 rfl) ?_
          refine lv_aload_n hx hb dX6_gameOf_32 rfl (lv_at hl 0 rfl) ?_
          replace h := bd_some h
          obtain ⟨q27, eq27, h⟩ := h
          refine r_getR hx hb hts iw6 hown hK hw o0 0 g19 (by decide) rfl (by decide) rfl (hq _ qw335) (fun _ h9 => h9) dX6_gameOf_33 eq27 ?_
          replace h := gd_some h
          obtain ⟨g28, h⟩ := h
          refine r_getI hx hb hts iw1 hown hK hw q27 5 g28 (by decide) rfl (by decide) rfl (hq _ qw199) (fun _ h9 => h9) dX6_gameOf_36 ?_
          refine lv_icmp_lt (tgt := 48) hx hb dX6_gameOf_39 (by decide) (fun c29 => ?_) (fun c29 => ?_)
          · replace h := if_some_t c29 h
            exact hb48 _ _ _ _ h _ _ _ hw (lv_sub hl [0, 1, 2] rfl)
          · replace h := if_some_f c29 h
            refine lv_aload_n hx hb dX6_gameOf_42 rfl (lv_at hl 0 rfl) ?_
            refine lv_iconst (v := (3 : Int32)) hx hb dX6_gameOf_43 (by decide) ?_
            replace h := bd_some h
            obtain ⟨r30, er30, h⟩ := h
            refine r_callVi (As := [.int (3 : Int32)]) (rest := []) hF (c_X6_finding l D cy ad adK adV r21.1 o0 (3 : Int32) r30 er30) (gW_goodV hcm qw373 qw370 qw372 qw0 qw60) hdX6_finding rfl ⟨Nat.le_of_ble_eq_true rfl, Nat.le_of_ble_eq_true rfl⟩ rfl rfl hZ hK hw g19 (by decide) rfl rfl hl.1 rfl (Nat.le_of_ble_eq_true rfl) ⟨Nat.zero_le _, Nat.zero_le _⟩ dX6_gameOf_44 (fun H locs hw => ?_)
            exact r_iret hx hb hr rfl hlocks hZ hK hw h dX6_gameOf_47
      · replace h := if_some_f c25 h
        exact hb20 _ _ h _ _ _ hw (lv_sub hl [0] rfl)
theorem dX6_swap_0 : decode cX6_swap 0 = .ok (.aload_n 0, 1) := by decide +kernel
theorem dX6_swap_1 : decode cX6_swap 1 = .ok (.getfield 10, 3) := by decide +kernel
theorem dX6_swap_4 : decode cX6_swap 4 = .ok (.iload_n 1, 1) := by decide +kernel
theorem dX6_swap_5 : decode cX6_swap 5 = .ok (.invokevirtual 114, 3) := by decide +kernel
theorem dX6_swap_8 : decode cX6_swap 8 = .ok (.ifCond .eq 14, 3) := by decide +kernel
theorem dX6_swap_11 : decode cX6_swap 11 = .ok (.aload_n 0, 1) := by decide +kernel
theorem dX6_swap_12 : decode cX6_swap 12 = .ok (.getfield 10, 3) := by decide +kernel
theorem dX6_swap_15 : decode cX6_swap 15 = .ok (.iload_n 2, 1) := by decide +kernel
theorem dX6_swap_16 : decode cX6_swap 16 = .ok (.invokevirtual 114, 3) := by decide +kernel
theorem dX6_swap_19 : decode cX6_swap 19 = .ok (.ifCond .ne 9, 3) := by decide +kernel
theorem dX6_swap_22 : decode cX6_swap 22 = .ok (.aload_n 0, 1) := by decide +kernel
theorem dX6_swap_23 : decode cX6_swap 23 = .ok (.iconst 0, 1) := by decide +kernel
theorem dX6_swap_24 : decode cX6_swap 24 = .ok (.invokevirtual 59, 3) := by decide +kernel
theorem dX6_swap_27 : decode cX6_swap 27 = .ok (.ireturn, 1) := by decide +kernel
theorem dX6_swap_28 : decode cX6_swap 28 = .ok (.iload_n 1, 1) := by decide +kernel
theorem dX6_swap_29 : decode cX6_swap 29 = .ok (.aload_n 0, 1) := by decide +kernel
theorem dX6_swap_30 : decode cX6_swap 30 = .ok (.getfield 10, 3) := by decide +kernel
theorem dX6_swap_33 : decode cX6_swap 33 = .ok (.getfield 117, 3) := by decide +kernel
theorem dX6_swap_36 : decode cX6_swap 36 = .ok (.if_icmp .lt 14, 3) := by decide +kernel
theorem dX6_swap_39 : decode cX6_swap 39 = .ok (.iload_n 2, 1) := by decide +kernel
theorem dX6_swap_40 : decode cX6_swap 40 = .ok (.aload_n 0, 1) := by decide +kernel
theorem dX6_swap_41 : decode cX6_swap 41 = .ok (.getfield 10, 3) := by decide +kernel
theorem dX6_swap_44 : decode cX6_swap 44 = .ok (.getfield 117, 3) := by decide +kernel
theorem dX6_swap_47 : decode cX6_swap 47 = .ok (.if_icmp .ge 9, 3) := by decide +kernel
theorem dX6_swap_50 : decode cX6_swap 50 = .ok (.aload_n 0, 1) := by decide +kernel
theorem dX6_swap_51 : decode cX6_swap 51 = .ok (.iconst 4, 1) := by decide +kernel
theorem dX6_swap_52 : decode cX6_swap 52 = .ok (.invokevirtual 59, 3) := by decide +kernel
theorem dX6_swap_55 : decode cX6_swap 55 = .ok (.ireturn, 1) := by decide +kernel
theorem dX6_swap_56 : decode cX6_swap 56 = .ok (.aload_n 0, 1) := by decide +kernel
theorem dX6_swap_57 : decode cX6_swap 57 = .ok (.getfield 10, 3) := by decide +kernel
theorem dX6_swap_60 : decode cX6_swap 60 = .ok (.getfield 120, 3) := by decide +kernel
theorem dX6_swap_63 : decode cX6_swap 63 = .ok (.iload_n 1, 1) := by decide +kernel
theorem dX6_swap_64 : decode cX6_swap 64 = .ok (.aaload, 1) := by decide +kernel
theorem dX6_swap_65 : decode cX6_swap 65 = .ok (.astore_n 3, 1) := by decide +kernel
theorem dX6_swap_66 : decode cX6_swap 66 = .ok (.aload_n 0, 1) := by decide +kernel
theorem dX6_swap_67 : decode cX6_swap 67 = .ok (.getfield 10, 3) := by decide +kernel
theorem dX6_swap_70 : decode cX6_swap 70 = .ok (.getfield 120, 3) := by decide +kernel
theorem dX6_swap_73 : decode cX6_swap 73 = .ok (.iload_n 1, 1) := by decide +kernel
theorem dX6_swap_74 : decode cX6_swap 74 = .ok (.aload_n 0, 1) := by decide +kernel
theorem dX6_swap_75 : decode cX6_swap 75 = .ok (.getfield 10, 3) := by decide +kernel
theorem dX6_swap_78 : decode cX6_swap 78 = .ok (.getfield 120, 3) := by decide +kernel
theorem dX6_swap_81 : decode cX6_swap 81 = .ok (.iload_n 2, 1) := by decide +kernel
theorem dX6_swap_82 : decode cX6_swap 82 = .ok (.aaload, 1) := by decide +kernel
theorem dX6_swap_83 : decode cX6_swap 83 = .ok (.aastore, 1) := by decide +kernel
theorem dX6_swap_84 : decode cX6_swap 84 = .ok (.aload_n 0, 1) := by decide +kernel
theorem dX6_swap_85 : decode cX6_swap 85 = .ok (.getfield 10, 3) := by decide +kernel
theorem dX6_swap_88 : decode cX6_swap 88 = .ok (.getfield 120, 3) := by decide +kernel
theorem dX6_swap_91 : decode cX6_swap 91 = .ok (.iload_n 2, 1) := by decide +kernel
theorem dX6_swap_92 : decode cX6_swap 92 = .ok (.aload_n 3, 1) := by decide +kernel
theorem dX6_swap_93 : decode cX6_swap 93 = .ok (.aastore, 1) := by decide +kernel
theorem dX6_swap_94 : decode cX6_swap 94 = .ok (.iconst 1, 1) := by decide +kernel
theorem dX6_swap_95 : decode cX6_swap 95 = .ok (.ireturn, 1) := by decide +kernel
set_option maxHeartbeats 4000000 in
set_option maxRecDepth 100000 in
theorem c_X6_swap (l : Launch) (D : va_G) (cy : Nat → ClassId) (ad adK adV : Nat → Nat) (M : Mm) (o0 : Nat) (a1 : Int32) (a2 : Int32) (res : Mm × Int32) (h : f_X6_swap M o0 a1 a2 = some res) : Met l yX6_swap (wU yX6_swap cX6_swap 4 (some .int)) rmX6_swap (va_Pc [.ref (ad o0), .int a1, .int a2] (Pre D cy shX ad nX adK adV M)) (va_Qi (fun r (M2 : Mm) => r = res.2 ∧ M2 = res.1) (Pre D cy shX ad nX adK adV) (Aw ad nX)) 0 0 (Aw ad nX) := by
  refine Met.ofW (cc := cX6_swap) (maxL := 4) (ret := (some .int)) (by decide) rfl ?_
  intro p e s m args below meth c s₁ B hml hv
  obtain ⟨hargs, hPre⟩ := hv
  have hx := B.exec
  have hb := B.bytes
  have hr := B.returns
  have hts := atoms_spec (ws := wU yX6_swap cX6_swap 4 (some .int)) B.pre
  have hq : ∀ w ∈ gW, w.before args s = true := fun w hw => hts w (List.mem_cons_of_mem _ hw)
  have hcm : ∀ w ∈ gW, w ∈ wU yX6_swap cX6_swap 4 (some .int) := fun w hw => List.mem_cons_of_mem _ hw
  have hown : s.vm.findClass RX6 = some m.cls := findClass_of_methodNamed B.named
  have hlocks := B.notSynchronized
  have hF : CallFix p m c cX6_swap 4 s args (wU yX6_swap cX6_swap 4 (some .int)) RX6 := ⟨hx, hb, hml, hown, hts⟩
  have hK := hPre.2.1
  have hZ := hPre.2.2.2
  have hw : Wd D cy shX ad nX (Aw ad nX) s.heap M s.heap [] := ⟨hPre.1, hPre.2.2.1, va_S.rf⟩
  have iw1 : ∀ w ∈ u_ws RX1 TX1 11, w ∈ wU yX6_swap cX6_swap 4 (some .int) := fun w hw => List.mem_cons_of_mem _ (iX1 w hw)
  have iw6 : ∀ w ∈ u_ws RX6 TX6 8, w ∈ wU yX6_swap cX6_swap 4 (some .int) := fun w hw => List.mem_cons_of_mem _ (iX6 w hw)
  rw [show entryFrame m args 4 = entryFrame m ([.ref (ad o0), .int a1, .int a2] : List Value).toArray 4 from by rw [hargs]]
  have hl := lv_entry ([.ref (ad o0), .int a1, .int a2]) (n := 4) (Nat.le_of_ble_eq_true rfl)
  rw [lg_entry_eq]
  generalize (lg_sl ([.ref (ad o0), .int a1, .int a2]) ++ List.replicate (4 - (lg_sl ([.ref (ad o0), .int a1, .int a2])).length) Slot.unset).toArray = ls at hl ⊢
  have hl : lv_has ls 4 [(0, .ref (ad o0)), (1, .int a1), (2, .int a2)] := hl
  have hb50 : ∀ (M : Mm) (x0 : Nat), f_X6_swap_b50 M x0 = some res → ∀ (H : Heap) (locs : List Loc) (ls : Array Slot), Wd D cy shX ad nX (Aw ad nX) s.heap M H locs → lv_has ls 4 [(0, .ref (ad x0))] → W p l e (headSpec (wU yX6_swap cX6_swap 4 (some .int)) rmX6_swap).room s m args below meth c H locs 0 0 (QI D cy shX ad nX adK adV below args s res) (F0 m 50 ls []) := by
    intro M x0 h H locs ls hw hl
    unfold f_X6_swap_b50 at h
    refine lv_aload_n hx hb dX6_swap_50 rfl (lv_at hl 0 rfl) ?_
    refine lv_iconst (v := (4 : Int32)) hx hb dX6_swap_51 (by decide) ?_
    replace h := gd_some h
    obtain ⟨g2, h⟩ := h
    replace h := bd_some h
    obtain ⟨r1, er1, h⟩ := h
    refine r_callVi (As := [.int (4 : Int32)]) (rest := []) hF (c_X6_finding l D cy ad adK adV M x0 (4 : Int32) r1 er1) (gW_goodV hcm qw373 qw370 qw372 qw0 qw60) hdX6_finding rfl ⟨Nat.le_of_ble_eq_true rfl, Nat.le_of_ble_eq_true rfl⟩ rfl rfl hZ hK hw g2 (by decide) rfl rfl hl.1 rfl (Nat.le_of_ble_eq_true rfl) ⟨Nat.zero_le _, Nat.zero_le _⟩ dX6_swap_52 (fun H locs hw => ?_)
    exact r_iret hx hb hr rfl hlocks hZ hK hw h dX6_swap_55
  have hb22 : ∀ (M : Mm) (x0 : Nat), f_X6_swap_b22 M x0 = some res → ∀ (H : Heap) (locs : List Loc) (ls : Array Slot), Wd D cy shX ad nX (Aw ad nX) s.heap M H locs → lv_has ls 4 [(0, .ref (ad x0))] → W p l e (headSpec (wU yX6_swap cX6_swap 4 (some .int)) rmX6_swap).room s m args below meth c H locs 0 0 (QI D cy shX ad nX adK adV below args s res) (F0 m 22 ls []) := by
    intro M x0 h H locs ls hw hl
    unfold f_X6_swap_b22 at h
    refine lv_aload_n hx hb dX6_swap_22 rfl (lv_at hl 0 rfl) ?_
    refine lv_iconst (v := (0 : Int32)) hx hb dX6_swap_23 (by decide) ?_
    replace h := gd_some h
    obtain ⟨g4, h⟩ := h
    replace h := bd_some h
    obtain ⟨r3, er3, h⟩ := h
    refine r_callVi (As := [.int (0 : Int32)]) (rest := []) hF (c_X6_finding l D cy ad adK adV M x0 (0 : Int32) r3 er3) (gW_goodV hcm qw373 qw370 qw372 qw0 qw60) hdX6_finding rfl ⟨Nat.le_of_ble_eq_true rfl, Nat.le_of_ble_eq_true rfl⟩ rfl rfl hZ hK hw g4 (by decide) rfl rfl hl.1 rfl (Nat.le_of_ble_eq_true rfl) ⟨Nat.zero_le _, Nat.zero_le _⟩ dX6_swap_24 (fun H locs hw => ?_)
    exact r_iret hx hb hr rfl hlocks hZ hK hw h dX6_swap_27
  unfold f_X6_swap at h
  refine lv_aload_n hx hb dX6_swap_0 rfl (lv_at hl 0 rfl) ?_
  replace h := gd_some h
  obtain ⟨g5, h⟩ := h
  replace h := bd_some h
  obtain ⟨q6, eq6, h⟩ := h
  refine r_getR hx hb hts iw6 hown hK hw o0 0 g5 (by decide) rfl (by decide) rfl (hq _ qw335) (fun _ h9 => h9) dX6_swap_1 eq6 ?_
  refine lv_iload_n hx hb dX6_swap_4 rfl (lv_at hl 1 rfl) ?_
  replace h := gd_some h
  obtain ⟨g8, h⟩ := h
  replace h := bd_some h
  obtain ⟨r7, er7, h⟩ := h
  refine r_callVi (As := [.int a1]) (rest := []) hF (c_X1_hasGame l D cy ad adK adV M q6 a1 r7 er7) (gW_goodV hcm qw429 qw426 qw427 qw428 qw61) hdX1_hasGame rfl ⟨Nat.le_of_ble_eq_true rfl, Nat.le_of_ble_eq_true rfl⟩ rfl rfl hZ hK hw g8 (by decide) rfl rfl hl.1 rfl (Nat.le_of_ble_eq_true rfl) ⟨Nat.zero_le _, Nat.zero_le _⟩ dX6_swap_5 (fun H locs hw => ?_)
  refine lv_if_eq (tgt := 22) hx hb dX6_swap_8 (by decide) (fun c9 => ?_) (fun c9 => ?_)
  · replace h := if_some_t c9 h
    exact hb22 _ _ h _ _ _ hw (lv_sub hl [0] rfl)
  · replace h := if_some_f c9 h
    refine lv_aload_n hx hb dX6_swap_11 rfl (lv_at hl 0 rfl) ?_
    replace h := bd_some h
    obtain ⟨q10, eq10, h⟩ := h
    refine r_getR hx hb hts iw6 hown hK hw o0 0 g5 (by decide) rfl (by decide) rfl (hq _ qw335) (fun _ h9 => h9) dX6_swap_12 eq10 ?_
    refine lv_iload_n hx hb dX6_swap_15 rfl (lv_at hl 2 rfl) ?_
    replace h := gd_some h
    obtain ⟨g12, h⟩ := h
    replace h := bd_some h
    obtain ⟨r11, er11, h⟩ := h
    refine r_callVi (As := [.int a2]) (rest := []) hF (c_X1_hasGame l D cy ad adK adV r7.1 q10 a2 r11 er11) (gW_goodV hcm qw429 qw426 qw427 qw428 qw61) hdX1_hasGame rfl ⟨Nat.le_of_ble_eq_true rfl, Nat.le_of_ble_eq_true rfl⟩ rfl rfl hZ hK hw g12 (by decide) rfl rfl hl.1 rfl (Nat.le_of_ble_eq_true rfl) ⟨Nat.zero_le _, Nat.zero_le _⟩ dX6_swap_16 (fun H locs hw => ?_)
    refine lv_if_ne (tgt := 28) hx hb dX6_swap_19 (by decide) (fun c13 => ?_) (fun c13 => ?_)
    · replace h := if_some_f c13 h
      refine lv_iload_n hx hb dX6_swap_28 rfl (lv_at hl 1 rfl) ?_
      refine lv_aload_n hx hb dX6_swap_29 rfl (lv_at hl 0 rfl) ?_
      replace h := bd_some h
      obtain ⟨q14, eq14, h⟩ := h
      refine r_getR hx hb hts iw6 hown hK hw o0 0 g5 (by decide) rfl (by decide) rfl (hq _ qw335) (fun _ h9 => h9) dX6_swap_30 eq14 ?_
      replace h := gd_some h
      obtain ⟨g15, h⟩ := h
      refine r_getI hx hb hts iw1 hown hK hw q14 5 g15 (by decide) rfl (by decide) rfl (hq _ qw199) (fun _ h9 => h9) dX6_swap_33 ?_
      refine lv_icmp_lt (tgt := 50) hx hb dX6_swap_36 (by decide) (fun c16 => ?_) (fun c16 => ?_)
      · replace h := if_some_t c16 h
        exact hb50 _ _ h _ _ _ hw (lv_sub hl [0] rfl)
      · replace h := if_some_f c16 h
        refine lv_iload_n hx hb dX6_swap_39 rfl (lv_at hl 2 rfl) ?_
        refine lv_aload_n hx hb dX6_swap_40 rfl (lv_at hl 0 rfl) ?_
        replace h := bd_some h
        obtain ⟨q17, eq17, h⟩ := h
        refine r_getR hx hb hts iw6 hown hK hw o0 0 g5 (by decide) rfl (by decide) rfl (hq _ qw335) (fun _ h9 => h9) dX6_swap_41 eq17 ?_
        replace h := gd_some h
        obtain ⟨g18, h⟩ := h
        refine r_getI hx hb hts iw1 hown hK hw q17 5 g18 (by decide) rfl (by decide) rfl (hq _ qw199) (fun _ h9 => h9) dX6_swap_44 ?_
        refine lv_icmp_ge (tgt := 56) hx hb dX6_swap_47 (by decide) (fun c19 => ?_) (fun c19 => ?_)
        · replace h := if_some_t c19 h
          refine lv_aload_n hx hb dX6_swap_56 rfl (lv_at hl 0 rfl) ?_
          replace h := bd_some h
          obtain ⟨q20, eq20, h⟩ := h
          refine r_getR hx hb hts iw6 hown hK hw o0 0 g5 (by decide) rfl (by decide) rfl (hq _ qw335) (fun _ h9 => h9) dX6_swap_57 eq20 ?_
          replace h := gd_some h
          obtain ⟨g21, h⟩ := h
          replace h := bd_some h
          obtain ⟨q22, eq22, h⟩ := h
          refine r_getR hx hb hts iw1 hown hK hw q20 1 g21 (by decide) rfl (by decide) rfl (hq _ qw186) (fun _ h9 => h9) dX6_swap_60 eq22 ?_
          refine lv_iload_n hx hb dX6_swap_63 rfl (lv_at hl 1 rfl) ?_
          replace h := gd_some h
          obtain ⟨g23, h⟩ := h
          replace h := bd_some h
          obtain ⟨q24, eq24, h⟩ := h
          refine r_aald hx hb hK hw q22 3 (by decide) rfl g23 dX6_swap_64 eq24 ?_
          refine lv_astore_n (lv' := [(3, .ref (ad q24)), (0, .ref (ad o0)), (1, .int a1), (2, .int a2)]) hx hb dX6_swap_65 rfl hl (by decide) rfl (fun ls hl => ?_)
          refine lv_aload_n hx hb dX6_swap_66 rfl (lv_at hl 1 rfl) ?_
          replace h := bd_some h
          obtain ⟨q25, eq25, h⟩ := h
          refine r_getR hx hb hts iw6 hown hK hw o0 0 g5 (by decide) rfl (by decide) rfl (hq _ qw335) (fun _ h9 => h9) dX6_swap_67 eq25 ?_
          replace h := gd_some h
          obtain ⟨g26, h⟩ := h
          replace h := bd_some h
          obtain ⟨q27, eq27, h⟩ := h
          refine r_getR hx hb hts iw1 hown hK hw q25 1 g26 (by decide) rfl (by decide) rfl (hq _ qw186) (fun _ h9 => h9) dX6_swap_70 eq27 ?_
          refine lv_iload_n hx hb dX6_swap_73 rfl (lv_at hl 2 rfl) ?_
          refine lv_aload_n hx hb dX6_swap_74 rfl (lv_at hl 1 rfl) ?_
          replace h := bd_some h
          obtain ⟨q28, eq28, h⟩ := h
          refine r_getR hx hb hts iw6 hown hK hw o0 0 g5 (by decide) rfl (by decide) rfl (hq _ qw335) (fun _ h9 => h9) dX6_swap_75 eq28 ?_
          replace h := gd_some h
          obtain ⟨g29, h⟩ := h
          replace h := bd_some h
          obtain ⟨q30, eq30, h⟩ := h
          refine r_getR hx hb hts iw1 hown hK hw q28 1 g29 (by decide) rfl (by decide) rfl (hq _ qw186) (fun _ h9 => h9) dX6_swap_78 eq30 ?_
          refine lv_iload_n hx hb dX6_swap_81 rfl (lv_at hl 3 rfl) ?_
          replace h := gd_some h
          obtain ⟨g31, h⟩ := h
          replace h := bd_some h
          obtain ⟨q32, eq32, h⟩ := h
          refine r_aald hx hb hK hw q30 3 (by decide) rfl g31 dX6_swap_82 eq32 ?_
          replace h := gd_some h
          obtain ⟨g33, h⟩ := h
          replace h := gd_some h
          obtain ⟨g35, h⟩ := h
          refine r_aast hx hb hK hw q27 3 q32 0 (by decide) rfl g33 g35 (by decide) rfl dX6_swap_83 (fun H locs hw => ?_)
          replace h := lt_some h
          obtain ⟨M34, eM34, h⟩ := h
          rw [← eM34] at hw
          refine lv_aload_n hx hb dX6_swap_84 rfl (lv_at hl 1 rfl) ?_
          replace h := bd_some h
          obtain ⟨q36, eq36, h⟩ := h
          refine r_getR hx hb hts iw6 hown hK hw o0 0 g5 (by decide) rfl (by decide) rfl (hq _ qw335) (fun _ h9 => h9) dX6_swap_85 eq36 ?_
          replace h := gd_some h
          obtain ⟨g37, h⟩ := h
          replace h := bd_some h
          obtain ⟨q38, eq38, h⟩ := h
          refine r_getR hx hb hts iw1 hown hK hw q36 1 g37 (by decide) rfl (by decide) rfl (hq _ qw186) (fun _ h9 => h9) dX6_swap_88 eq38 ?_
          refine lv_iload_n hx hb dX6_swap_91 rfl (lv_at hl 3 rfl) ?_
          refine lv_aload_n hx hb dX6_swap_92 rfl (lv_at hl 0 rfl) ?_
          replace h := gd_some h
          obtain ⟨g39, h⟩ := h
          replace h := gd_some h
          obtain ⟨g41, h⟩ := h
          refine r_aast hx hb hK hw q38 3 q24 0 (by decide) rfl g39 g41 (by decide) rfl dX6_swap_93 (fun H locs hw => ?_)
          replace h := lt_some h
          obtain ⟨M40, eM40, h⟩ := h
          rw [← eM40] at hw
          refine lv_iconst (v := (1 : Int32)) hx hb dX6_swap_94 (by decide) ?_
          exact r_iret hx hb hr rfl hlocks hZ hK hw h dX6_swap_95
        · replace h := if_some_f c19 h
          exact hb50 _ _ h _ _ _ hw (lv_sub hl [0] rfl)
    · replace h := if_some_t c13 h
      exact hb22 _ _ h _ _ _ hw (lv_sub hl [0] rfl)
theorem dX6_law_0 : decode cX6_law 0 = .ok (.iload_n 1, 1) := by decide +kernel
theorem dX6_law_1 : decode cX6_law 1 = .ok (.iconst 1, 1) := by decide +kernel
theorem dX6_law_2 : decode cX6_law 2 = .ok (.if_icmp .lt 8, 3) := by decide +kernel
theorem dX6_law_5 : decode cX6_law 5 = .ok (.iload_n 1, 1) := by decide +kernel
theorem dX6_law_6 : decode cX6_law 6 = .ok (.iconst 3, 1) := by decide +kernel
theorem dX6_law_7 : decode cX6_law 7 = .ok (.if_icmp .le 9, 3) := by decide +kernel
theorem dX6_law_10 : decode cX6_law 10 = .ok (.aload_n 0, 1) := by decide +kernel
theorem dX6_law_11 : decode cX6_law 11 = .ok (.iconst 0, 1) := by decide +kernel
theorem dX6_law_12 : decode cX6_law 12 = .ok (.invokevirtual 59, 3) := by decide +kernel
theorem dX6_law_15 : decode cX6_law 15 = .ok (.ireturn, 1) := by decide +kernel
theorem dX6_law_16 : decode cX6_law 16 = .ok (.aload_n 0, 1) := by decide +kernel
theorem dX6_law_17 : decode cX6_law 17 = .ok (.getfield 10, 3) := by decide +kernel
theorem dX6_law_20 : decode cX6_law 20 = .ok (.getfield 141, 3) := by decide +kernel
theorem dX6_law_23 : decode cX6_law 23 = .ok (.istore_n 2, 1) := by decide +kernel
theorem dX6_law_24 : decode cX6_law 24 = .ok (.aload_n 0, 1) := by decide +kernel
theorem dX6_law_25 : decode cX6_law 25 = .ok (.getfield 10, 3) := by decide +kernel
theorem dX6_law_28 : decode cX6_law 28 = .ok (.iload_n 1, 1) := by decide +kernel
theorem dX6_law_29 : decode cX6_law 29 = .ok (.putfield 141, 3) := by decide +kernel
theorem dX6_law_32 : decode cX6_law 32 = .ok (.iload_n 2, 1) := by decide +kernel
theorem dX6_law_33 : decode cX6_law 33 = .ok (.ireturn, 1) := by decide +kernel
set_option maxHeartbeats 4000000 in
set_option maxRecDepth 100000 in
theorem c_X6_law (l : Launch) (D : va_G) (cy : Nat → ClassId) (ad adK adV : Nat → Nat) (M : Mm) (o0 : Nat) (a1 : Int32) (res : Mm × Int32) (h : f_X6_law M o0 a1 = some res) : Met l yX6_law (wU yX6_law cX6_law 3 (some .int)) rmX6_law (va_Pc [.ref (ad o0), .int a1] (Pre D cy shX ad nX adK adV M)) (va_Qi (fun r (M2 : Mm) => r = res.2 ∧ M2 = res.1) (Pre D cy shX ad nX adK adV) (Aw ad nX)) 0 0 (Aw ad nX) := by
  refine Met.ofW (cc := cX6_law) (maxL := 3) (ret := (some .int)) (by decide) rfl ?_
  intro p e s m args below meth c s₁ B hml hv
  obtain ⟨hargs, hPre⟩ := hv
  have hx := B.exec
  have hb := B.bytes
  have hr := B.returns
  have hts := atoms_spec (ws := wU yX6_law cX6_law 3 (some .int)) B.pre
  have hq : ∀ w ∈ gW, w.before args s = true := fun w hw => hts w (List.mem_cons_of_mem _ hw)
  have hcm : ∀ w ∈ gW, w ∈ wU yX6_law cX6_law 3 (some .int) := fun w hw => List.mem_cons_of_mem _ hw
  have hown : s.vm.findClass RX6 = some m.cls := findClass_of_methodNamed B.named
  have hlocks := B.notSynchronized
  have hF : CallFix p m c cX6_law 3 s args (wU yX6_law cX6_law 3 (some .int)) RX6 := ⟨hx, hb, hml, hown, hts⟩
  have hK := hPre.2.1
  have hZ := hPre.2.2.2
  have hw : Wd D cy shX ad nX (Aw ad nX) s.heap M s.heap [] := ⟨hPre.1, hPre.2.2.1, va_S.rf⟩
  have iw1 : ∀ w ∈ u_ws RX1 TX1 11, w ∈ wU yX6_law cX6_law 3 (some .int) := fun w hw => List.mem_cons_of_mem _ (iX1 w hw)
  have iw6 : ∀ w ∈ u_ws RX6 TX6 8, w ∈ wU yX6_law cX6_law 3 (some .int) := fun w hw => List.mem_cons_of_mem _ (iX6 w hw)
  rw [show entryFrame m args 3 = entryFrame m ([.ref (ad o0), .int a1] : List Value).toArray 3 from by rw [hargs]]
  have hl := lv_entry ([.ref (ad o0), .int a1]) (n := 3) (Nat.le_of_ble_eq_true rfl)
  rw [lg_entry_eq]
  generalize (lg_sl ([.ref (ad o0), .int a1]) ++ List.replicate (3 - (lg_sl ([.ref (ad o0), .int a1])).length) Slot.unset).toArray = ls at hl ⊢
  have hl : lv_has ls 3 [(0, .ref (ad o0)), (1, .int a1)] := hl
  have hb10 : ∀ (M : Mm) (x0 : Nat), f_X6_law_b10 M x0 = some res → ∀ (H : Heap) (locs : List Loc) (ls : Array Slot), Wd D cy shX ad nX (Aw ad nX) s.heap M H locs → lv_has ls 3 [(0, .ref (ad x0))] → W p l e (headSpec (wU yX6_law cX6_law 3 (some .int)) rmX6_law).room s m args below meth c H locs 0 0 (QI D cy shX ad nX adK adV below args s res) (F0 m 10 ls []) := by
    intro M x0 h H locs ls hw hl
    unfold f_X6_law_b10 at h
    refine lv_aload_n hx hb dX6_law_10 rfl (lv_at hl 0 rfl) ?_
    refine lv_iconst (v := (0 : Int32)) hx hb dX6_law_11 (by decide) ?_
    replace h := gd_some h
    obtain ⟨g2, h⟩ := h
    replace h := bd_some h
    obtain ⟨r1, er1, h⟩ := h
    refine r_callVi (As := [.int (0 : Int32)]) (rest := []) hF (c_X6_finding l D cy ad adK adV M x0 (0 : Int32) r1 er1) (gW_goodV hcm qw373 qw370 qw372 qw0 qw60) hdX6_finding rfl ⟨Nat.le_of_ble_eq_true rfl, Nat.le_of_ble_eq_true rfl⟩ rfl rfl hZ hK hw g2 (by decide) rfl rfl hl.1 rfl (Nat.le_of_ble_eq_true rfl) ⟨Nat.zero_le _, Nat.zero_le _⟩ dX6_law_12 (fun H locs hw => ?_)
    exact r_iret hx hb hr rfl hlocks hZ hK hw h dX6_law_15
  unfold f_X6_law at h
  refine lv_iload_n hx hb dX6_law_0 rfl (lv_at hl 1 rfl) ?_
  refine lv_iconst (v := (1 : Int32)) hx hb dX6_law_1 (by decide) ?_
  refine lv_icmp_lt (tgt := 10) hx hb dX6_law_2 (by decide) (fun c3 => ?_) (fun c3 => ?_)
  · replace h := if_some_t c3 h
    exact hb10 _ _ h _ _ _ hw (lv_sub hl [0] rfl)
  · replace h := if_some_f c3 h
    refine lv_iload_n hx hb dX6_law_5 rfl (lv_at hl 1 rfl) ?_
    refine lv_iconst (v := (3 : Int32)) hx hb dX6_law_6 (by decide) ?_
    refine lv_icmp_le (tgt := 16) hx hb dX6_law_7 (by decide) (fun c4 => ?_) (fun c4 => ?_)
    · replace h := if_some_t c4 h
      refine lv_aload_n hx hb dX6_law_16 rfl (lv_at hl 0 rfl) ?_
      replace h := gd_some h
      obtain ⟨g5, h⟩ := h
      replace h := bd_some h
      obtain ⟨q6, eq6, h⟩ := h
      refine r_getR hx hb hts iw6 hown hK hw o0 0 g5 (by decide) rfl (by decide) rfl (hq _ qw335) (fun _ h9 => h9) dX6_law_17 eq6 ?_
      replace h := gd_some h
      obtain ⟨g7, h⟩ := h
      refine r_getI hx hb hts iw1 hown hK hw q6 6 g7 (by decide) rfl (by decide) rfl (hq _ qw202) (fun _ h9 => h9) dX6_law_20 ?_
      refine lv_istore_n (lv' := [(2, .int (M.1 q6 6)), (0, .ref (ad o0)), (1, .int a1)]) hx hb dX6_law_23 rfl hl (by decide) rfl (fun ls hl => ?_)
      refine lv_aload_n hx hb dX6_law_24 rfl (lv_at hl 1 rfl) ?_
      replace h := bd_some h
      obtain ⟨q8, eq8, h⟩ := h
      refine r_getR hx hb hts iw6 hown hK hw o0 0 g5 (by decide) rfl (by decide) rfl (hq _ qw335) (fun _ h9 => h9) dX6_law_25 eq8 ?_
      refine lv_iload_n hx hb dX6_law_28 rfl (lv_at hl 2 rfl) ?_
      replace h := gd_some h
      obtain ⟨g9, h⟩ := h
      refine r_putI hx hb hts iw1 tyX1 tyX1_ok nmX1 hown hK hw q8 6 g9 (by decide) rfl (by decide) rfl (hq _ qw202) (fun _ h9 => h9) rfl rfl rfl dX6_law_29 (fun H locs hw => ?_)
      replace h := lt_some h
      obtain ⟨M10, eM10, h⟩ := h
      rw [← eM10] at hw
      refine lv_iload_n hx hb dX6_law_32 rfl (lv_at hl 0 rfl) ?_
      exact r_iret hx hb hr rfl hlocks hZ hK hw h dX6_law_33
    · replace h := if_some_f c4 h
      exact hb10 _ _ h _ _ _ hw (lv_sub hl [0] rfl)
theorem dX6_feed_0 : decode cX6_feed 0 = .ok (.iload_n 2, 1) := by decide +kernel
theorem dX6_feed_1 : decode cX6_feed 1 = .ok (.iconst 1, 1) := by decide +kernel
theorem dX6_feed_2 : decode cX6_feed 2 = .ok (.if_icmp .lt 8, 3) := by decide +kernel
theorem dX6_feed_5 : decode cX6_feed 5 = .ok (.iload_n 2, 1) := by decide +kernel
theorem dX6_feed_6 : decode cX6_feed 6 = .ok (.iconst 4, 1) := by decide +kernel
theorem dX6_feed_7 : decode cX6_feed 7 = .ok (.if_icmp .le 9, 3) := by decide +kernel
theorem dX6_feed_10 : decode cX6_feed 10 = .ok (.aload_n 0, 1) := by decide +kernel
theorem dX6_feed_11 : decode cX6_feed 11 = .ok (.iconst 0, 1) := by decide +kernel
theorem dX6_feed_12 : decode cX6_feed 12 = .ok (.invokevirtual 59, 3) := by decide +kernel
theorem dX6_feed_15 : decode cX6_feed 15 = .ok (.ireturn, 1) := by decide +kernel
theorem dX6_feed_16 : decode cX6_feed 16 = .ok (.aload_n 0, 1) := by decide +kernel
theorem dX6_feed_17 : decode cX6_feed 17 = .ok (.getfield 37, 3) := by decide +kernel
theorem dX6_feed_20 : decode cX6_feed 20 = .ok (.getfield 144, 3) := by decide +kernel
theorem dX6_feed_23 : decode cX6_feed 23 = .ok (.iload_n 2, 1) := by decide +kernel
theorem dX6_feed_24 : decode cX6_feed 24 = .ok (.iadd, 1) := by decide +kernel
theorem dX6_feed_25 : decode cX6_feed 25 = .ok (.bipush 120, 2) := by decide +kernel
theorem dX6_feed_27 : decode cX6_feed 27 = .ok (.if_icmp .le 9, 3) := by decide +kernel
theorem dX6_feed_30 : decode cX6_feed 30 = .ok (.aload_n 0, 1) := by decide +kernel
theorem dX6_feed_31 : decode cX6_feed 31 = .ok (.iconst 1, 1) := by decide +kernel
theorem dX6_feed_32 : decode cX6_feed 32 = .ok (.invokevirtual 59, 3) := by decide +kernel
theorem dX6_feed_35 : decode cX6_feed 35 = .ok (.ireturn, 1) := by decide +kernel
theorem dX6_feed_36 : decode cX6_feed 36 = .ok (.aload_n 0, 1) := by decide +kernel
theorem dX6_feed_37 : decode cX6_feed 37 = .ok (.getfield 37, 3) := by decide +kernel
theorem dX6_feed_40 : decode cX6_feed 40 = .ok (.iload_n 1, 1) := by decide +kernel
theorem dX6_feed_41 : decode cX6_feed 41 = .ok (.iload_n 2, 1) := by decide +kernel
theorem dX6_feed_42 : decode cX6_feed 42 = .ok (.invokevirtual 147, 3) := by decide +kernel
theorem dX6_feed_45 : decode cX6_feed 45 = .ok (.aload_n 0, 1) := by decide +kernel
theorem dX6_feed_46 : decode cX6_feed 46 = .ok (.getfield 37, 3) := by decide +kernel
theorem dX6_feed_49 : decode cX6_feed 49 = .ok (.getfield 144, 3) := by decide +kernel
theorem dX6_feed_52 : decode cX6_feed 52 = .ok (.ireturn, 1) := by decide +kernel
set_option maxHeartbeats 4000000 in
set_option maxRecDepth 100000 in
theorem c_X6_feed (l : Launch) (D : va_G) (cy : Nat → ClassId) (ad adK adV : Nat → Nat) (M : Mm) (o0 : Nat) (a1 : Int32) (a2 : Int32) (res : Mm × Int32) (h : f_X6_feed M o0 a1 a2 = some res) : Met l yX6_feed (wU yX6_feed cX6_feed 3 (some .int)) rmX6_feed (va_Pc [.ref (ad o0), .int a1, .int a2] (Pre D cy shX ad nX adK adV M)) (va_Qi (fun r (M2 : Mm) => r = res.2 ∧ M2 = res.1) (Pre D cy shX ad nX adK adV) (Aw ad nX)) 0 0 (Aw ad nX) := by
  refine Met.ofW (cc := cX6_feed) (maxL := 3) (ret := (some .int)) (by decide) rfl ?_
  intro p e s m args below meth c s₁ B hml hv
  obtain ⟨hargs, hPre⟩ := hv
  have hx := B.exec
  have hb := B.bytes
  have hr := B.returns
  have hts := atoms_spec (ws := wU yX6_feed cX6_feed 3 (some .int)) B.pre
  have hq : ∀ w ∈ gW, w.before args s = true := fun w hw => hts w (List.mem_cons_of_mem _ hw)
  have hcm : ∀ w ∈ gW, w ∈ wU yX6_feed cX6_feed 3 (some .int) := fun w hw => List.mem_cons_of_mem _ hw
  have hown : s.vm.findClass RX6 = some m.cls := findClass_of_methodNamed B.named
  have hlocks := B.notSynchronized
  have hF : CallFix p m c cX6_feed 3 s args (wU yX6_feed cX6_feed 3 (some .int)) RX6 := ⟨hx, hb, hml, hown, hts⟩
  have hK := hPre.2.1
  have hZ := hPre.2.2.2
  have hw : Wd D cy shX ad nX (Aw ad nX) s.heap M s.heap [] := ⟨hPre.1, hPre.2.2.1, va_S.rf⟩
  have iw4 : ∀ w ∈ u_ws RX4 TX4 6, w ∈ wU yX6_feed cX6_feed 3 (some .int) := fun w hw => List.mem_cons_of_mem _ (iX4 w hw)
  have iw6 : ∀ w ∈ u_ws RX6 TX6 8, w ∈ wU yX6_feed cX6_feed 3 (some .int) := fun w hw => List.mem_cons_of_mem _ (iX6 w hw)
  rw [show entryFrame m args 3 = entryFrame m ([.ref (ad o0), .int a1, .int a2] : List Value).toArray 3 from by rw [hargs]]
  have hl := lv_entry ([.ref (ad o0), .int a1, .int a2]) (n := 3) (Nat.le_of_ble_eq_true rfl)
  rw [lg_entry_eq]
  generalize (lg_sl ([.ref (ad o0), .int a1, .int a2]) ++ List.replicate (3 - (lg_sl ([.ref (ad o0), .int a1, .int a2])).length) Slot.unset).toArray = ls at hl ⊢
  have hl : lv_has ls 3 [(0, .ref (ad o0)), (1, .int a1), (2, .int a2)] := hl
  have hb10 : ∀ (M : Mm) (x0 : Nat), f_X6_feed_b10 M x0 = some res → ∀ (H : Heap) (locs : List Loc) (ls : Array Slot), Wd D cy shX ad nX (Aw ad nX) s.heap M H locs → lv_has ls 3 [(0, .ref (ad x0))] → W p l e (headSpec (wU yX6_feed cX6_feed 3 (some .int)) rmX6_feed).room s m args below meth c H locs 0 0 (QI D cy shX ad nX adK adV below args s res) (F0 m 10 ls []) := by
    intro M x0 h H locs ls hw hl
    unfold f_X6_feed_b10 at h
    refine lv_aload_n hx hb dX6_feed_10 rfl (lv_at hl 0 rfl) ?_
    refine lv_iconst (v := (0 : Int32)) hx hb dX6_feed_11 (by decide) ?_
    replace h := gd_some h
    obtain ⟨g2, h⟩ := h
    replace h := bd_some h
    obtain ⟨r1, er1, h⟩ := h
    refine r_callVi (As := [.int (0 : Int32)]) (rest := []) hF (c_X6_finding l D cy ad adK adV M x0 (0 : Int32) r1 er1) (gW_goodV hcm qw373 qw370 qw372 qw0 qw60) hdX6_finding rfl ⟨Nat.le_of_ble_eq_true rfl, Nat.le_of_ble_eq_true rfl⟩ rfl rfl hZ hK hw g2 (by decide) rfl rfl hl.1 rfl (Nat.le_of_ble_eq_true rfl) ⟨Nat.zero_le _, Nat.zero_le _⟩ dX6_feed_12 (fun H locs hw => ?_)
    exact r_iret hx hb hr rfl hlocks hZ hK hw h dX6_feed_15
  unfold f_X6_feed at h
  refine lv_iload_n hx hb dX6_feed_0 rfl (lv_at hl 2 rfl) ?_
  refine lv_iconst (v := (1 : Int32)) hx hb dX6_feed_1 (by decide) ?_
  refine lv_icmp_lt (tgt := 10) hx hb dX6_feed_2 (by decide) (fun c3 => ?_) (fun c3 => ?_)
  · replace h := if_some_t c3 h
    exact hb10 _ _ h _ _ _ hw (lv_sub hl [0] rfl)
  · replace h := if_some_f c3 h
    refine lv_iload_n hx hb dX6_feed_5 rfl (lv_at hl 2 rfl) ?_
    refine lv_iconst (v := (4 : Int32)) hx hb dX6_feed_6 (by decide) ?_
    refine lv_icmp_le (tgt := 16) hx hb dX6_feed_7 (by decide) (fun c4 => ?_) (fun c4 => ?_)
    · replace h := if_some_t c4 h
      refine lv_aload_n hx hb dX6_feed_16 rfl (lv_at hl 0 rfl) ?_
      replace h := gd_some h
      obtain ⟨g5, h⟩ := h
      replace h := bd_some h
      obtain ⟨q6, eq6, h⟩ := h
      refine r_getR hx hb hts iw6 hown hK hw o0 5 g5 (by decide) rfl (by decide) rfl (hq _ qw340) (fun _ h9 => h9) dX6_feed_17 eq6 ?_
      replace h := gd_some h
      obtain ⟨g7, h⟩ := h
      refine r_getI hx hb hts iw4 hown hK hw q6 1 g7 (by decide) rfl (by decide) rfl (hq _ qw297) (fun _ h9 => h9) dX6_feed_20 ?_
      refine lv_iload_n hx hb dX6_feed_23 rfl (lv_at hl 2 rfl) ?_
      refine lv_iadd hx hb dX6_feed_24 ?_
      refine lv_bipush (v := (120 : Int32)) hx hb dX6_feed_25 (by decide) ?_
      refine lv_icmp_le (tgt := 36) hx hb dX6_feed_27 (by decide) (fun c8 => ?_) (fun c8 => ?_)
      · replace h := if_some_t c8 h
        refine lv_aload_n hx hb dX6_feed_36 rfl (lv_at hl 0 rfl) ?_
        replace h := bd_some h
        obtain ⟨q9, eq9, h⟩ := h
        refine r_getR hx hb hts iw6 hown hK hw o0 5 g5 (by decide) rfl (by decide) rfl (hq _ qw340) (fun _ h9 => h9) dX6_feed_37 eq9 ?_
        refine lv_iload_n hx hb dX6_feed_40 rfl (lv_at hl 1 rfl) ?_
        refine lv_iload_n hx hb dX6_feed_41 rfl (lv_at hl 2 rfl) ?_
        replace h := gd_some h
        obtain ⟨g11, h⟩ := h
        replace h := bd_some h
        obtain ⟨r10, er10, h⟩ := h
        refine r_callVv (As := [.int a1, .int a2]) (rest := []) hF (c_X4_append l D cy ad adK adV M q9 a1 a2 r10 er10) (gW_goodV hcm qw445 qw442 qw443 qw444 qw65) hdX4_append rfl ⟨Nat.le_of_ble_eq_true rfl, Nat.le_of_ble_eq_true rfl⟩ rfl rfl hZ hK hw g11 (by decide) rfl rfl hl.1 rfl (Nat.le_of_ble_eq_true rfl) ⟨Nat.zero_le _, Nat.zero_le _⟩ dX6_feed_42 (fun H locs hw => ?_)
        refine lv_aload_n hx hb dX6_feed_45 rfl (lv_at hl 0 rfl) ?_
        replace h := bd_some h
        obtain ⟨q12, eq12, h⟩ := h
        refine r_getR hx hb hts iw6 hown hK hw o0 5 g5 (by decide) rfl (by decide) rfl (hq _ qw340) (fun _ h9 => h9) dX6_feed_46 eq12 ?_
        replace h := gd_some h
        obtain ⟨g13, h⟩ := h
        refine r_getI hx hb hts iw4 hown hK hw q12 1 g13 (by decide) rfl (by decide) rfl (hq _ qw297) (fun _ h9 => h9) dX6_feed_49 ?_
        exact r_iret hx hb hr rfl hlocks hZ hK hw h dX6_feed_52
      · replace h := if_some_f c8 h
        refine lv_aload_n hx hb dX6_feed_30 rfl (lv_at hl 0 rfl) ?_
        refine lv_iconst (v := (1 : Int32)) hx hb dX6_feed_31 (by decide) ?_
        replace h := bd_some h
        obtain ⟨r14, er14, h⟩ := h
        refine r_callVi (As := [.int (1 : Int32)]) (rest := []) hF (c_X6_finding l D cy ad adK adV M o0 (1 : Int32) r14 er14) (gW_goodV hcm qw373 qw370 qw372 qw0 qw60) hdX6_finding rfl ⟨Nat.le_of_ble_eq_true rfl, Nat.le_of_ble_eq_true rfl⟩ rfl rfl hZ hK hw g5 (by decide) rfl rfl hl.1 rfl (Nat.le_of_ble_eq_true rfl) ⟨Nat.zero_le _, Nat.zero_le _⟩ dX6_feed_32 (fun H locs hw => ?_)
        exact r_iret hx hb hr rfl hlocks hZ hK hw h dX6_feed_35
    · replace h := if_some_f c4 h
      exact hb10 _ _ h _ _ _ hw (lv_sub hl [0] rfl)
theorem dX6_wipe_0 : decode cX6_wipe 0 = .ok (.aload_n 0, 1) := by decide +kernel
theorem dX6_wipe_1 : decode cX6_wipe 1 = .ok (.getfield 37, 3) := by decide +kernel
theorem dX6_wipe_4 : decode cX6_wipe 4 = .ok (.getfield 144, 3) := by decide +kernel
theorem dX6_wipe_7 : decode cX6_wipe 7 = .ok (.istore_n 1, 1) := by decide +kernel
theorem dX6_wipe_8 : decode cX6_wipe 8 = .ok (.aload_n 0, 1) := by decide +kernel
theorem dX6_wipe_9 : decode cX6_wipe 9 = .ok (.getfield 37, 3) := by decide +kernel
theorem dX6_wipe_12 : decode cX6_wipe 12 = .ok (.iconst 0, 1) := by decide +kernel
theorem dX6_wipe_13 : decode cX6_wipe 13 = .ok (.putfield 144, 3) := by decide +kernel
theorem dX6_wipe_16 : decode cX6_wipe 16 = .ok (.iload_n 1, 1) := by decide +kernel
theorem dX6_wipe_17 : decode cX6_wipe 17 = .ok (.ireturn, 1) := by decide +kernel
set_option maxHeartbeats 4000000 in
set_option maxRecDepth 100000 in
theorem c_X6_wipe (l : Launch) (D : va_G) (cy : Nat → ClassId) (ad adK adV : Nat → Nat) (M : Mm) (o0 : Nat) (res : Mm × Int32) (h : f_X6_wipe M o0 = some res) : Met l yX6_wipe (wU yX6_wipe cX6_wipe 2 (some .int)) rmX6_wipe (va_Pc [.ref (ad o0)] (Pre D cy shX ad nX adK adV M)) (va_Qi (fun r (M2 : Mm) => r = res.2 ∧ M2 = res.1) (Pre D cy shX ad nX adK adV) (Aw ad nX)) 0 0 (Aw ad nX) := by
  refine Met.ofW (cc := cX6_wipe) (maxL := 2) (ret := (some .int)) (by decide) rfl ?_
  intro p e s m args below meth c s₁ B hml hv
  obtain ⟨hargs, hPre⟩ := hv
  have hx := B.exec
  have hb := B.bytes
  have hr := B.returns
  have hts := atoms_spec (ws := wU yX6_wipe cX6_wipe 2 (some .int)) B.pre
  have hq : ∀ w ∈ gW, w.before args s = true := fun w hw => hts w (List.mem_cons_of_mem _ hw)
  have hcm : ∀ w ∈ gW, w ∈ wU yX6_wipe cX6_wipe 2 (some .int) := fun w hw => List.mem_cons_of_mem _ hw
  have hown : s.vm.findClass RX6 = some m.cls := findClass_of_methodNamed B.named
  have hlocks := B.notSynchronized
  have hF : CallFix p m c cX6_wipe 2 s args (wU yX6_wipe cX6_wipe 2 (some .int)) RX6 := ⟨hx, hb, hml, hown, hts⟩
  have hK := hPre.2.1
  have hZ := hPre.2.2.2
  have hw : Wd D cy shX ad nX (Aw ad nX) s.heap M s.heap [] := ⟨hPre.1, hPre.2.2.1, va_S.rf⟩
  have iw4 : ∀ w ∈ u_ws RX4 TX4 6, w ∈ wU yX6_wipe cX6_wipe 2 (some .int) := fun w hw => List.mem_cons_of_mem _ (iX4 w hw)
  have iw6 : ∀ w ∈ u_ws RX6 TX6 8, w ∈ wU yX6_wipe cX6_wipe 2 (some .int) := fun w hw => List.mem_cons_of_mem _ (iX6 w hw)
  rw [show entryFrame m args 2 = entryFrame m ([.ref (ad o0)] : List Value).toArray 2 from by rw [hargs]]
  have hl := lv_entry ([.ref (ad o0)]) (n := 2) (Nat.le_of_ble_eq_true rfl)
  rw [lg_entry_eq]
  generalize (lg_sl ([.ref (ad o0)]) ++ List.replicate (2 - (lg_sl ([.ref (ad o0)])).length) Slot.unset).toArray = ls at hl ⊢
  have hl : lv_has ls 2 [(0, .ref (ad o0))] := hl
  unfold f_X6_wipe at h
  refine lv_aload_n hx hb dX6_wipe_0 rfl (lv_at hl 0 rfl) ?_
  replace h := gd_some h
  obtain ⟨g1, h⟩ := h
  replace h := bd_some h
  obtain ⟨q2, eq2, h⟩ := h
  refine r_getR hx hb hts iw6 hown hK hw o0 5 g1 (by decide) rfl (by decide) rfl (hq _ qw340) (fun _ h9 => h9) dX6_wipe_1 eq2 ?_
  replace h := gd_some h
  obtain ⟨g3, h⟩ := h
  refine r_getI hx hb hts iw4 hown hK hw q2 1 g3 (by decide) rfl (by decide) rfl (hq _ qw297) (fun _ h9 => h9) dX6_wipe_4 ?_
  refine lv_istore_n (lv' := [(1, .int (M.1 q2 1)), (0, .ref (ad o0))]) hx hb dX6_wipe_7 rfl hl (by decide) rfl (fun ls hl => ?_)
  refine lv_aload_n hx hb dX6_wipe_8 rfl (lv_at hl 1 rfl) ?_
  replace h := bd_some h
  obtain ⟨q4, eq4, h⟩ := h
  refine r_getR hx hb hts iw6 hown hK hw o0 5 g1 (by decide) rfl (by decide) rfl (hq _ qw340) (fun _ h9 => h9) dX6_wipe_9 eq4 ?_
  refine lv_iconst (v := (0 : Int32)) hx hb dX6_wipe_12 (by decide) ?_
  replace h := gd_some h
  obtain ⟨g5, h⟩ := h
  refine r_putI hx hb hts iw4 tyX4 tyX4_ok nmX4 hown hK hw q4 1 g5 (by decide) rfl (by decide) rfl (hq _ qw297) (fun _ h9 => h9) rfl rfl rfl dX6_wipe_13 (fun H locs hw => ?_)
  replace h := lt_some h
  obtain ⟨M6, eM6, h⟩ := h
  rw [← eM6] at hw
  refine lv_iload_n hx hb dX6_wipe_16 rfl (lv_at hl 0 rfl) ?_
  exact r_iret hx hb hr rfl hlocks hZ hK hw h dX6_wipe_17
theorem dX6_text_0 : decode cX6_text 0 = .ok (.aload_n 0, 1) := by decide +kernel
theorem dX6_text_1 : decode cX6_text 1 = .ok (.getfield 31, 3) := by decide +kernel
theorem dX6_text_4 : decode cX6_text 4 = .ok (.aload_n 0, 1) := by decide +kernel
theorem dX6_text_5 : decode cX6_text 5 = .ok (.getfield 10, 3) := by decide +kernel
theorem dX6_text_8 : decode cX6_text 8 = .ok (.invokevirtual 151, 3) := by decide +kernel
theorem dX6_text_11 : decode cX6_text 11 = .ok (.aload_n 0, 1) := by decide +kernel
theorem dX6_text_12 : decode cX6_text 12 = .ok (.getfield 37, 3) := by decide +kernel
theorem dX6_text_15 : decode cX6_text 15 = .ok (.aload_n 0, 1) := by decide +kernel
theorem dX6_text_16 : decode cX6_text 16 = .ok (.getfield 31, 3) := by decide +kernel
theorem dX6_text_19 : decode cX6_text 19 = .ok (.invokevirtual 155, 3) := by decide +kernel
theorem dX6_text_22 : decode cX6_text 22 = .ok (.istore_n 1, 1) := by decide +kernel
theorem dX6_text_23 : decode cX6_text 23 = .ok (.iload_n 1, 1) := by decide +kernel
theorem dX6_text_24 : decode cX6_text 24 = .ok (.ifCond .lt 14, 3) := by decide +kernel
theorem dX6_text_27 : decode cX6_text 27 = .ok (.aload_n 0, 1) := by decide +kernel
theorem dX6_text_28 : decode cX6_text 28 = .ok (.getfield 10, 3) := by decide +kernel
theorem dX6_text_31 : decode cX6_text 31 = .ok (.aload_n 0, 1) := by decide +kernel
theorem dX6_text_32 : decode cX6_text 32 = .ok (.getfield 31, 3) := by decide +kernel
theorem dX6_text_35 : decode cX6_text 35 = .ok (.invokevirtual 151, 3) := by decide +kernel
theorem dX6_text_38 : decode cX6_text 38 = .ok (.aload_n 0, 1) := by decide +kernel
theorem dX6_text_39 : decode cX6_text 39 = .ok (.getfield 37, 3) := by decide +kernel
theorem dX6_text_42 : decode cX6_text 42 = .ok (.iconst 0, 1) := by decide +kernel
theorem dX6_text_43 : decode cX6_text 43 = .ok (.putfield 144, 3) := by decide +kernel
theorem dX6_text_46 : decode cX6_text 46 = .ok (.iload_n 1, 1) := by decide +kernel
theorem dX6_text_47 : decode cX6_text 47 = .ok (.ireturn, 1) := by decide +kernel
set_option maxHeartbeats 4000000 in
set_option maxRecDepth 100000 in
theorem c_X6_text (l : Launch) (D : va_G) (cy : Nat → ClassId) (ad adK adV : Nat → Nat) (M : Mm) (o0 : Nat) (res : Mm × Int32) (h : f_X6_text M o0 = some res) : Met l yX6_text (wU yX6_text cX6_text 2 (some .int)) rmX6_text (va_Pc [.ref (ad o0)] (Pre D cy shX ad nX adK adV M)) (va_Qi (fun r (M2 : Mm) => r = res.2 ∧ M2 = res.1) (Pre D cy shX ad nX adK adV) (Aw ad nX)) 0 0 (Aw ad nX) := by
  refine Met.ofW (cc := cX6_text) (maxL := 2) (ret := (some .int)) (by decide) rfl ?_
  intro p e s m args below meth c s₁ B hml hv
  obtain ⟨hargs, hPre⟩ := hv
  have hx := B.exec
  have hb := B.bytes
  have hr := B.returns
  have hts := atoms_spec (ws := wU yX6_text cX6_text 2 (some .int)) B.pre
  have hq : ∀ w ∈ gW, w.before args s = true := fun w hw => hts w (List.mem_cons_of_mem _ hw)
  have hcm : ∀ w ∈ gW, w ∈ wU yX6_text cX6_text 2 (some .int) := fun w hw => List.mem_cons_of_mem _ hw
  have hown : s.vm.findClass RX6 = some m.cls := findClass_of_methodNamed B.named
  have hlocks := B.notSynchronized
  have hF : CallFix p m c cX6_text 2 s args (wU yX6_text cX6_text 2 (some .int)) RX6 := ⟨hx, hb, hml, hown, hts⟩
  have hK := hPre.2.1
  have hZ := hPre.2.2.2
  have hw : Wd D cy shX ad nX (Aw ad nX) s.heap M s.heap [] := ⟨hPre.1, hPre.2.2.1, va_S.rf⟩
  have iw4 : ∀ w ∈ u_ws RX4 TX4 6, w ∈ wU yX6_text cX6_text 2 (some .int) := fun w hw => List.mem_cons_of_mem _ (iX4 w hw)
  have iw6 : ∀ w ∈ u_ws RX6 TX6 8, w ∈ wU yX6_text cX6_text 2 (some .int) := fun w hw => List.mem_cons_of_mem _ (iX6 w hw)
  rw [show entryFrame m args 2 = entryFrame m ([.ref (ad o0)] : List Value).toArray 2 from by rw [hargs]]
  have hl := lv_entry ([.ref (ad o0)]) (n := 2) (Nat.le_of_ble_eq_true rfl)
  rw [lg_entry_eq]
  generalize (lg_sl ([.ref (ad o0)]) ++ List.replicate (2 - (lg_sl ([.ref (ad o0)])).length) Slot.unset).toArray = ls at hl ⊢
  have hl : lv_has ls 2 [(0, .ref (ad o0))] := hl
  have hb38 : ∀ (M : Mm) (x0 : Nat) (x1 : Int32), f_X6_text_b38 M x0 x1 = some res → ∀ (H : Heap) (locs : List Loc) (ls : Array Slot), Wd D cy shX ad nX (Aw ad nX) s.heap M H locs → lv_has ls 2 [(0, .ref (ad x0)), (1, .int x1)] → W p l e (headSpec (wU yX6_text cX6_text 2 (some .int)) rmX6_text).room s m args below meth c H locs 0 0 (QI D cy shX ad nX adK adV below args s res) (F0 m 38 ls []) := by
    intro M x0 x1 h H locs ls hw hl
    unfold f_X6_text_b38 at h
    refine lv_aload_n hx hb dX6_text_38 rfl (lv_at hl 0 rfl) ?_
    replace h := gd_some h
    obtain ⟨g1, h⟩ := h
    replace h := bd_some h
    obtain ⟨q2, eq2, h⟩ := h
    refine r_getR hx hb hts iw6 hown hK hw x0 5 g1 (by decide) rfl (by decide) rfl (hq _ qw340) (fun _ h9 => h9) dX6_text_39 eq2 ?_
    refine lv_iconst (v := (0 : Int32)) hx hb dX6_text_42 (by decide) ?_
    replace h := gd_some h
    obtain ⟨g3, h⟩ := h
    refine r_putI hx hb hts iw4 tyX4 tyX4_ok nmX4 hown hK hw q2 1 g3 (by decide) rfl (by decide) rfl (hq _ qw297) (fun _ h9 => h9) rfl rfl rfl dX6_text_43 (fun H locs hw => ?_)
    replace h := lt_some h
    obtain ⟨M4, eM4, h⟩ := h
    rw [← eM4] at hw
    refine lv_iload_n hx hb dX6_text_46 rfl (lv_at hl 1 rfl) ?_
    exact r_iret hx hb hr rfl hlocks hZ hK hw h dX6_text_47
  unfold f_X6_text at h
  refine lv_aload_n hx hb dX6_text_0 rfl (lv_at hl 0 rfl) ?_
  replace h := gd_some h
  obtain ⟨g5, h⟩ := h
  replace h := bd_some h
  obtain ⟨q6, eq6, h⟩ := h
  refine r_getR hx hb hts iw6 hown hK hw o0 4 g5 (by decide) rfl (by decide) rfl (hq _ qw339) (fun _ h9 => h9) dX6_text_1 eq6 ?_
  refine lv_aload_n hx hb dX6_text_4 rfl (lv_at hl 0 rfl) ?_
  replace h := bd_some h
  obtain ⟨q7, eq7, h⟩ := h
  refine r_getR hx hb hts iw6 hown hK hw o0 0 g5 (by decide) rfl (by decide) rfl (hq _ qw335) (fun _ h9 => h9) dX6_text_5 eq7 ?_
  replace h := gd_some h
  obtain ⟨g9, h⟩ := h
  replace h := bd_some h
  obtain ⟨r8, er8, h⟩ := h
  refine r_callVv (As := [.ref (ad q7)]) (rest := []) hF (c_X1_become l D cy ad adK adV M q6 q7 r8 er8) (gW_goodV hcm qw457 qw454 qw455 qw456 qw61) hdX1_become rfl ⟨Nat.le_of_ble_eq_true rfl, Nat.le_of_ble_eq_true rfl⟩ rfl rfl hZ hK hw g9 (by decide) rfl rfl hl.1 rfl (Nat.le_of_ble_eq_true rfl) ⟨Nat.zero_le _, Nat.zero_le _⟩ dX6_text_8 (fun H locs hw => ?_)
  refine lv_aload_n hx hb dX6_text_11 rfl (lv_at hl 0 rfl) ?_
  replace h := bd_some h
  obtain ⟨q10, eq10, h⟩ := h
  refine r_getR hx hb hts iw6 hown hK hw o0 5 g5 (by decide) rfl (by decide) rfl (hq _ qw340) (fun _ h9 => h9) dX6_text_12 eq10 ?_
  refine lv_aload_n hx hb dX6_text_15 rfl (lv_at hl 0 rfl) ?_
  replace h := bd_some h
  obtain ⟨q11, eq11, h⟩ := h
  refine r_getR hx hb hts iw6 hown hK hw o0 4 g5 (by decide) rfl (by decide) rfl (hq _ qw339) (fun _ h9 => h9) dX6_text_16 eq11 ?_
  replace h := gd_some h
  obtain ⟨g13, h⟩ := h
  replace h := bd_some h
  obtain ⟨r12, er12, h⟩ := h
  refine r_callVi (As := [.ref (ad q11)]) (rest := []) hF (c_X4_readInto l D cy ad adK adV r8.1 q10 q11 r12 er12) (gW_goodV hcm qw472 qw469 qw470 qw471 qw65) hdX4_readInto rfl ⟨Nat.le_of_ble_eq_true rfl, Nat.le_of_ble_eq_true rfl⟩ rfl rfl hZ hK hw g13 (by decide) rfl rfl hl.1 rfl (Nat.le_of_ble_eq_true rfl) ⟨Nat.zero_le _, Nat.zero_le _⟩ dX6_text_19 (fun H locs hw => ?_)
  refine lv_istore_n (lv' := [(1, .int r12.2), (0, .ref (ad o0))]) hx hb dX6_text_22 rfl hl (by decide) rfl (fun ls hl => ?_)
  refine lv_iload_n hx hb dX6_text_23 rfl (lv_at hl 0 rfl) ?_
  refine lv_if_lt (tgt := 38) hx hb dX6_text_24 (by decide) (fun c14 => ?_) (fun c14 => ?_)
  · replace h := if_some_t c14 h
    exact hb38 _ _ _ h _ _ _ hw (lv_sub hl [1, 0] rfl)
  · replace h := if_some_f c14 h
    refine lv_aload_n hx hb dX6_text_27 rfl (lv_at hl 1 rfl) ?_
    replace h := bd_some h
    obtain ⟨q15, eq15, h⟩ := h
    refine r_getR hx hb hts iw6 hown hK hw o0 0 g5 (by decide) rfl (by decide) rfl (hq _ qw335) (fun _ h9 => h9) dX6_text_28 eq15 ?_
    refine lv_aload_n hx hb dX6_text_31 rfl (lv_at hl 1 rfl) ?_
    replace h := bd_some h
    obtain ⟨q16, eq16, h⟩ := h
    refine r_getR hx hb hts iw6 hown hK hw o0 4 g5 (by decide) rfl (by decide) rfl (hq _ qw339) (fun _ h9 => h9) dX6_text_32 eq16 ?_
    replace h := gd_some h
    obtain ⟨g18, h⟩ := h
    replace h := bd_some h
    obtain ⟨r17, er17, h⟩ := h
    refine r_callVv (As := [.ref (ad q16)]) (rest := []) hF (c_X1_become l D cy ad adK adV r12.1 q15 q16 r17 er17) (gW_goodV hcm qw457 qw454 qw455 qw456 qw61) hdX1_become rfl ⟨Nat.le_of_ble_eq_true rfl, Nat.le_of_ble_eq_true rfl⟩ rfl rfl hZ hK hw g18 (by decide) rfl rfl hl.1 rfl (Nat.le_of_ble_eq_true rfl) ⟨Nat.zero_le _, Nat.zero_le _⟩ dX6_text_35 (fun H locs hw => ?_)
    exact hb38 _ _ _ h _ _ _ hw (lv_sub hl [1, 0] rfl)
theorem dX6_next_0 : decode cX6_next 0 = .ok (.iload_n 1, 1) := by decide +kernel
theorem dX6_next_1 : decode cX6_next 1 = .ok (.ifCond .lt 8, 3) := by decide +kernel
theorem dX6_next_4 : decode cX6_next 4 = .ok (.iload_n 1, 1) := by decide +kernel
theorem dX6_next_5 : decode cX6_next 5 = .ok (.iconst 4, 1) := by decide +kernel
theorem dX6_next_6 : decode cX6_next 6 = .ok (.if_icmp .le 9, 3) := by decide +kernel
theorem dX6_next_9 : decode cX6_next 9 = .ok (.aload_n 0, 1) := by decide +kernel
theorem dX6_next_10 : decode cX6_next 10 = .ok (.iconst 0, 1) := by decide +kernel
theorem dX6_next_11 : decode cX6_next 11 = .ok (.invokevirtual 59, 3) := by decide +kernel
theorem dX6_next_14 : decode cX6_next 14 = .ok (.ireturn, 1) := by decide +kernel
theorem dX6_next_15 : decode cX6_next 15 = .ok (.aload_n 0, 1) := by decide +kernel
theorem dX6_next_16 : decode cX6_next 16 = .ok (.getfield 10, 3) := by decide +kernel
theorem dX6_next_19 : decode cX6_next 19 = .ok (.invokevirtual 159, 3) := by decide +kernel
theorem dX6_next_22 : decode cX6_next 22 = .ok (.ifCond .eq 9, 3) := by decide +kernel
theorem dX6_next_25 : decode cX6_next 25 = .ok (.aload_n 0, 1) := by decide +kernel
theorem dX6_next_26 : decode cX6_next 26 = .ok (.iconst 3, 1) := by decide +kernel
theorem dX6_next_27 : decode cX6_next 27 = .ok (.invokevirtual 59, 3) := by decide +kernel
theorem dX6_next_30 : decode cX6_next 30 = .ok (.ireturn, 1) := by decide +kernel
theorem dX6_next_31 : decode cX6_next 31 = .ok (.aload_n 0, 1) := by decide +kernel
theorem dX6_next_32 : decode cX6_next 32 = .ok (.getfield 10, 3) := by decide +kernel
theorem dX6_next_35 : decode cX6_next 35 = .ok (.getfield 120, 3) := by decide +kernel
theorem dX6_next_38 : decode cX6_next 38 = .ok (.aload_n 0, 1) := by decide +kernel
theorem dX6_next_39 : decode cX6_next 39 = .ok (.getfield 10, 3) := by decide +kernel
theorem dX6_next_42 : decode cX6_next 42 = .ok (.getfield 117, 3) := by decide +kernel
theorem dX6_next_45 : decode cX6_next 45 = .ok (.aaload, 1) := by decide +kernel
theorem dX6_next_46 : decode cX6_next 46 = .ok (.astore_n 2, 1) := by decide +kernel
theorem dX6_next_47 : decode cX6_next 47 = .ok (.aload_n 0, 1) := by decide +kernel
theorem dX6_next_48 : decode cX6_next 48 = .ok (.getfield 10, 3) := by decide +kernel
theorem dX6_next_51 : decode cX6_next 51 = .ok (.aload_n 2, 1) := by decide +kernel
theorem dX6_next_52 : decode cX6_next 52 = .ok (.getfield 124, 3) := by decide +kernel
theorem dX6_next_55 : decode cX6_next 55 = .ok (.invokevirtual 163, 3) := by decide +kernel
theorem dX6_next_58 : decode cX6_next 58 = .ok (.istore_n 3, 1) := by decide +kernel
theorem dX6_next_59 : decode cX6_next 59 = .ok (.aload_n 0, 1) := by decide +kernel
theorem dX6_next_60 : decode cX6_next 60 = .ok (.getfield 10, 3) := by decide +kernel
theorem dX6_next_63 : decode cX6_next 63 = .ok (.aload_n 2, 1) := by decide +kernel
theorem dX6_next_64 : decode cX6_next 64 = .ok (.getfield 129, 3) := by decide +kernel
theorem dX6_next_67 : decode cX6_next 67 = .ok (.invokevirtual 163, 3) := by decide +kernel
theorem dX6_next_70 : decode cX6_next 70 = .ok (.istore 4, 2) := by decide +kernel
theorem dX6_next_72 : decode cX6_next 72 = .ok (.iload_n 1, 1) := by decide +kernel
theorem dX6_next_73 : decode cX6_next 73 = .ok (.tableswitch 60 0 3 #[31, 33, 36, 47], 31) := by decide +kernel
theorem dX6_next_104 : decode cX6_next 104 = .ok (.iload_n 3, 1) := by decide +kernel
theorem dX6_next_105 : decode cX6_next 105 = .ok (.ireturn, 1) := by decide +kernel
theorem dX6_next_106 : decode cX6_next 106 = .ok (.iload 4, 2) := by decide +kernel
theorem dX6_next_108 : decode cX6_next 108 = .ok (.ireturn, 1) := by decide +kernel
theorem dX6_next_109 : decode cX6_next 109 = .ok (.aload_n 0, 1) := by decide +kernel
theorem dX6_next_110 : decode cX6_next 110 = .ok (.getfield 10, 3) := by decide +kernel
theorem dX6_next_113 : decode cX6_next 113 = .ok (.iload_n 3, 1) := by decide +kernel
theorem dX6_next_114 : decode cX6_next 114 = .ok (.iload 4, 2) := by decide +kernel
theorem dX6_next_116 : decode cX6_next 116 = .ok (.invokevirtual 166, 3) := by decide +kernel
theorem dX6_next_119 : decode cX6_next 119 = .ok (.ireturn, 1) := by decide +kernel
theorem dX6_next_120 : decode cX6_next 120 = .ok (.aload_n 0, 1) := by decide +kernel
theorem dX6_next_121 : decode cX6_next 121 = .ok (.getfield 10, 3) := by decide +kernel
theorem dX6_next_124 : decode cX6_next 124 = .ok (.aload_n 2, 1) := by decide +kernel
theorem dX6_next_125 : decode cX6_next 125 = .ok (.getfield 124, 3) := by decide +kernel
theorem dX6_next_128 : decode cX6_next 128 = .ok (.iload_n 3, 1) := by decide +kernel
theorem dX6_next_129 : decode cX6_next 129 = .ok (.invokevirtual 170, 3) := by decide +kernel
theorem dX6_next_132 : decode cX6_next 132 = .ok (.ireturn, 1) := by decide +kernel
theorem dX6_next_133 : decode cX6_next 133 = .ok (.aload_n 0, 1) := by decide +kernel
theorem dX6_next_134 : decode cX6_next 134 = .ok (.getfield 10, 3) := by decide +kernel
theorem dX6_next_137 : decode cX6_next 137 = .ok (.aload_n 2, 1) := by decide +kernel
theorem dX6_next_138 : decode cX6_next 138 = .ok (.getfield 129, 3) := by decide +kernel
theorem dX6_next_141 : decode cX6_next 141 = .ok (.iload 4, 2) := by decide +kernel
theorem dX6_next_143 : decode cX6_next 143 = .ok (.invokevirtual 170, 3) := by decide +kernel
theorem dX6_next_146 : decode cX6_next 146 = .ok (.ireturn, 1) := by decide +kernel
set_option maxHeartbeats 4000000 in
set_option maxRecDepth 100000 in
theorem c_X6_next (l : Launch) (D : va_G) (cy : Nat → ClassId) (ad adK adV : Nat → Nat) (M : Mm) (o0 : Nat) (a1 : Int32) (res : Mm × Int32) (h : f_X6_next M o0 a1 = some res) : Met l yX6_next (wU yX6_next cX6_next 5 (some .int)) rmX6_next (va_Pc [.ref (ad o0), .int a1] (Pre D cy shX ad nX adK adV M)) (va_Qi (fun r (M2 : Mm) => r = res.2 ∧ M2 = res.1) (Pre D cy shX ad nX adK adV) (Aw ad nX)) 0 0 (Aw ad nX) := by
  refine Met.ofW (cc := cX6_next) (maxL := 5) (ret := (some .int)) (by decide) rfl ?_
  intro p e s m args below meth c s₁ B hml hv
  obtain ⟨hargs, hPre⟩ := hv
  have hx := B.exec
  have hb := B.bytes
  have hr := B.returns
  have hts := atoms_spec (ws := wU yX6_next cX6_next 5 (some .int)) B.pre
  have hq : ∀ w ∈ gW, w.before args s = true := fun w hw => hts w (List.mem_cons_of_mem _ hw)
  have hcm : ∀ w ∈ gW, w ∈ wU yX6_next cX6_next 5 (some .int) := fun w hw => List.mem_cons_of_mem _ hw
  have hown : s.vm.findClass RX6 = some m.cls := findClass_of_methodNamed B.named
  have hlocks := B.notSynchronized
  have hF : CallFix p m c cX6_next 5 s args (wU yX6_next cX6_next 5 (some .int)) RX6 := ⟨hx, hb, hml, hown, hts⟩
  have hK := hPre.2.1
  have hZ := hPre.2.2.2
  have hw : Wd D cy shX ad nX (Aw ad nX) s.heap M s.heap [] := ⟨hPre.1, hPre.2.2.1, va_S.rf⟩
  have iw0 : ∀ w ∈ u_ws RX0 TX0 9, w ∈ wU yX6_next cX6_next 5 (some .int) := fun w hw => List.mem_cons_of_mem _ (iX0 w hw)
  have iw1 : ∀ w ∈ u_ws RX1 TX1 11, w ∈ wU yX6_next cX6_next 5 (some .int) := fun w hw => List.mem_cons_of_mem _ (iX1 w hw)
  have iw6 : ∀ w ∈ u_ws RX6 TX6 8, w ∈ wU yX6_next cX6_next 5 (some .int) := fun w hw => List.mem_cons_of_mem _ (iX6 w hw)
  rw [show entryFrame m args 5 = entryFrame m ([.ref (ad o0), .int a1] : List Value).toArray 5 from by rw [hargs]]
  have hl := lv_entry ([.ref (ad o0), .int a1]) (n := 5) (Nat.le_of_ble_eq_true rfl)
  rw [lg_entry_eq]
  generalize (lg_sl ([.ref (ad o0), .int a1]) ++ List.replicate (5 - (lg_sl ([.ref (ad o0), .int a1])).length) Slot.unset).toArray = ls at hl ⊢
  have hl : lv_has ls 5 [(0, .ref (ad o0)), (1, .int a1)] := hl
  have hb9 : ∀ (M : Mm) (x0 : Nat), f_X6_next_b9 M x0 = some res → ∀ (H : Heap) (locs : List Loc) (ls : Array Slot), Wd D cy shX ad nX (Aw ad nX) s.heap M H locs → lv_has ls 5 [(0, .ref (ad x0))] → W p l e (headSpec (wU yX6_next cX6_next 5 (some .int)) rmX6_next).room s m args below meth c H locs 0 0 (QI D cy shX ad nX adK adV below args s res) (F0 m 9 ls []) := by
    intro M x0 h H locs ls hw hl
    unfold f_X6_next_b9 at h
    refine lv_aload_n hx hb dX6_next_9 rfl (lv_at hl 0 rfl) ?_
    refine lv_iconst (v := (0 : Int32)) hx hb dX6_next_10 (by decide) ?_
    replace h := gd_some h
    obtain ⟨g2, h⟩ := h
    replace h := bd_some h
    obtain ⟨r1, er1, h⟩ := h
    refine r_callVi (As := [.int (0 : Int32)]) (rest := []) hF (c_X6_finding l D cy ad adK adV M x0 (0 : Int32) r1 er1) (gW_goodV hcm qw373 qw370 qw372 qw0 qw60) hdX6_finding rfl ⟨Nat.le_of_ble_eq_true rfl, Nat.le_of_ble_eq_true rfl⟩ rfl rfl hZ hK hw g2 (by decide) rfl rfl hl.1 rfl (Nat.le_of_ble_eq_true rfl) ⟨Nat.zero_le _, Nat.zero_le _⟩ dX6_next_11 (fun H locs hw => ?_)
    exact r_iret hx hb hr rfl hlocks hZ hK hw h dX6_next_14
  unfold f_X6_next at h
  refine lv_iload_n hx hb dX6_next_0 rfl (lv_at hl 1 rfl) ?_
  refine lv_if_lt (tgt := 9) hx hb dX6_next_1 (by decide) (fun c3 => ?_) (fun c3 => ?_)
  · replace h := if_some_t c3 h
    exact hb9 _ _ h _ _ _ hw (lv_sub hl [0] rfl)
  · replace h := if_some_f c3 h
    refine lv_iload_n hx hb dX6_next_4 rfl (lv_at hl 1 rfl) ?_
    refine lv_iconst (v := (4 : Int32)) hx hb dX6_next_5 (by decide) ?_
    refine lv_icmp_le (tgt := 15) hx hb dX6_next_6 (by decide) (fun c4 => ?_) (fun c4 => ?_)
    · replace h := if_some_t c4 h
      refine lv_aload_n hx hb dX6_next_15 rfl (lv_at hl 0 rfl) ?_
      replace h := gd_some h
      obtain ⟨g5, h⟩ := h
      replace h := bd_some h
      obtain ⟨q6, eq6, h⟩ := h
      refine r_getR hx hb hts iw6 hown hK hw o0 0 g5 (by decide) rfl (by decide) rfl (hq _ qw335) (fun _ h9 => h9) dX6_next_16 eq6 ?_
      replace h := gd_some h
      obtain ⟨g8, h⟩ := h
      replace h := bd_some h
      obtain ⟨r7, er7, h⟩ := h
      refine r_callVi (As := []) (rest := []) hF (c_X1_allPlayed l D cy ad adK adV M q6 r7 er7) (gW_goodV hcm qw591 qw588 qw589 qw590 qw61) hdX1_allPlayed rfl ⟨Nat.le_of_ble_eq_true rfl, Nat.le_of_ble_eq_true rfl⟩ rfl rfl hZ hK hw g8 (by decide) rfl rfl hl.1 rfl (Nat.le_of_ble_eq_true rfl) ⟨Nat.zero_le _, Nat.zero_le _⟩ dX6_next_19 (fun H locs hw => ?_)
      refine lv_if_eq (tgt := 31) hx hb dX6_next_22 (by decide) (fun c9 => ?_) (fun c9 => ?_)
      · replace h := if_some_t c9 h
        refine lv_aload_n hx hb dX6_next_31 rfl (lv_at hl 0 rfl) ?_
        replace h := bd_some h
        obtain ⟨q10, eq10, h⟩ := h
        refine r_getR hx hb hts iw6 hown hK hw o0 0 g5 (by decide) rfl (by decide) rfl (hq _ qw335) (fun _ h9 => h9) dX6_next_32 eq10 ?_
        replace h := gd_some h
        obtain ⟨g11, h⟩ := h
        replace h := bd_some h
        obtain ⟨q12, eq12, h⟩ := h
        refine r_getR hx hb hts iw1 hown hK hw q10 1 g11 (by decide) rfl (by decide) rfl (hq _ qw186) (fun _ h9 => h9) dX6_next_35 eq12 ?_
        refine lv_aload_n hx hb dX6_next_38 rfl (lv_at hl 0 rfl) ?_
        replace h := bd_some h
        obtain ⟨q13, eq13, h⟩ := h
        refine r_getR hx hb hts iw6 hown hK hw o0 0 g5 (by decide) rfl (by decide) rfl (hq _ qw335) (fun _ h9 => h9) dX6_next_39 eq13 ?_
        replace h := gd_some h
        obtain ⟨g14, h⟩ := h
        refine r_getI hx hb hts iw1 hown hK hw q13 5 g14 (by decide) rfl (by decide) rfl (hq _ qw199) (fun _ h9 => h9) dX6_next_42 ?_
        replace h := gd_some h
        obtain ⟨g15, h⟩ := h
        replace h := bd_some h
        obtain ⟨q16, eq16, h⟩ := h
        refine r_aald hx hb hK hw q12 3 (by decide) rfl g15 dX6_next_45 eq16 ?_
        refine lv_astore_n (lv' := [(2, .ref (ad q16)), (0, .ref (ad o0)), (1, .int a1)]) hx hb dX6_next_46 rfl hl (by decide) rfl (fun ls hl => ?_)
        refine lv_aload_n hx hb dX6_next_47 rfl (lv_at hl 1 rfl) ?_
        replace h := bd_some h
        obtain ⟨q17, eq17, h⟩ := h
        refine r_getR hx hb hts iw6 hown hK hw o0 0 g5 (by decide) rfl (by decide) rfl (hq _ qw335) (fun _ h9 => h9) dX6_next_48 eq17 ?_
        refine lv_aload_n hx hb dX6_next_51 rfl (lv_at hl 0 rfl) ?_
        replace h := gd_some h
        obtain ⟨g18, h⟩ := h
        refine r_getI hx hb hts iw0 hown hK hw q16 0 g18 (by decide) rfl (by decide) rfl (hq _ qw136) (fun _ h9 => h9) dX6_next_52 ?_
        replace h := gd_some h
        obtain ⟨g20, h⟩ := h
        replace h := bd_some h
        obtain ⟨r19, er19, h⟩ := h
        refine r_callVi (As := [.int (r7.1.1 q16 0)]) (rest := []) hF (c_X1_effortOf l D cy ad adK adV r7.1 q17 (r7.1.1 q16 0) r19 er19) (gW_goodV hcm qw595 qw592 qw593 qw594 qw61) hdX1_effortOf rfl ⟨Nat.le_of_ble_eq_true rfl, Nat.le_of_ble_eq_true rfl⟩ rfl rfl hZ hK hw g20 (by decide) rfl rfl hl.1 rfl (Nat.le_of_ble_eq_true rfl) ⟨Nat.zero_le _, Nat.zero_le _⟩ dX6_next_55 (fun H locs hw => ?_)
        refine lv_istore_n (lv' := [(3, .int r19.2), (2, .ref (ad q16)), (0, .ref (ad o0)), (1, .int a1)]) hx hb dX6_next_58 rfl hl (by decide) rfl (fun ls hl => ?_)
        refine lv_aload_n hx hb dX6_next_59 rfl (lv_at hl 2 rfl) ?_
        replace h := bd_some h
        obtain ⟨q21, eq21, h⟩ := h
        refine r_getR hx hb hts iw6 hown hK hw o0 0 g5 (by decide) rfl (by decide) rfl (hq _ qw335) (fun _ h9 => h9) dX6_next_60 eq21 ?_
        refine lv_aload_n hx hb dX6_next_63 rfl (lv_at hl 1 rfl) ?_
        refine r_getI hx hb hts iw0 hown hK hw q16 1 g18 (by decide) rfl (by decide) rfl (hq _ qw140) (fun _ h9 => h9) dX6_next_64 ?_
        replace h := gd_some h
        obtain ⟨g23, h⟩ := h
        replace h := bd_some h
        obtain ⟨r22, er22, h⟩ := h
        refine r_callVi (As := [.int (r19.1.1 q16 1)]) (rest := []) hF (c_X1_effortOf l D cy ad adK adV r19.1 q21 (r19.1.1 q16 1) r22 er22) (gW_goodV hcm qw595 qw592 qw593 qw594 qw61) hdX1_effortOf rfl ⟨Nat.le_of_ble_eq_true rfl, Nat.le_of_ble_eq_true rfl⟩ rfl rfl hZ hK hw g23 (by decide) rfl rfl hl.1 rfl (Nat.le_of_ble_eq_true rfl) ⟨Nat.zero_le _, Nat.zero_le _⟩ dX6_next_67 (fun H locs hw => ?_)
        refine lv_istore (lv' := [(4, .int r22.2), (3, .int r19.2), (2, .ref (ad q16)), (0, .ref (ad o0)), (1, .int a1)]) hx hb dX6_next_70 hl (by decide) rfl (fun ls hl => ?_)
        refine lv_iload_n hx hb dX6_next_72 rfl (lv_at hl 4 rfl) ?_
        by_cases s24 : a1 = 0
        · replace h := if_some_t s24 h
          refine lv_tableIn (off := 31) (tgt := 104) hx hb dX6_next_73 (by rw [s24]; decide) (by rw [s24]; decide) (by rw [s24]; decide) (by decide) ?_
          refine lv_iload_n hx hb dX6_next_104 rfl (lv_at hl 1 rfl) ?_
          exact r_iret hx hb hr rfl hlocks hZ hK hw h dX6_next_105
        replace h := if_some_f s24 h
        by_cases s25 : a1 = 1
        · replace h := if_some_t s25 h
          refine lv_tableIn (off := 33) (tgt := 106) hx hb dX6_next_73 (by rw [s25]; decide) (by rw [s25]; decide) (by rw [s25]; decide) (by decide) ?_
          refine lv_iload hx hb dX6_next_106 (lv_at hl 0 rfl) ?_
          exact r_iret hx hb hr rfl hlocks hZ hK hw h dX6_next_108
        replace h := if_some_f s25 h
        by_cases s26 : a1 = 2
        · replace h := if_some_t s26 h
          refine lv_tableIn (off := 36) (tgt := 109) hx hb dX6_next_73 (by rw [s26]; decide) (by rw [s26]; decide) (by rw [s26]; decide) (by decide) ?_
          refine lv_aload_n hx hb dX6_next_109 rfl (lv_at hl 3 rfl) ?_
          replace h := bd_some h
          obtain ⟨q27, eq27, h⟩ := h
          refine r_getR hx hb hts iw6 hown hK hw o0 0 g5 (by decide) rfl (by decide) rfl (hq _ qw335) (fun _ h9 => h9) dX6_next_110 eq27 ?_
          refine lv_iload_n hx hb dX6_next_113 rfl (lv_at hl 1 rfl) ?_
          refine lv_iload hx hb dX6_next_114 (lv_at hl 0 rfl) ?_
          replace h := gd_some h
          obtain ⟨g29, h⟩ := h
          replace h := bd_some h
          obtain ⟨r28, er28, h⟩ := h
          refine r_callVi (As := [.int r19.2, .int r22.2]) (rest := []) hF (c_X1_chanceOfFirst l D cy ad adK adV r22.1 q27 r19.2 r22.2 r28 er28) (gW_goodV hcm qw605 qw602 qw603 qw604 qw61) hdX1_chanceOfFirst rfl ⟨Nat.le_of_ble_eq_true rfl, Nat.le_of_ble_eq_true rfl⟩ rfl rfl hZ hK hw g29 (by decide) rfl rfl hl.1 rfl (Nat.le_of_ble_eq_true rfl) ⟨Nat.zero_le _, Nat.zero_le _⟩ dX6_next_116 (fun H locs hw => ?_)
          exact r_iret hx hb hr rfl hlocks hZ hK hw h dX6_next_119
        replace h := if_some_f s26 h
        by_cases s30 : a1 = 3
        · replace h := if_some_t s30 h
          refine lv_tableIn (off := 47) (tgt := 120) hx hb dX6_next_73 (by rw [s30]; decide) (by rw [s30]; decide) (by rw [s30]; decide) (by decide) ?_
          refine lv_aload_n hx hb dX6_next_120 rfl (lv_at hl 3 rfl) ?_
          replace h := bd_some h
          obtain ⟨q31, eq31, h⟩ := h
          refine r_getR hx hb hts iw6 hown hK hw o0 0 g5 (by decide) rfl (by decide) rfl (hq _ qw335) (fun _ h9 => h9) dX6_next_121 eq31 ?_
          refine lv_aload_n hx hb dX6_next_124 rfl (lv_at hl 2 rfl) ?_
          refine r_getI hx hb hts iw0 hown hK hw q16 0 g18 (by decide) rfl (by decide) rfl (hq _ qw136) (fun _ h9 => h9) dX6_next_125 ?_
          refine lv_iload_n hx hb dX6_next_128 rfl (lv_at hl 1 rfl) ?_
          replace h := gd_some h
          obtain ⟨g33, h⟩ := h
          replace h := bd_some h
          obtain ⟨r32, er32, h⟩ := h
          refine r_callVi (As := [.int (r22.1.1 q16 0), .int r19.2]) (rest := []) hF (c_X1_forceOf l D cy ad adK adV r22.1 q31 (r22.1.1 q16 0) r19.2 r32 er32) (gW_goodV hcm qw609 qw613 qw607 qw608 qw61) hdX1_forceOf rfl ⟨Nat.le_of_ble_eq_true rfl, Nat.le_of_ble_eq_true rfl⟩ rfl rfl hZ hK hw g33 (by decide) rfl rfl hl.1 rfl (Nat.le_of_ble_eq_true rfl) ⟨Nat.zero_le _, Nat.zero_le _⟩ dX6_next_129 (fun H locs hw => ?_)
          exact r_iret hx hb hr rfl hlocks hZ hK hw h dX6_next_132
        replace h := if_some_f s30 h
        have hout37 : a1.toInt < 0 ∨ 3 < a1.toInt := by
          refine tsw_out (fun cz h1 h2 => ?_)
          rcases (show cz = 0 ∨ cz = 1 ∨ cz = 2 ∨ cz = 3 by omega) with rfl | rfl | rfl | rfl
          · exact fun e9 => s24 (e9.trans (by decide))
          · exact fun e9 => s25 (e9.trans (by decide))
          · exact fun e9 => s26 (e9.trans (by decide))
          · exact fun e9 => s30 (e9.trans (by decide))
        refine lv_tableOut (tgt := 133) hx hb dX6_next_73 hout37 (by decide) ?_
        refine lv_aload_n hx hb dX6_next_133 rfl (lv_at hl 3 rfl) ?_
        replace h := bd_some h
        obtain ⟨q34, eq34, h⟩ := h
        refine r_getR hx hb hts iw6 hown hK hw o0 0 g5 (by decide) rfl (by decide) rfl (hq _ qw335) (fun _ h9 => h9) dX6_next_134 eq34 ?_
        refine lv_aload_n hx hb dX6_next_137 rfl (lv_at hl 2 rfl) ?_
        refine r_getI hx hb hts iw0 hown hK hw q16 1 g18 (by decide) rfl (by decide) rfl (hq _ qw140) (fun _ h9 => h9) dX6_next_138 ?_
        refine lv_iload hx hb dX6_next_141 (lv_at hl 0 rfl) ?_
        replace h := gd_some h
        obtain ⟨g36, h⟩ := h
        replace h := bd_some h
        obtain ⟨r35, er35, h⟩ := h
        refine r_callVi (As := [.int (r22.1.1 q16 1), .int r22.2]) (rest := []) hF (c_X1_forceOf l D cy ad adK adV r22.1 q34 (r22.1.1 q16 1) r22.2 r35 er35) (gW_goodV hcm qw609 qw613 qw607 qw608 qw61) hdX1_forceOf rfl ⟨Nat.le_of_ble_eq_true rfl, Nat.le_of_ble_eq_true rfl⟩ rfl rfl hZ hK hw g36 (by decide) rfl rfl hl.1 rfl (Nat.le_of_ble_eq_true rfl) ⟨Nat.zero_le _, Nat.zero_le _⟩ dX6_next_143 (fun H locs hw => ?_)
        exact r_iret hx hb hr rfl hlocks hZ hK hw h dX6_next_146
      · replace h := if_some_f c9 h
        refine lv_aload_n hx hb dX6_next_25 rfl (lv_at hl 0 rfl) ?_
        refine lv_iconst (v := (3 : Int32)) hx hb dX6_next_26 (by decide) ?_
        replace h := bd_some h
        obtain ⟨r38, er38, h⟩ := h
        refine r_callVi (As := [.int (3 : Int32)]) (rest := []) hF (c_X6_finding l D cy ad adK adV r7.1 o0 (3 : Int32) r38 er38) (gW_goodV hcm qw373 qw370 qw372 qw0 qw60) hdX6_finding rfl ⟨Nat.le_of_ble_eq_true rfl, Nat.le_of_ble_eq_true rfl⟩ rfl rfl hZ hK hw g5 (by decide) rfl rfl hl.1 rfl (Nat.le_of_ble_eq_true rfl) ⟨Nat.zero_le _, Nat.zero_le _⟩ dX6_next_27 (fun H locs hw => ?_)
        exact r_iret hx hb hr rfl hlocks hZ hK hw h dX6_next_30
    · replace h := if_some_f c4 h
      exact hb9 _ _ h _ _ _ hw (lv_sub hl [0] rfl)
theorem dX6_win_0 : decode cX6_win 0 = .ok (.aload_n 0, 1) := by decide +kernel
theorem dX6_win_1 : decode cX6_win 1 = .ok (.getfield 10, 3) := by decide +kernel
theorem dX6_win_4 : decode cX6_win 4 = .ok (.invokevirtual 159, 3) := by decide +kernel
theorem dX6_win_7 : decode cX6_win 7 = .ok (.ifCond .eq 9, 3) := by decide +kernel
theorem dX6_win_10 : decode cX6_win 10 = .ok (.aload_n 0, 1) := by decide +kernel
theorem dX6_win_11 : decode cX6_win 11 = .ok (.iconst 3, 1) := by decide +kernel
theorem dX6_win_12 : decode cX6_win 12 = .ok (.invokevirtual 59, 3) := by decide +kernel
theorem dX6_win_15 : decode cX6_win 15 = .ok (.ireturn, 1) := by decide +kernel
theorem dX6_win_16 : decode cX6_win 16 = .ok (.aload_n 0, 1) := by decide +kernel
theorem dX6_win_17 : decode cX6_win 17 = .ok (.getfield 10, 3) := by decide +kernel
theorem dX6_win_20 : decode cX6_win 20 = .ok (.getfield 120, 3) := by decide +kernel
theorem dX6_win_23 : decode cX6_win 23 = .ok (.aload_n 0, 1) := by decide +kernel
theorem dX6_win_24 : decode cX6_win 24 = .ok (.getfield 10, 3) := by decide +kernel
theorem dX6_win_27 : decode cX6_win 27 = .ok (.getfield 117, 3) := by decide +kernel
theorem dX6_win_30 : decode cX6_win 30 = .ok (.aaload, 1) := by decide +kernel
theorem dX6_win_31 : decode cX6_win 31 = .ok (.iload_n 1, 1) := by decide +kernel
theorem dX6_win_32 : decode cX6_win 32 = .ok (.invokevirtual 173, 3) := by decide +kernel
theorem dX6_win_35 : decode cX6_win 35 = .ok (.ifCond .ne 9, 3) := by decide +kernel
theorem dX6_win_38 : decode cX6_win 38 = .ok (.aload_n 0, 1) := by decide +kernel
theorem dX6_win_39 : decode cX6_win 39 = .ok (.iconst 0, 1) := by decide +kernel
theorem dX6_win_40 : decode cX6_win 40 = .ok (.invokevirtual 59, 3) := by decide +kernel
theorem dX6_win_43 : decode cX6_win 43 = .ok (.ireturn, 1) := by decide +kernel
theorem dX6_win_44 : decode cX6_win 44 = .ok (.aload_n 0, 1) := by decide +kernel
theorem dX6_win_45 : decode cX6_win 45 = .ok (.getfield 10, 3) := by decide +kernel
theorem dX6_win_48 : decode cX6_win 48 = .ok (.iload_n 1, 1) := by decide +kernel
theorem dX6_win_49 : decode cX6_win 49 = .ok (.invokevirtual 176, 3) := by decide +kernel
theorem dX6_win_52 : decode cX6_win 52 = .ok (.ireturn, 1) := by decide +kernel
set_option maxHeartbeats 4000000 in
set_option maxRecDepth 100000 in
theorem c_X6_win (l : Launch) (D : va_G) (cy : Nat → ClassId) (ad adK adV : Nat → Nat) (M : Mm) (o0 : Nat) (a1 : Int32) (res : Mm × Int32) (h : f_X6_win M o0 a1 = some res) : Met l yX6_win (wU yX6_win cX6_win 2 (some .int)) rmX6_win (va_Pc [.ref (ad o0), .int a1] (Pre D cy shX ad nX adK adV M)) (va_Qi (fun r (M2 : Mm) => r = res.2 ∧ M2 = res.1) (Pre D cy shX ad nX adK adV) (Aw ad nX)) 0 0 (Aw ad nX) := by
  refine Met.ofW (cc := cX6_win) (maxL := 2) (ret := (some .int)) (by decide) rfl ?_
  intro p e s m args below meth c s₁ B hml hv
  obtain ⟨hargs, hPre⟩ := hv
  have hx := B.exec
  have hb := B.bytes
  have hr := B.returns
  have hts := atoms_spec (ws := wU yX6_win cX6_win 2 (some .int)) B.pre
  have hq : ∀ w ∈ gW, w.before args s = true := fun w hw => hts w (List.mem_cons_of_mem _ hw)
  have hcm : ∀ w ∈ gW, w ∈ wU yX6_win cX6_win 2 (some .int) := fun w hw => List.mem_cons_of_mem _ hw
  have hown : s.vm.findClass RX6 = some m.cls := findClass_of_methodNamed B.named
  have hlocks := B.notSynchronized
  have hF : CallFix p m c cX6_win 2 s args (wU yX6_win cX6_win 2 (some .int)) RX6 := ⟨hx, hb, hml, hown, hts⟩
  have hK := hPre.2.1
  have hZ := hPre.2.2.2
  have hw : Wd D cy shX ad nX (Aw ad nX) s.heap M s.heap [] := ⟨hPre.1, hPre.2.2.1, va_S.rf⟩
  have iw1 : ∀ w ∈ u_ws RX1 TX1 11, w ∈ wU yX6_win cX6_win 2 (some .int) := fun w hw => List.mem_cons_of_mem _ (iX1 w hw)
  have iw6 : ∀ w ∈ u_ws RX6 TX6 8, w ∈ wU yX6_win cX6_win 2 (some .int) := fun w hw => List.mem_cons_of_mem _ (iX6 w hw)
  rw [show entryFrame m args 2 = entryFrame m ([.ref (ad o0), .int a1] : List Value).toArray 2 from by rw [hargs]]
  have hl := lv_entry ([.ref (ad o0), .int a1]) (n := 2) (Nat.le_of_ble_eq_true rfl)
  rw [lg_entry_eq]
  generalize (lg_sl ([.ref (ad o0), .int a1]) ++ List.replicate (2 - (lg_sl ([.ref (ad o0), .int a1])).length) Slot.unset).toArray = ls at hl ⊢
  have hl : lv_has ls 2 [(0, .ref (ad o0)), (1, .int a1)] := hl
  unfold f_X6_win at h
  refine lv_aload_n hx hb dX6_win_0 rfl (lv_at hl 0 rfl) ?_
  replace h := gd_some h
  obtain ⟨g1, h⟩ := h
  replace h := bd_some h
  obtain ⟨q2, eq2, h⟩ := h
  refine r_getR hx hb hts iw6 hown hK hw o0 0 g1 (by decide) rfl (by decide) rfl (hq _ qw335) (fun _ h9 => h9) dX6_win_1 eq2 ?_
  replace h := gd_some h
  obtain ⟨g4, h⟩ := h
  replace h := bd_some h
  obtain ⟨r3, er3, h⟩ := h
  refine r_callVi (As := []) (rest := []) hF (c_X1_allPlayed l D cy ad adK adV M q2 r3 er3) (gW_goodV hcm qw591 qw588 qw589 qw590 qw61) hdX1_allPlayed rfl ⟨Nat.le_of_ble_eq_true rfl, Nat.le_of_ble_eq_true rfl⟩ rfl rfl hZ hK hw g4 (by decide) rfl rfl hl.1 rfl (Nat.le_of_ble_eq_true rfl) ⟨Nat.zero_le _, Nat.zero_le _⟩ dX6_win_4 (fun H locs hw => ?_)
  refine lv_if_eq (tgt := 16) hx hb dX6_win_7 (by decide) (fun c5 => ?_) (fun c5 => ?_)
  · replace h := if_some_t c5 h
    refine lv_aload_n hx hb dX6_win_16 rfl (lv_at hl 0 rfl) ?_
    replace h := bd_some h
    obtain ⟨q6, eq6, h⟩ := h
    refine r_getR hx hb hts iw6 hown hK hw o0 0 g1 (by decide) rfl (by decide) rfl (hq _ qw335) (fun _ h9 => h9) dX6_win_17 eq6 ?_
    replace h := gd_some h
    obtain ⟨g7, h⟩ := h
    replace h := bd_some h
    obtain ⟨q8, eq8, h⟩ := h
    refine r_getR hx hb hts iw1 hown hK hw q6 1 g7 (by decide) rfl (by decide) rfl (hq _ qw186) (fun _ h9 => h9) dX6_win_20 eq8 ?_
    refine lv_aload_n hx hb dX6_win_23 rfl (lv_at hl 0 rfl) ?_
    replace h := bd_some h
    obtain ⟨q9, eq9, h⟩ := h
    refine r_getR hx hb hts iw6 hown hK hw o0 0 g1 (by decide) rfl (by decide) rfl (hq _ qw335) (fun _ h9 => h9) dX6_win_24 eq9 ?_
    replace h := gd_some h
    obtain ⟨g10, h⟩ := h
    refine r_getI hx hb hts iw1 hown hK hw q9 5 g10 (by decide) rfl (by decide) rfl (hq _ qw199) (fun _ h9 => h9) dX6_win_27 ?_
    replace h := gd_some h
    obtain ⟨g11, h⟩ := h
    replace h := bd_some h
    obtain ⟨q12, eq12, h⟩ := h
    refine r_aald hx hb hK hw q8 3 (by decide) rfl g11 dX6_win_30 eq12 ?_
    refine lv_iload_n hx hb dX6_win_31 rfl (lv_at hl 1 rfl) ?_
    replace h := gd_some h
    obtain ⟨g14, h⟩ := h
    replace h := bd_some h
    obtain ⟨r13, er13, h⟩ := h
    refine r_callVi (As := [.int a1]) (rest := []) hF (c_X0_isOf l D cy ad adK adV r3.1 q12 a1 r13 er13) (gW_goodV hcm qw402 qw618 qw400 qw401 qw63) hdX0_isOf rfl ⟨Nat.le_of_ble_eq_true rfl, Nat.le_of_ble_eq_true rfl⟩ rfl rfl hZ hK hw g14 (by decide) rfl rfl hl.1 rfl (Nat.le_of_ble_eq_true rfl) ⟨Nat.zero_le _, Nat.zero_le _⟩ dX6_win_32 (fun H locs hw => ?_)
    refine lv_if_ne (tgt := 44) hx hb dX6_win_35 (by decide) (fun c15 => ?_) (fun c15 => ?_)
    · replace h := if_some_f c15 h
      refine lv_aload_n hx hb dX6_win_44 rfl (lv_at hl 0 rfl) ?_
      replace h := bd_some h
      obtain ⟨q16, eq16, h⟩ := h
      refine r_getR hx hb hts iw6 hown hK hw o0 0 g1 (by decide) rfl (by decide) rfl (hq _ qw335) (fun _ h9 => h9) dX6_win_45 eq16 ?_
      refine lv_iload_n hx hb dX6_win_48 rfl (lv_at hl 1 rfl) ?_
      replace h := gd_some h
      obtain ⟨g18, h⟩ := h
      replace h := bd_some h
      obtain ⟨r17, er17, h⟩ := h
      refine r_callVi (As := [.int a1]) (rest := []) hF (c_X1_playWonBy l D cy ad adK adV r13.1 q16 a1 r17 er17) (gW_goodV hcm qw622 qw619 qw620 qw621 qw61) hdX1_playWonBy rfl ⟨Nat.le_of_ble_eq_true rfl, Nat.le_of_ble_eq_true rfl⟩ rfl rfl hZ hK hw g18 (by decide) rfl rfl hl.1 rfl (Nat.le_of_ble_eq_true rfl) ⟨Nat.zero_le _, Nat.zero_le _⟩ dX6_win_49 (fun H locs hw => ?_)
      exact r_iret hx hb hr rfl hlocks hZ hK hw h dX6_win_52
    · replace h := if_some_t c15 h
      refine lv_aload_n hx hb dX6_win_38 rfl (lv_at hl 0 rfl) ?_
      refine lv_iconst (v := (0 : Int32)) hx hb dX6_win_39 (by decide) ?_
      replace h := bd_some h
      obtain ⟨r19, er19, h⟩ := h
      refine r_callVi (As := [.int (0 : Int32)]) (rest := []) hF (c_X6_finding l D cy ad adK adV r13.1 o0 (0 : Int32) r19 er19) (gW_goodV hcm qw373 qw370 qw372 qw0 qw60) hdX6_finding rfl ⟨Nat.le_of_ble_eq_true rfl, Nat.le_of_ble_eq_true rfl⟩ rfl rfl hZ hK hw g1 (by decide) rfl rfl hl.1 rfl (Nat.le_of_ble_eq_true rfl) ⟨Nat.zero_le _, Nat.zero_le _⟩ dX6_win_40 (fun H locs hw => ?_)
      exact r_iret hx hb hr rfl hlocks hZ hK hw h dX6_win_43
  · replace h := if_some_f c5 h
    refine lv_aload_n hx hb dX6_win_10 rfl (lv_at hl 0 rfl) ?_
    refine lv_iconst (v := (3 : Int32)) hx hb dX6_win_11 (by decide) ?_
    replace h := bd_some h
    obtain ⟨r20, er20, h⟩ := h
    refine r_callVi (As := [.int (3 : Int32)]) (rest := []) hF (c_X6_finding l D cy ad adK adV r3.1 o0 (3 : Int32) r20 er20) (gW_goodV hcm qw373 qw370 qw372 qw0 qw60) hdX6_finding rfl ⟨Nat.le_of_ble_eq_true rfl, Nat.le_of_ble_eq_true rfl⟩ rfl rfl hZ hK hw g1 (by decide) rfl rfl hl.1 rfl (Nat.le_of_ble_eq_true rfl) ⟨Nat.zero_le _, Nat.zero_le _⟩ dX6_win_12 (fun H locs hw => ?_)
    exact r_iret hx hb hr rfl hlocks hZ hK hw h dX6_win_15
theorem dX6_play_0 : decode cX6_play 0 = .ok (.aload_n 0, 1) := by decide +kernel
theorem dX6_play_1 : decode cX6_play 1 = .ok (.getfield 10, 3) := by decide +kernel
theorem dX6_play_4 : decode cX6_play 4 = .ok (.invokevirtual 159, 3) := by decide +kernel
theorem dX6_play_7 : decode cX6_play 7 = .ok (.ifCond .eq 9, 3) := by decide +kernel
theorem dX6_play_10 : decode cX6_play 10 = .ok (.aload_n 0, 1) := by decide +kernel
theorem dX6_play_11 : decode cX6_play 11 = .ok (.iconst 3, 1) := by decide +kernel
theorem dX6_play_12 : decode cX6_play 12 = .ok (.invokevirtual 59, 3) := by decide +kernel
theorem dX6_play_15 : decode cX6_play 15 = .ok (.ireturn, 1) := by decide +kernel
theorem dX6_play_16 : decode cX6_play 16 = .ok (.aload_n 0, 1) := by decide +kernel
theorem dX6_play_17 : decode cX6_play 17 = .ok (.getfield 10, 3) := by decide +kernel
theorem dX6_play_20 : decode cX6_play 20 = .ok (.invokevirtual 179, 3) := by decide +kernel
theorem dX6_play_23 : decode cX6_play 23 = .ok (.ireturn, 1) := by decide +kernel
set_option maxHeartbeats 4000000 in
set_option maxRecDepth 100000 in
theorem c_X6_play (l : Launch) (D : va_G) (cy : Nat → ClassId) (ad adK adV : Nat → Nat) (M : Mm) (o0 : Nat) (res : Mm × Int32) (h : f_X6_play M o0 = some res) : Met l yX6_play (wU yX6_play cX6_play 1 (some .int)) rmX6_play (va_Pc [.ref (ad o0)] (Pre D cy shX ad nX adK adV M)) (va_Qi (fun r (M2 : Mm) => r = res.2 ∧ M2 = res.1) (Pre D cy shX ad nX adK adV) (Aw ad nX)) 0 0 (Aw ad nX) := by
  refine Met.ofW (cc := cX6_play) (maxL := 1) (ret := (some .int)) (by decide) rfl ?_
  intro p e s m args below meth c s₁ B hml hv
  obtain ⟨hargs, hPre⟩ := hv
  have hx := B.exec
  have hb := B.bytes
  have hr := B.returns
  have hts := atoms_spec (ws := wU yX6_play cX6_play 1 (some .int)) B.pre
  have hq : ∀ w ∈ gW, w.before args s = true := fun w hw => hts w (List.mem_cons_of_mem _ hw)
  have hcm : ∀ w ∈ gW, w ∈ wU yX6_play cX6_play 1 (some .int) := fun w hw => List.mem_cons_of_mem _ hw
  have hown : s.vm.findClass RX6 = some m.cls := findClass_of_methodNamed B.named
  have hlocks := B.notSynchronized
  have hF : CallFix p m c cX6_play 1 s args (wU yX6_play cX6_play 1 (some .int)) RX6 := ⟨hx, hb, hml, hown, hts⟩
  have hK := hPre.2.1
  have hZ := hPre.2.2.2
  have hw : Wd D cy shX ad nX (Aw ad nX) s.heap M s.heap [] := ⟨hPre.1, hPre.2.2.1, va_S.rf⟩
  have iw6 : ∀ w ∈ u_ws RX6 TX6 8, w ∈ wU yX6_play cX6_play 1 (some .int) := fun w hw => List.mem_cons_of_mem _ (iX6 w hw)
  rw [show entryFrame m args 1 = entryFrame m ([.ref (ad o0)] : List Value).toArray 1 from by rw [hargs]]
  have hl := lv_entry ([.ref (ad o0)]) (n := 1) (Nat.le_of_ble_eq_true rfl)
  rw [lg_entry_eq]
  generalize (lg_sl ([.ref (ad o0)]) ++ List.replicate (1 - (lg_sl ([.ref (ad o0)])).length) Slot.unset).toArray = ls at hl ⊢
  have hl : lv_has ls 1 [(0, .ref (ad o0))] := hl
  unfold f_X6_play at h
  refine lv_aload_n hx hb dX6_play_0 rfl (lv_at hl 0 rfl) ?_
  replace h := gd_some h
  obtain ⟨g1, h⟩ := h
  replace h := bd_some h
  obtain ⟨q2, eq2, h⟩ := h
  refine r_getR hx hb hts iw6 hown hK hw o0 0 g1 (by decide) rfl (by decide) rfl (hq _ qw335) (fun _ h9 => h9) dX6_play_1 eq2 ?_
  replace h := gd_some h
  obtain ⟨g4, h⟩ := h
  replace h := bd_some h
  obtain ⟨r3, er3, h⟩ := h
  refine r_callVi (As := []) (rest := []) hF (c_X1_allPlayed l D cy ad adK adV M q2 r3 er3) (gW_goodV hcm qw591 qw588 qw589 qw590 qw61) hdX1_allPlayed rfl ⟨Nat.le_of_ble_eq_true rfl, Nat.le_of_ble_eq_true rfl⟩ rfl rfl hZ hK hw g4 (by decide) rfl rfl hl.1 rfl (Nat.le_of_ble_eq_true rfl) ⟨Nat.zero_le _, Nat.zero_le _⟩ dX6_play_4 (fun H locs hw => ?_)
  refine lv_if_eq (tgt := 16) hx hb dX6_play_7 (by decide) (fun c5 => ?_) (fun c5 => ?_)
  · replace h := if_some_t c5 h
    refine lv_aload_n hx hb dX6_play_16 rfl (lv_at hl 0 rfl) ?_
    replace h := bd_some h
    obtain ⟨q6, eq6, h⟩ := h
    refine r_getR hx hb hts iw6 hown hK hw o0 0 g1 (by decide) rfl (by decide) rfl (hq _ qw335) (fun _ h9 => h9) dX6_play_17 eq6 ?_
    replace h := gd_some h
    obtain ⟨g8, h⟩ := h
    replace h := bd_some h
    obtain ⟨r7, er7, h⟩ := h
    refine r_callVi (As := []) (rest := []) hF (c_X1_playDrawn l D cy ad adK adV r3.1 q6 r7 er7) (gW_goodV hcm qw643 qw640 qw641 qw642 qw61) hdX1_playDrawn rfl ⟨Nat.le_of_ble_eq_true rfl, Nat.le_of_ble_eq_true rfl⟩ rfl rfl hZ hK hw g8 (by decide) rfl rfl hl.1 rfl (Nat.le_of_ble_eq_true rfl) ⟨Nat.zero_le _, Nat.zero_le _⟩ dX6_play_20 (fun H locs hw => ?_)
    exact r_iret hx hb hr rfl hlocks hZ hK hw h dX6_play_23
  · replace h := if_some_f c5 h
    refine lv_aload_n hx hb dX6_play_10 rfl (lv_at hl 0 rfl) ?_
    refine lv_iconst (v := (3 : Int32)) hx hb dX6_play_11 (by decide) ?_
    replace h := bd_some h
    obtain ⟨r9, er9, h⟩ := h
    refine r_callVi (As := [.int (3 : Int32)]) (rest := []) hF (c_X6_finding l D cy ad adK adV r3.1 o0 (3 : Int32) r9 er9) (gW_goodV hcm qw373 qw370 qw372 qw0 qw60) hdX6_finding rfl ⟨Nat.le_of_ble_eq_true rfl, Nat.le_of_ble_eq_true rfl⟩ rfl rfl hZ hK hw g1 (by decide) rfl rfl hl.1 rfl (Nat.le_of_ble_eq_true rfl) ⟨Nat.zero_le _, Nat.zero_le _⟩ dX6_play_12 (fun H locs hw => ?_)
    exact r_iret hx hb hr rfl hlocks hZ hK hw h dX6_play_15
theorem dX6_anew_0 : decode cX6_anew 0 = .ok (.aload_n 0, 1) := by decide +kernel
theorem dX6_anew_1 : decode cX6_anew 1 = .ok (.getfield 10, 3) := by decide +kernel
theorem dX6_anew_4 : decode cX6_anew 4 = .ok (.invokevirtual 183, 3) := by decide +kernel
theorem dX6_anew_7 : decode cX6_anew 7 = .ok (.ireturn, 1) := by decide +kernel
set_option maxHeartbeats 4000000 in
set_option maxRecDepth 100000 in
theorem c_X6_anew (l : Launch) (D : va_G) (cy : Nat → ClassId) (ad adK adV : Nat → Nat) (M : Mm) (o0 : Nat) (res : Mm × Int32) (h : f_X6_anew M o0 = some res) : Met l yX6_anew (wU yX6_anew cX6_anew 1 (some .int)) rmX6_anew (va_Pc [.ref (ad o0)] (Pre D cy shX ad nX adK adV M)) (va_Qi (fun r (M2 : Mm) => r = res.2 ∧ M2 = res.1) (Pre D cy shX ad nX adK adV) (Aw ad nX)) 0 0 (Aw ad nX) := by
  refine Met.ofW (cc := cX6_anew) (maxL := 1) (ret := (some .int)) (by decide) rfl ?_
  intro p e s m args below meth c s₁ B hml hv
  obtain ⟨hargs, hPre⟩ := hv
  have hx := B.exec
  have hb := B.bytes
  have hr := B.returns
  have hts := atoms_spec (ws := wU yX6_anew cX6_anew 1 (some .int)) B.pre
  have hq : ∀ w ∈ gW, w.before args s = true := fun w hw => hts w (List.mem_cons_of_mem _ hw)
  have hcm : ∀ w ∈ gW, w ∈ wU yX6_anew cX6_anew 1 (some .int) := fun w hw => List.mem_cons_of_mem _ hw
  have hown : s.vm.findClass RX6 = some m.cls := findClass_of_methodNamed B.named
  have hlocks := B.notSynchronized
  have hF : CallFix p m c cX6_anew 1 s args (wU yX6_anew cX6_anew 1 (some .int)) RX6 := ⟨hx, hb, hml, hown, hts⟩
  have hK := hPre.2.1
  have hZ := hPre.2.2.2
  have hw : Wd D cy shX ad nX (Aw ad nX) s.heap M s.heap [] := ⟨hPre.1, hPre.2.2.1, va_S.rf⟩
  have iw6 : ∀ w ∈ u_ws RX6 TX6 8, w ∈ wU yX6_anew cX6_anew 1 (some .int) := fun w hw => List.mem_cons_of_mem _ (iX6 w hw)
  rw [show entryFrame m args 1 = entryFrame m ([.ref (ad o0)] : List Value).toArray 1 from by rw [hargs]]
  have hl := lv_entry ([.ref (ad o0)]) (n := 1) (Nat.le_of_ble_eq_true rfl)
  rw [lg_entry_eq]
  generalize (lg_sl ([.ref (ad o0)]) ++ List.replicate (1 - (lg_sl ([.ref (ad o0)])).length) Slot.unset).toArray = ls at hl ⊢
  have hl : lv_has ls 1 [(0, .ref (ad o0))] := hl
  unfold f_X6_anew at h
  refine lv_aload_n hx hb dX6_anew_0 rfl (lv_at hl 0 rfl) ?_
  replace h := gd_some h
  obtain ⟨g1, h⟩ := h
  replace h := bd_some h
  obtain ⟨q2, eq2, h⟩ := h
  refine r_getR hx hb hts iw6 hown hK hw o0 0 g1 (by decide) rfl (by decide) rfl (hq _ qw335) (fun _ h9 => h9) dX6_anew_1 eq2 ?_
  replace h := gd_some h
  obtain ⟨g4, h⟩ := h
  replace h := bd_some h
  obtain ⟨r3, er3, h⟩ := h
  refine r_callVi (As := []) (rest := []) hF (c_X1_forgetGames l D cy ad adK adV M q2 r3 er3) (gW_goodV hcm qw653 qw650 qw651 qw652 qw61) hdX1_forgetGames rfl ⟨Nat.le_of_ble_eq_true rfl, Nat.le_of_ble_eq_true rfl⟩ rfl rfl hZ hK hw g4 (by decide) rfl rfl hl.1 rfl (Nat.le_of_ble_eq_true rfl) ⟨Nat.zero_le _, Nat.zero_le _⟩ dX6_anew_4 (fun H locs hw => ?_)
  exact r_iret hx hb hr rfl hlocks hZ hK hw h dX6_anew_7
theorem dX6_leads_0 : decode cX6_leads 0 = .ok (.aload_n 0, 1) := by decide +kernel
theorem dX6_leads_1 : decode cX6_leads 1 = .ok (.getfield 10, 3) := by decide +kernel
theorem dX6_leads_4 : decode cX6_leads 4 = .ok (.getfield 63, 3) := by decide +kernel
theorem dX6_leads_7 : decode cX6_leads 7 = .ok (.ifCond .ne 9, 3) := by decide +kernel
theorem dX6_leads_10 : decode cX6_leads 10 = .ok (.aload_n 0, 1) := by decide +kernel
theorem dX6_leads_11 : decode cX6_leads 11 = .ok (.iconst 3, 1) := by decide +kernel
theorem dX6_leads_12 : decode cX6_leads 12 = .ok (.invokevirtual 59, 3) := by decide +kernel
theorem dX6_leads_15 : decode cX6_leads 15 = .ok (.ireturn, 1) := by decide +kernel
theorem dX6_leads_16 : decode cX6_leads 16 = .ok (.aload_n 0, 1) := by decide +kernel
theorem dX6_leads_17 : decode cX6_leads 17 = .ok (.getfield 10, 3) := by decide +kernel
theorem dX6_leads_20 : decode cX6_leads 20 = .ok (.invokevirtual 186, 3) := by decide +kernel
theorem dX6_leads_23 : decode cX6_leads 23 = .ok (.ireturn, 1) := by decide +kernel
set_option maxHeartbeats 4000000 in
set_option maxRecDepth 100000 in
theorem c_X6_leads (l : Launch) (D : va_G) (cy : Nat → ClassId) (ad adK adV : Nat → Nat) (M : Mm) (o0 : Nat) (res : Mm × Int32) (h : f_X6_leads M o0 = some res) : Met l yX6_leads (wU yX6_leads cX6_leads 1 (some .int)) rmX6_leads (va_Pc [.ref (ad o0)] (Pre D cy shX ad nX adK adV M)) (va_Qi (fun r (M2 : Mm) => r = res.2 ∧ M2 = res.1) (Pre D cy shX ad nX adK adV) (Aw ad nX)) 0 0 (Aw ad nX) := by
  refine Met.ofW (cc := cX6_leads) (maxL := 1) (ret := (some .int)) (by decide) rfl ?_
  intro p e s m args below meth c s₁ B hml hv
  obtain ⟨hargs, hPre⟩ := hv
  have hx := B.exec
  have hb := B.bytes
  have hr := B.returns
  have hts := atoms_spec (ws := wU yX6_leads cX6_leads 1 (some .int)) B.pre
  have hq : ∀ w ∈ gW, w.before args s = true := fun w hw => hts w (List.mem_cons_of_mem _ hw)
  have hcm : ∀ w ∈ gW, w ∈ wU yX6_leads cX6_leads 1 (some .int) := fun w hw => List.mem_cons_of_mem _ hw
  have hown : s.vm.findClass RX6 = some m.cls := findClass_of_methodNamed B.named
  have hlocks := B.notSynchronized
  have hF : CallFix p m c cX6_leads 1 s args (wU yX6_leads cX6_leads 1 (some .int)) RX6 := ⟨hx, hb, hml, hown, hts⟩
  have hK := hPre.2.1
  have hZ := hPre.2.2.2
  have hw : Wd D cy shX ad nX (Aw ad nX) s.heap M s.heap [] := ⟨hPre.1, hPre.2.2.1, va_S.rf⟩
  have iw1 : ∀ w ∈ u_ws RX1 TX1 11, w ∈ wU yX6_leads cX6_leads 1 (some .int) := fun w hw => List.mem_cons_of_mem _ (iX1 w hw)
  have iw6 : ∀ w ∈ u_ws RX6 TX6 8, w ∈ wU yX6_leads cX6_leads 1 (some .int) := fun w hw => List.mem_cons_of_mem _ (iX6 w hw)
  rw [show entryFrame m args 1 = entryFrame m ([.ref (ad o0)] : List Value).toArray 1 from by rw [hargs]]
  have hl := lv_entry ([.ref (ad o0)]) (n := 1) (Nat.le_of_ble_eq_true rfl)
  rw [lg_entry_eq]
  generalize (lg_sl ([.ref (ad o0)]) ++ List.replicate (1 - (lg_sl ([.ref (ad o0)])).length) Slot.unset).toArray = ls at hl ⊢
  have hl : lv_has ls 1 [(0, .ref (ad o0))] := hl
  unfold f_X6_leads at h
  refine lv_aload_n hx hb dX6_leads_0 rfl (lv_at hl 0 rfl) ?_
  replace h := gd_some h
  obtain ⟨g1, h⟩ := h
  replace h := bd_some h
  obtain ⟨q2, eq2, h⟩ := h
  refine r_getR hx hb hts iw6 hown hK hw o0 0 g1 (by decide) rfl (by decide) rfl (hq _ qw335) (fun _ h9 => h9) dX6_leads_1 eq2 ?_
  replace h := gd_some h
  obtain ⟨g3, h⟩ := h
  refine r_getI hx hb hts iw1 hown hK hw q2 3 g3 (by decide) rfl (by decide) rfl (hq _ qw190) (fun _ h9 => h9) dX6_leads_4 ?_
  refine lv_if_ne (tgt := 16) hx hb dX6_leads_7 (by decide) (fun c4 => ?_) (fun c4 => ?_)
  · replace h := if_some_f c4 h
    refine lv_aload_n hx hb dX6_leads_16 rfl (lv_at hl 0 rfl) ?_
    replace h := bd_some h
    obtain ⟨q5, eq5, h⟩ := h
    refine r_getR hx hb hts iw6 hown hK hw o0 0 g1 (by decide) rfl (by decide) rfl (hq _ qw335) (fun _ h9 => h9) dX6_leads_17 eq5 ?_
    replace h := gd_some h
    obtain ⟨g7, h⟩ := h
    replace h := bd_some h
    obtain ⟨r6, er6, h⟩ := h
    refine r_callVi (As := []) (rest := []) hF (c_X1_leader l D cy ad adK adV M q5 r6 er6) (gW_goodV hcm qw661 qw658 qw659 qw660 qw61) hdX1_leader rfl ⟨Nat.le_of_ble_eq_true rfl, Nat.le_of_ble_eq_true rfl⟩ rfl rfl hZ hK hw g7 (by decide) rfl rfl hl.1 rfl (Nat.le_of_ble_eq_true rfl) ⟨Nat.zero_le _, Nat.zero_le _⟩ dX6_leads_20 (fun H locs hw => ?_)
    exact r_iret hx hb hr rfl hlocks hZ hK hw h dX6_leads_23
  · replace h := if_some_t c4 h
    refine lv_aload_n hx hb dX6_leads_10 rfl (lv_at hl 0 rfl) ?_
    refine lv_iconst (v := (3 : Int32)) hx hb dX6_leads_11 (by decide) ?_
    replace h := bd_some h
    obtain ⟨r8, er8, h⟩ := h
    refine r_callVi (As := [.int (3 : Int32)]) (rest := []) hF (c_X6_finding l D cy ad adK adV M o0 (3 : Int32) r8 er8) (gW_goodV hcm qw373 qw370 qw372 qw0 qw60) hdX6_finding rfl ⟨Nat.le_of_ble_eq_true rfl, Nat.le_of_ble_eq_true rfl⟩ rfl rfl hZ hK hw g1 (by decide) rfl rfl hl.1 rfl (Nat.le_of_ble_eq_true rfl) ⟨Nat.zero_le _, Nat.zero_le _⟩ dX6_leads_12 (fun H locs hw => ?_)
    exact r_iret hx hb hr rfl hlocks hZ hK hw h dX6_leads_15
theorem dX6_place_0 : decode cX6_place 0 = .ok (.aload_n 0, 1) := by decide +kernel
theorem dX6_place_1 : decode cX6_place 1 = .ok (.getfield 10, 3) := by decide +kernel
theorem dX6_place_4 : decode cX6_place 4 = .ok (.iload_n 1, 1) := by decide +kernel
theorem dX6_place_5 : decode cX6_place 5 = .ok (.invokevirtual 71, 3) := by decide +kernel
theorem dX6_place_8 : decode cX6_place 8 = .ok (.ifCond .ne 9, 3) := by decide +kernel
theorem dX6_place_11 : decode cX6_place 11 = .ok (.aload_n 0, 1) := by decide +kernel
theorem dX6_place_12 : decode cX6_place 12 = .ok (.iconst 0, 1) := by decide +kernel
theorem dX6_place_13 : decode cX6_place 13 = .ok (.invokevirtual 59, 3) := by decide +kernel
theorem dX6_place_16 : decode cX6_place 16 = .ok (.ireturn, 1) := by decide +kernel
theorem dX6_place_17 : decode cX6_place 17 = .ok (.iconst 1, 1) := by decide +kernel
theorem dX6_place_18 : decode cX6_place 18 = .ok (.istore_n 2, 1) := by decide +kernel
theorem dX6_place_19 : decode cX6_place 19 = .ok (.iconst 0, 1) := by decide +kernel
theorem dX6_place_20 : decode cX6_place 20 = .ok (.istore_n 3, 1) := by decide +kernel
theorem dX6_place_21 : decode cX6_place 21 = .ok (.iload_n 3, 1) := by decide +kernel
theorem dX6_place_22 : decode cX6_place 22 = .ok (.aload_n 0, 1) := by decide +kernel
theorem dX6_place_23 : decode cX6_place 23 = .ok (.getfield 10, 3) := by decide +kernel
theorem dX6_place_26 : decode cX6_place 26 = .ok (.getfield 63, 3) := by decide +kernel
theorem dX6_place_29 : decode cX6_place 29 = .ok (.if_icmp .ge 39, 3) := by decide +kernel
theorem dX6_place_32 : decode cX6_place 32 = .ok (.aload_n 0, 1) := by decide +kernel
theorem dX6_place_33 : decode cX6_place 33 = .ok (.getfield 10, 3) := by decide +kernel
theorem dX6_place_36 : decode cX6_place 36 = .ok (.getfield 74, 3) := by decide +kernel
theorem dX6_place_39 : decode cX6_place 39 = .ok (.iload_n 3, 1) := by decide +kernel
theorem dX6_place_40 : decode cX6_place 40 = .ok (.aaload, 1) := by decide +kernel
theorem dX6_place_41 : decode cX6_place 41 = .ok (.getfield 89, 3) := by decide +kernel
theorem dX6_place_44 : decode cX6_place 44 = .ok (.aload_n 0, 1) := by decide +kernel
theorem dX6_place_45 : decode cX6_place 45 = .ok (.getfield 10, 3) := by decide +kernel
theorem dX6_place_48 : decode cX6_place 48 = .ok (.getfield 74, 3) := by decide +kernel
theorem dX6_place_51 : decode cX6_place 51 = .ok (.iload_n 1, 1) := by decide +kernel
theorem dX6_place_52 : decode cX6_place 52 = .ok (.aaload, 1) := by decide +kernel
theorem dX6_place_53 : decode cX6_place 53 = .ok (.getfield 89, 3) := by decide +kernel
theorem dX6_place_56 : decode cX6_place 56 = .ok (.if_icmp .le 6, 3) := by decide +kernel
theorem dX6_place_59 : decode cX6_place 59 = .ok (.iinc 2 1, 3) := by decide +kernel
theorem dX6_place_62 : decode cX6_place 62 = .ok (.iinc 3 1, 3) := by decide +kernel
theorem dX6_place_65 : decode cX6_place 65 = .ok (.goto (-44), 3) := by decide +kernel
theorem dX6_place_68 : decode cX6_place 68 = .ok (.iload_n 2, 1) := by decide +kernel
theorem dX6_place_69 : decode cX6_place 69 = .ok (.ireturn, 1) := by decide +kernel
set_option maxHeartbeats 4000000 in
set_option maxRecDepth 100000 in
theorem c_X6_place (l : Launch) (D : va_G) (cy : Nat → ClassId) (ad adK adV : Nat → Nat) (M : Mm) (o0 : Nat) (a1 : Int32) (res : Mm × Int32) (h : f_X6_place M o0 a1 = some res) : Met l yX6_place (wU yX6_place cX6_place 4 (some .int)) rmX6_place (va_Pc [.ref (ad o0), .int a1] (Pre D cy shX ad nX adK adV M)) (va_Qi (fun r (M2 : Mm) => r = res.2 ∧ M2 = res.1) (Pre D cy shX ad nX adK adV) (Aw ad nX)) 0 0 (Aw ad nX) := by
  refine Met.ofW (cc := cX6_place) (maxL := 4) (ret := (some .int)) (by decide) rfl ?_
  intro p e s m args below meth c s₁ B hml hv
  obtain ⟨hargs, hPre⟩ := hv
  have hx := B.exec
  have hb := B.bytes
  have hr := B.returns
  have hts := atoms_spec (ws := wU yX6_place cX6_place 4 (some .int)) B.pre
  have hq : ∀ w ∈ gW, w.before args s = true := fun w hw => hts w (List.mem_cons_of_mem _ hw)
  have hcm : ∀ w ∈ gW, w ∈ wU yX6_place cX6_place 4 (some .int) := fun w hw => List.mem_cons_of_mem _ hw
  have hown : s.vm.findClass RX6 = some m.cls := findClass_of_methodNamed B.named
  have hlocks := B.notSynchronized
  have hF : CallFix p m c cX6_place 4 s args (wU yX6_place cX6_place 4 (some .int)) RX6 := ⟨hx, hb, hml, hown, hts⟩
  have hK := hPre.2.1
  have hZ := hPre.2.2.2
  have hw : Wd D cy shX ad nX (Aw ad nX) s.heap M s.heap [] := ⟨hPre.1, hPre.2.2.1, va_S.rf⟩
  have iw1 : ∀ w ∈ u_ws RX1 TX1 11, w ∈ wU yX6_place cX6_place 4 (some .int) := fun w hw => List.mem_cons_of_mem _ (iX1 w hw)
  have iw3 : ∀ w ∈ u_ws RX3 TX3 6, w ∈ wU yX6_place cX6_place 4 (some .int) := fun w hw => List.mem_cons_of_mem _ (iX3 w hw)
  have iw6 : ∀ w ∈ u_ws RX6 TX6 8, w ∈ wU yX6_place cX6_place 4 (some .int) := fun w hw => List.mem_cons_of_mem _ (iX6 w hw)
  rw [show entryFrame m args 4 = entryFrame m ([.ref (ad o0), .int a1] : List Value).toArray 4 from by rw [hargs]]
  have hl := lv_entry ([.ref (ad o0), .int a1]) (n := 4) (Nat.le_of_ble_eq_true rfl)
  rw [lg_entry_eq]
  generalize (lg_sl ([.ref (ad o0), .int a1]) ++ List.replicate (4 - (lg_sl ([.ref (ad o0), .int a1])).length) Slot.unset).toArray = ls at hl ⊢
  have hl : lv_has ls 4 [(0, .ref (ad o0)), (1, .int a1)] := hl
  have hb62 : ∀ (k21 : Mm → Nat → Int32 → Int32 → Int32 → Option (Mm × Int32)) (hk21 : ∀ (M : Mm) (x0 : Nat) (x1 : Int32) (x2 : Int32) (x3 : Int32), k21 M x0 x1 x2 x3 = some res → ∀ (H : Heap) (locs : List Loc) (ls : Array Slot), Wd D cy shX ad nX (Aw ad nX) s.heap M H locs → lv_has ls 4 [(0, .ref (ad x0)), (1, .int x1), (2, .int x2), (3, .int x3)] → W p l e (headSpec (wU yX6_place cX6_place 4 (some .int)) rmX6_place).room s m args below meth c H locs 0 0 (QI D cy shX ad nX adK adV below args s res) (F0 m 21 ls [])), ∀ (M : Mm) (x0 : Nat) (x1 : Int32) (x2 : Int32) (x3 : Int32), f_X6_place_b62 k21 M x0 x1 x2 x3 = some res → ∀ (H : Heap) (locs : List Loc) (ls : Array Slot), Wd D cy shX ad nX (Aw ad nX) s.heap M H locs → lv_has ls 4 [(0, .ref (ad x0)), (1, .int x1), (2, .int x2), (3, .int x3)] → W p l e (headSpec (wU yX6_place cX6_place 4 (some .int)) rmX6_place).room s m args below meth c H locs 0 0 (QI D cy shX ad nX adK adV below args s res) (F0 m 62 ls []) := by
    intro k21 hk21
    intro M x0 x1 x2 x3 h H locs ls hw hl
    unfold f_X6_place_b62 at h
    refine lv_iinc (v := x3 + (1 : Int32)) (lv' := [(3, .int (x3 + (1 : Int32))), (0, .ref (ad x0)), (1, .int x1), (2, .int x2)]) hx hb dX6_place_62 hl (k := 3) rfl (congrArg (fun z => x3 + z) (by decide)) (by decide) rfl (fun ls hl => ?_)
    refine lv_goto (tgt := 21) hx hb dX6_place_65 (by decide) ?_
    exact hk21 _ _ _ _ _ h _ _ _ hw (lv_sub hl [1, 2, 3, 0] rfl)
  have hb21 : ∀ (nn : Nat), ∀ (M : Mm) (x0 : Nat) (x1 : Int32) (x2 : Int32) (x3 : Int32), f_X6_place_b21 nn M x0 x1 x2 x3 = some res → ∀ (H : Heap) (locs : List Loc) (ls : Array Slot), Wd D cy shX ad nX (Aw ad nX) s.heap M H locs → lv_has ls 4 [(0, .ref (ad x0)), (1, .int x1), (2, .int x2), (3, .int x3)] → W p l e (headSpec (wU yX6_place cX6_place 4 (some .int)) rmX6_place).room s m args below meth c H locs 0 0 (QI D cy shX ad nX adK adV below args s res) (F0 m 21 ls []) := by
    intro nn
    induction nn with
    | zero => intro M x0 x1 x2 x3 h; simp [f_X6_place_b21] at h
    | succ nn ih =>
      intro M x0 x1 x2 x3 h H locs ls hw hl
      unfold f_X6_place_b21 at h
      refine lv_iload_n hx hb dX6_place_21 rfl (lv_at hl 3 rfl) ?_
      refine lv_aload_n hx hb dX6_place_22 rfl (lv_at hl 0 rfl) ?_
      replace h := gd_some h
      obtain ⟨g1, h⟩ := h
      replace h := bd_some h
      obtain ⟨q2, eq2, h⟩ := h
      refine r_getR hx hb hts iw6 hown hK hw x0 0 g1 (by decide) rfl (by decide) rfl (hq _ qw335) (fun _ h9 => h9) dX6_place_23 eq2 ?_
      replace h := gd_some h
      obtain ⟨g3, h⟩ := h
      refine r_getI hx hb hts iw1 hown hK hw q2 3 g3 (by decide) rfl (by decide) rfl (hq _ qw190) (fun _ h9 => h9) dX6_place_26 ?_
      refine lv_icmp_ge (tgt := 68) hx hb dX6_place_29 (by decide) (fun c4 => ?_) (fun c4 => ?_)
      · replace h := if_some_t c4 h
        refine lv_iload_n hx hb dX6_place_68 rfl (lv_at hl 2 rfl) ?_
        exact r_iret hx hb hr rfl hlocks hZ hK hw h dX6_place_69
      · replace h := if_some_f c4 h
        refine lv_aload_n hx hb dX6_place_32 rfl (lv_at hl 0 rfl) ?_
        replace h := bd_some h
        obtain ⟨q5, eq5, h⟩ := h
        refine r_getR hx hb hts iw6 hown hK hw x0 0 g1 (by decide) rfl (by decide) rfl (hq _ qw335) (fun _ h9 => h9) dX6_place_33 eq5 ?_
        replace h := gd_some h
        obtain ⟨g6, h⟩ := h
        replace h := bd_some h
        obtain ⟨q7, eq7, h⟩ := h
        refine r_getR hx hb hts iw1 hown hK hw q5 0 g6 (by decide) rfl (by decide) rfl (hq _ qw182) (fun _ h9 => h9) dX6_place_36 eq7 ?_
        refine lv_iload_n hx hb dX6_place_39 rfl (lv_at hl 3 rfl) ?_
        replace h := gd_some h
        obtain ⟨g8, h⟩ := h
        replace h := bd_some h
        obtain ⟨q9, eq9, h⟩ := h
        refine r_aald hx hb hK hw q7 2 (by decide) rfl g8 dX6_place_40 eq9 ?_
        replace h := gd_some h
        obtain ⟨g10, h⟩ := h
        refine r_getI hx hb hts iw3 hown hK hw q9 3 g10 (by decide) rfl (by decide) rfl (hq _ qw107) (fun _ h9 => h9) dX6_place_41 ?_
        refine lv_aload_n hx hb dX6_place_44 rfl (lv_at hl 0 rfl) ?_
        replace h := bd_some h
        obtain ⟨q11, eq11, h⟩ := h
        refine r_getR hx hb hts iw6 hown hK hw x0 0 g1 (by decide) rfl (by decide) rfl (hq _ qw335) (fun _ h9 => h9) dX6_place_45 eq11 ?_
        replace h := gd_some h
        obtain ⟨g12, h⟩ := h
        replace h := bd_some h
        obtain ⟨q13, eq13, h⟩ := h
        refine r_getR hx hb hts iw1 hown hK hw q11 0 g12 (by decide) rfl (by decide) rfl (hq _ qw182) (fun _ h9 => h9) dX6_place_48 eq13 ?_
        refine lv_iload_n hx hb dX6_place_51 rfl (lv_at hl 1 rfl) ?_
        replace h := gd_some h
        obtain ⟨g14, h⟩ := h
        replace h := bd_some h
        obtain ⟨q15, eq15, h⟩ := h
        refine r_aald hx hb hK hw q13 2 (by decide) rfl g14 dX6_place_52 eq15 ?_
        replace h := gd_some h
        obtain ⟨g16, h⟩ := h
        refine r_getI hx hb hts iw3 hown hK hw q15 3 g16 (by decide) rfl (by decide) rfl (hq _ qw107) (fun _ h9 => h9) dX6_place_53 ?_
        refine lv_icmp_le (tgt := 62) hx hb dX6_place_56 (by decide) (fun c17 => ?_) (fun c17 => ?_)
        · replace h := if_some_t c17 h
          exact hb62 _ ih _ _ _ _ _ h _ _ _ hw (lv_sub hl [0, 1, 2, 3] rfl)
        · replace h := if_some_f c17 h
          refine lv_iinc (v := x2 + (1 : Int32)) (lv' := [(2, .int (x2 + (1 : Int32))), (0, .ref (ad x0)), (1, .int x1), (3, .int x3)]) hx hb dX6_place_59 hl (k := 2) rfl (congrArg (fun z => x2 + z) (by decide)) (by decide) rfl (fun ls hl => ?_)
          exact hb62 _ ih _ _ _ _ _ h _ _ _ hw (lv_sub hl [1, 2, 0, 3] rfl)
  unfold f_X6_place at h
  refine lv_aload_n hx hb dX6_place_0 rfl (lv_at hl 0 rfl) ?_
  replace h := gd_some h
  obtain ⟨g18, h⟩ := h
  replace h := bd_some h
  obtain ⟨q19, eq19, h⟩ := h
  refine r_getR hx hb hts iw6 hown hK hw o0 0 g18 (by decide) rfl (by decide) rfl (hq _ qw335) (fun _ h9 => h9) dX6_place_1 eq19 ?_
  refine lv_iload_n hx hb dX6_place_4 rfl (lv_at hl 1 rfl) ?_
  replace h := gd_some h
  obtain ⟨g21, h⟩ := h
  replace h := bd_some h
  obtain ⟨r20, er20, h⟩ := h
  refine r_callVi (As := [.int a1]) (rest := []) hF (c_X1_hasSide l D cy ad adK adV M q19 a1 r20 er20) (gW_goodV hcm qw390 qw387 qw388 qw389 qw61) hdX1_hasSide rfl ⟨Nat.le_of_ble_eq_true rfl, Nat.le_of_ble_eq_true rfl⟩ rfl rfl hZ hK hw g21 (by decide) rfl rfl hl.1 rfl (Nat.le_of_ble_eq_true rfl) ⟨Nat.zero_le _, Nat.zero_le _⟩ dX6_place_5 (fun H locs hw => ?_)
  refine lv_if_ne (tgt := 17) hx hb dX6_place_8 (by decide) (fun c22 => ?_) (fun c22 => ?_)
  · replace h := if_some_f c22 h
    refine lv_iconst (v := (1 : Int32)) hx hb dX6_place_17 (by decide) ?_
    refine lv_istore_n (lv' := [(2, .int (1 : Int32)), (0, .ref (ad o0)), (1, .int a1)]) hx hb dX6_place_18 rfl hl (by decide) rfl (fun ls hl => ?_)
    refine lv_iconst (v := (0 : Int32)) hx hb dX6_place_19 (by decide) ?_
    refine lv_istore_n (lv' := [(3, .int (0 : Int32)), (2, .int (1 : Int32)), (0, .ref (ad o0)), (1, .int a1)]) hx hb dX6_place_20 rfl hl (by decide) rfl (fun ls hl => ?_)
    exact hb21 1000 _ _ _ _ _ h _ _ _ hw (lv_sub hl [2, 3, 1, 0] rfl)
  · replace h := if_some_t c22 h
    refine lv_aload_n hx hb dX6_place_11 rfl (lv_at hl 0 rfl) ?_
    refine lv_iconst (v := (0 : Int32)) hx hb dX6_place_12 (by decide) ?_
    replace h := bd_some h
    obtain ⟨r23, er23, h⟩ := h
    refine r_callVi (As := [.int (0 : Int32)]) (rest := []) hF (c_X6_finding l D cy ad adK adV r20.1 o0 (0 : Int32) r23 er23) (gW_goodV hcm qw373 qw370 qw372 qw0 qw60) hdX6_finding rfl ⟨Nat.le_of_ble_eq_true rfl, Nat.le_of_ble_eq_true rfl⟩ rfl rfl hZ hK hw g18 (by decide) rfl rfl hl.1 rfl (Nat.le_of_ble_eq_true rfl) ⟨Nat.zero_le _, Nat.zero_le _⟩ dX6_place_13 (fun H locs hw => ?_)
    exact r_iret hx hb hr rfl hlocks hZ hK hw h dX6_place_16
theorem dX6_goLikelyWays_0 : decode cX6_goLikelyWays 0 = .ok (.aload_n 0, 1) := by decide +kernel
theorem dX6_goLikelyWays_1 : decode cX6_goLikelyWays 1 = .ok (.getfield 31, 3) := by decide +kernel
theorem dX6_goLikelyWays_4 : decode cX6_goLikelyWays 4 = .ok (.aload_n 0, 1) := by decide +kernel
theorem dX6_goLikelyWays_5 : decode cX6_goLikelyWays 5 = .ok (.getfield 10, 3) := by decide +kernel
theorem dX6_goLikelyWays_8 : decode cX6_goLikelyWays 8 = .ok (.invokevirtual 151, 3) := by decide +kernel
theorem dX6_goLikelyWays_11 : decode cX6_goLikelyWays 11 = .ok (.aload_n 0, 1) := by decide +kernel
theorem dX6_goLikelyWays_12 : decode cX6_goLikelyWays 12 = .ok (.getfield 26, 3) := by decide +kernel
theorem dX6_goLikelyWays_15 : decode cX6_goLikelyWays 15 = .ok (.iconst 0, 1) := by decide +kernel
theorem dX6_goLikelyWays_16 : decode cX6_goLikelyWays 16 = .ok (.iconst 0, 1) := by decide +kernel
theorem dX6_goLikelyWays_17 : decode cX6_goLikelyWays 17 = .ok (.iconst 0, 1) := by decide +kernel
theorem dX6_goLikelyWays_18 : decode cX6_goLikelyWays 18 = .ok (.invokevirtual 213, 3) := by decide +kernel
theorem dX6_goLikelyWays_21 : decode cX6_goLikelyWays 21 = .ok (.return_, 1) := by decide +kernel
set_option maxHeartbeats 4000000 in
set_option maxRecDepth 100000 in
theorem c_X6_goLikelyWays (l : Launch) (D : va_G) (cy : Nat → ClassId) (ad adK adV : Nat → Nat) (M : Mm) (o0 : Nat) (res : Mm × Unit) (h : f_X6_goLikelyWays M o0 = some res) : Met l yX6_goLikelyWays (wU yX6_goLikelyWays cX6_goLikelyWays 1 none) rmX6_goLikelyWays (va_Pc [.ref (ad o0)] (Pre D cy shX ad nX adK adV M)) (va_Qv (fun (M2 : Mm) => M2 = res.1) (Pre D cy shX ad nX adK adV) (Aw ad nX)) 0 0 (Aw ad nX) := by
  refine Met.ofW (cc := cX6_goLikelyWays) (maxL := 1) (ret := none) (by decide) rfl ?_
  intro p e s m args below meth c s₁ B hml hv
  obtain ⟨hargs, hPre⟩ := hv
  have hx := B.exec
  have hb := B.bytes
  have hr := B.returns
  have hts := atoms_spec (ws := wU yX6_goLikelyWays cX6_goLikelyWays 1 none) B.pre
  have hq : ∀ w ∈ gW, w.before args s = true := fun w hw => hts w (List.mem_cons_of_mem _ hw)
  have hcm : ∀ w ∈ gW, w ∈ wU yX6_goLikelyWays cX6_goLikelyWays 1 none := fun w hw => List.mem_cons_of_mem _ hw
  have hown : s.vm.findClass RX6 = some m.cls := findClass_of_methodNamed B.named
  have hlocks := B.notSynchronized
  have hF : CallFix p m c cX6_goLikelyWays 1 s args (wU yX6_goLikelyWays cX6_goLikelyWays 1 none) RX6 := ⟨hx, hb, hml, hown, hts⟩
  have hK := hPre.2.1
  have hZ := hPre.2.2.2
  have hw : Wd D cy shX ad nX (Aw ad nX) s.heap M s.heap [] := ⟨hPre.1, hPre.2.2.1, va_S.rf⟩
  have iw6 : ∀ w ∈ u_ws RX6 TX6 8, w ∈ wU yX6_goLikelyWays cX6_goLikelyWays 1 none := fun w hw => List.mem_cons_of_mem _ (iX6 w hw)
  rw [show entryFrame m args 1 = entryFrame m ([.ref (ad o0)] : List Value).toArray 1 from by rw [hargs]]
  have hl := lv_entry ([.ref (ad o0)]) (n := 1) (Nat.le_of_ble_eq_true rfl)
  rw [lg_entry_eq]
  generalize (lg_sl ([.ref (ad o0)]) ++ List.replicate (1 - (lg_sl ([.ref (ad o0)])).length) Slot.unset).toArray = ls at hl ⊢
  have hl : lv_has ls 1 [(0, .ref (ad o0))] := hl
  unfold f_X6_goLikelyWays at h
  refine lv_aload_n hx hb dX6_goLikelyWays_0 rfl (lv_at hl 0 rfl) ?_
  replace h := gd_some h
  obtain ⟨g1, h⟩ := h
  replace h := bd_some h
  obtain ⟨q2, eq2, h⟩ := h
  refine r_getR hx hb hts iw6 hown hK hw o0 4 g1 (by decide) rfl (by decide) rfl (hq _ qw339) (fun _ h9 => h9) dX6_goLikelyWays_1 eq2 ?_
  refine lv_aload_n hx hb dX6_goLikelyWays_4 rfl (lv_at hl 0 rfl) ?_
  replace h := bd_some h
  obtain ⟨q3, eq3, h⟩ := h
  refine r_getR hx hb hts iw6 hown hK hw o0 0 g1 (by decide) rfl (by decide) rfl (hq _ qw335) (fun _ h9 => h9) dX6_goLikelyWays_5 eq3 ?_
  replace h := gd_some h
  obtain ⟨g5, h⟩ := h
  replace h := bd_some h
  obtain ⟨r4, er4, h⟩ := h
  refine r_callVv (As := [.ref (ad q3)]) (rest := []) hF (c_X1_become l D cy ad adK adV M q2 q3 r4 er4) (gW_goodV hcm qw457 qw454 qw455 qw456 qw61) hdX1_become rfl ⟨Nat.le_of_ble_eq_true rfl, Nat.le_of_ble_eq_true rfl⟩ rfl rfl hZ hK hw g5 (by decide) rfl rfl hl.1 rfl (Nat.le_of_ble_eq_true rfl) ⟨Nat.zero_le _, Nat.zero_le _⟩ dX6_goLikelyWays_8 (fun H locs hw => ?_)
  refine lv_aload_n hx hb dX6_goLikelyWays_11 rfl (lv_at hl 0 rfl) ?_
  replace h := bd_some h
  obtain ⟨q6, eq6, h⟩ := h
  refine r_getR hx hb hts iw6 hown hK hw o0 3 g1 (by decide) rfl (by decide) rfl (hq _ qw338) (fun _ h9 => h9) dX6_goLikelyWays_12 eq6 ?_
  refine lv_iconst (v := (0 : Int32)) hx hb dX6_goLikelyWays_15 (by decide) ?_
  refine lv_iconst (v := (0 : Int32)) hx hb dX6_goLikelyWays_16 (by decide) ?_
  refine lv_iconst (v := (0 : Int32)) hx hb dX6_goLikelyWays_17 (by decide) ?_
  replace h := gd_some h
  obtain ⟨g8, h⟩ := h
  replace h := bd_some h
  obtain ⟨r7, er7, h⟩ := h
  refine r_callVv (As := [.int (0 : Int32), .int (0 : Int32), .int (0 : Int32)]) (rest := []) hF (c_X5_over l D cy ad adK adV r4.1 q6 (0 : Int32) (0 : Int32) (0 : Int32) r7 er7) (gW_goodV hcm qw680 qw677 qw678 qw679 qw64) hdX5_over rfl ⟨Nat.le_of_ble_eq_true rfl, Nat.le_of_ble_eq_true rfl⟩ rfl rfl hZ hK hw g8 (by decide) rfl rfl hl.1 rfl (Nat.le_of_ble_eq_true rfl) ⟨Nat.zero_le _, Nat.zero_le _⟩ dX6_goLikelyWays_18 (fun H locs hw => ?_)
  exact r_vret hx hb hr hlocks hZ hK hw h dX6_goLikelyWays_21

theorem dX7_winsNow_0 : decode cX7_winsNow 0 = .ok (.aload_n 0, 1) := by decide +kernel
theorem dX7_winsNow_1 : decode cX7_winsNow 1 = .ok (.getfield 7, 3) := by decide +kernel
theorem dX7_winsNow_4 : decode cX7_winsNow 4 = .ok (.iconst 2, 1) := by decide +kernel
theorem dX7_winsNow_5 : decode cX7_winsNow 5 = .ok (.iaload, 1) := by decide +kernel
theorem dX7_winsNow_6 : decode cX7_winsNow 6 = .ok (.istore_n 2, 1) := by decide +kernel
theorem dX7_winsNow_7 : decode cX7_winsNow 7 = .ok (.aload_n 0, 1) := by decide +kernel
theorem dX7_winsNow_8 : decode cX7_winsNow 8 = .ok (.iload_n 1, 1) := by decide +kernel
theorem dX7_winsNow_9 : decode cX7_winsNow 9 = .ok (.aload_n 0, 1) := by decide +kernel
theorem dX7_winsNow_10 : decode cX7_winsNow 10 = .ok (.aload_n 0, 1) := by decide +kernel
theorem dX7_winsNow_11 : decode cX7_winsNow 11 = .ok (.iload_n 2, 1) := by decide +kernel
theorem dX7_winsNow_12 : decode cX7_winsNow 12 = .ok (.iconst 0, 1) := by decide +kernel
theorem dX7_winsNow_13 : decode cX7_winsNow 13 = .ok (.invokevirtual 71, 3) := by decide +kernel
theorem dX7_winsNow_16 : decode cX7_winsNow 16 = .ok (.iload_n 2, 1) := by decide +kernel
theorem dX7_winsNow_17 : decode cX7_winsNow 17 = .ok (.invokevirtual 108, 3) := by decide +kernel
theorem dX7_winsNow_20 : decode cX7_winsNow 20 = .ok (.aload_n 0, 1) := by decide +kernel
theorem dX7_winsNow_21 : decode cX7_winsNow 21 = .ok (.aload_n 0, 1) := by decide +kernel
theorem dX7_winsNow_22 : decode cX7_winsNow 22 = .ok (.iload_n 2, 1) := by decide +kernel
theorem dX7_winsNow_23 : decode cX7_winsNow 23 = .ok (.iconst 1, 1) := by decide +kernel
theorem dX7_winsNow_24 : decode cX7_winsNow 24 = .ok (.invokevirtual 71, 3) := by decide +kernel
theorem dX7_winsNow_27 : decode cX7_winsNow 27 = .ok (.iload_n 2, 1) := by decide +kernel
theorem dX7_winsNow_28 : decode cX7_winsNow 28 = .ok (.invokevirtual 108, 3) := by decide +kernel
theorem dX7_winsNow_31 : decode cX7_winsNow 31 = .ok (.invokevirtual 111, 3) := by decide +kernel
theorem dX7_winsNow_34 : decode cX7_winsNow 34 = .ok (.return_, 1) := by decide +kernel
set_option maxHeartbeats 4000000 in
set_option maxRecDepth 100000 in
theorem c_X7_winsNow (l : Launch) (D : va_G) (cy : Nat → ClassId) (ad adK adV : Nat → Nat) (M : Mm) (o0 : Nat) (a1 : Int32) (res : Mm × Unit) (h : f_X7_winsNow M o0 a1 = some res) : Met l yX7_winsNow (wU yX7_winsNow cX7_winsNow 3 none) rmX7_winsNow (va_Pc [.ref (ad o0), .int a1] (Pre D cy shM ad nM adK adV M)) (va_Qv (fun (M2 : Mm) => M2 = res.1) (Pre D cy shM ad nM adK adV) (Aw ad nM)) 0 0 (Aw ad nM) := by
  refine Met.ofW (cc := cX7_winsNow) (maxL := 3) (ret := none) (by decide) rfl ?_
  intro p e s m args below meth c s₁ B hml hv
  obtain ⟨hargs, hPre⟩ := hv
  have hx := B.exec
  have hb := B.bytes
  have hr := B.returns
  have hts := atoms_spec (ws := wU yX7_winsNow cX7_winsNow 3 none) B.pre
  have hq : ∀ w ∈ gW, w.before args s = true := fun w hw => hts w (List.mem_cons_of_mem _ hw)
  have hcm : ∀ w ∈ gW, w ∈ wU yX7_winsNow cX7_winsNow 3 none := fun w hw => List.mem_cons_of_mem _ hw
  have hown : s.vm.findClass RX7 = some m.cls := findClass_of_methodNamed B.named
  have hlocks := B.notSynchronized
  have hF : CallFix p m c cX7_winsNow 3 s args (wU yX7_winsNow cX7_winsNow 3 none) RX7 := ⟨hx, hb, hml, hown, hts⟩
  have hK := hPre.2.1
  have hZ := hPre.2.2.2
  have hw : Wd D cy shM ad nM (Aw ad nM) s.heap M s.heap [] := ⟨hPre.1, hPre.2.2.1, va_S.rf⟩
  have iw7 : ∀ w ∈ u_ws RX7 TX7 30, w ∈ wU yX7_winsNow cX7_winsNow 3 none := fun w hw => List.mem_cons_of_mem _ (iX7 w hw)
  rw [show entryFrame m args 3 = entryFrame m ([.ref (ad o0), .int a1] : List Value).toArray 3 from by rw [hargs]]
  have hl := lv_entry ([.ref (ad o0), .int a1]) (n := 3) (Nat.le_of_ble_eq_true rfl)
  rw [lg_entry_eq]
  generalize (lg_sl ([.ref (ad o0), .int a1]) ++ List.replicate (3 - (lg_sl ([.ref (ad o0), .int a1])).length) Slot.unset).toArray = ls at hl ⊢
  have hl : lv_has ls 3 [(0, .ref (ad o0)), (1, .int a1)] := hl
  unfold f_X7_winsNow at h
  refine lv_aload_n hx hb dX7_winsNow_0 rfl (lv_at hl 0 rfl) ?_
  replace h := gd_some h
  obtain ⟨g1, h⟩ := h
  replace h := bd_some h
  obtain ⟨q2, eq2, h⟩ := h
  refine r_getR hx hb hts iw7 hown hK hw o0 0 g1 (by decide) rfl (by decide) rfl (hq _ qw888) (fun _ h9 => h9) dX7_winsNow_1 eq2 ?_
  refine lv_iconst (v := (2 : Int32)) hx hb dX7_winsNow_4 (by decide) ?_
  replace h := gd_some h
  obtain ⟨g3, h⟩ := h
  refine r_iald hx hb hK hw q2 g3 dX7_winsNow_5 ?_
  refine lv_istore_n (lv' := [(2, .int (M.1 q2 (2 : Int32).toNatClampNeg)), (0, .ref (ad o0)), (1, .int a1)]) hx hb dX7_winsNow_6 rfl hl (by decide) rfl (fun ls hl => ?_)
  refine lv_aload_n hx hb dX7_winsNow_7 rfl (lv_at hl 1 rfl) ?_
  refine lv_iload_n hx hb dX7_winsNow_8 rfl (lv_at hl 2 rfl) ?_
  refine lv_aload_n hx hb dX7_winsNow_9 rfl (lv_at hl 1 rfl) ?_
  refine lv_aload_n hx hb dX7_winsNow_10 rfl (lv_at hl 1 rfl) ?_
  refine lv_iload_n hx hb dX7_winsNow_11 rfl (lv_at hl 0 rfl) ?_
  refine lv_iconst (v := (0 : Int32)) hx hb dX7_winsNow_12 (by decide) ?_
  replace h := bd_some h
  obtain ⟨r4, er4, h⟩ := h
  refine r_callVi (As := [.int (M.1 q2 (2 : Int32).toNatClampNeg), .int (0 : Int32)]) (rest := [.ref (ad o0), .int a1, .ref (ad o0)]) hF (c_X7_of l D cy ad adK adV M o0 (M.1 q2 (2 : Int32).toNatClampNeg) (0 : Int32) r4 er4) (gW_goodV hcm qw1010 qw1007 qw1009 qw22 qw67) hdX7_of rfl ⟨Nat.le_of_ble_eq_true rfl, Nat.le_of_ble_eq_true rfl⟩ rfl rfl hZ hK hw g1 (by decide) rfl rfl hl.1 rfl (Nat.le_of_ble_eq_true rfl) ⟨Nat.zero_le _, Nat.zero_le _⟩ dX7_winsNow_13 (fun H locs hw => ?_)
  refine lv_iload_n hx hb dX7_winsNow_16 rfl (lv_at hl 0 rfl) ?_
  replace h := bd_some h
  obtain ⟨r5, er5, h⟩ := h
  refine r_callVi (As := [.int r4.2, .int (M.1 q2 (2 : Int32).toNatClampNeg)]) (rest := [.int a1, .ref (ad o0)]) hF (c_X7_effort l D cy ad adK adV r4.1 o0 r4.2 (M.1 q2 (2 : Int32).toNatClampNeg) r5 er5) (gW_goodV hcm qw1142 qw1139 qw1141 qw42 qw67) hdX7_effort rfl ⟨Nat.le_of_ble_eq_true rfl, Nat.le_of_ble_eq_true rfl⟩ rfl rfl hZ hK hw g1 (by decide) rfl rfl hl.1 rfl (Nat.le_of_ble_eq_true rfl) ⟨Nat.zero_le _, Nat.zero_le _⟩ dX7_winsNow_17 (fun H locs hw => ?_)
  refine lv_aload_n hx hb dX7_winsNow_20 rfl (lv_at hl 1 rfl) ?_
  refine lv_aload_n hx hb dX7_winsNow_21 rfl (lv_at hl 1 rfl) ?_
  refine lv_iload_n hx hb dX7_winsNow_22 rfl (lv_at hl 0 rfl) ?_
  refine lv_iconst (v := (1 : Int32)) hx hb dX7_winsNow_23 (by decide) ?_
  replace h := bd_some h
  obtain ⟨r6, er6, h⟩ := h
  refine r_callVi (As := [.int (M.1 q2 (2 : Int32).toNatClampNeg), .int (1 : Int32)]) (rest := [.ref (ad o0), .int r5.2, .int a1, .ref (ad o0)]) hF (c_X7_of l D cy ad adK adV r5.1 o0 (M.1 q2 (2 : Int32).toNatClampNeg) (1 : Int32) r6 er6) (gW_goodV hcm qw1010 qw1007 qw1009 qw22 qw67) hdX7_of rfl ⟨Nat.le_of_ble_eq_true rfl, Nat.le_of_ble_eq_true rfl⟩ rfl rfl hZ hK hw g1 (by decide) rfl rfl hl.1 rfl (Nat.le_of_ble_eq_true rfl) ⟨Nat.zero_le _, Nat.zero_le _⟩ dX7_winsNow_24 (fun H locs hw => ?_)
  refine lv_iload_n hx hb dX7_winsNow_27 rfl (lv_at hl 0 rfl) ?_
  replace h := bd_some h
  obtain ⟨r7, er7, h⟩ := h
  refine r_callVi (As := [.int r6.2, .int (M.1 q2 (2 : Int32).toNatClampNeg)]) (rest := [.int r5.2, .int a1, .ref (ad o0)]) hF (c_X7_effort l D cy ad adK adV r6.1 o0 r6.2 (M.1 q2 (2 : Int32).toNatClampNeg) r7 er7) (gW_goodV hcm qw1142 qw1139 qw1141 qw42 qw67) hdX7_effort rfl ⟨Nat.le_of_ble_eq_true rfl, Nat.le_of_ble_eq_true rfl⟩ rfl rfl hZ hK hw g1 (by decide) rfl rfl hl.1 rfl (Nat.le_of_ble_eq_true rfl) ⟨Nat.zero_le _, Nat.zero_le _⟩ dX7_winsNow_28 (fun H locs hw => ?_)
  replace h := bd_some h
  obtain ⟨r8, er8, h⟩ := h
  refine r_callVv (As := [.int a1, .int r5.2, .int r7.2]) (rest := []) hF (c_X7_wins l D cy ad adK adV r7.1 o0 a1 r5.2 r7.2 r8 er8) (gW_goodV hcm qw1166 qw1163 qw1165 qw47 qw67) hdX7_wins rfl ⟨Nat.le_of_ble_eq_true rfl, Nat.le_of_ble_eq_true rfl⟩ rfl rfl hZ hK hw g1 (by decide) rfl rfl hl.1 rfl (Nat.le_of_ble_eq_true rfl) ⟨Nat.zero_le _, Nat.zero_le _⟩ dX7_winsNow_31 (fun H locs hw => ?_)
  exact r_vret hx hb hr hlocks hZ hK hw h dX7_winsNow_34
theorem dX7_isOver_0 : decode cX7_isOver 0 = .ok (.aload_n 0, 1) := by decide +kernel
theorem dX7_isOver_1 : decode cX7_isOver 1 = .ok (.getfield 7, 3) := by decide +kernel
theorem dX7_isOver_4 : decode cX7_isOver 4 = .ok (.iconst 2, 1) := by decide +kernel
theorem dX7_isOver_5 : decode cX7_isOver 5 = .ok (.iaload, 1) := by decide +kernel
theorem dX7_isOver_6 : decode cX7_isOver 6 = .ok (.aload_n 0, 1) := by decide +kernel
theorem dX7_isOver_7 : decode cX7_isOver 7 = .ok (.getfield 7, 3) := by decide +kernel
theorem dX7_isOver_10 : decode cX7_isOver 10 = .ok (.iconst 1, 1) := by decide +kernel
theorem dX7_isOver_11 : decode cX7_isOver 11 = .ok (.iaload, 1) := by decide +kernel
theorem dX7_isOver_12 : decode cX7_isOver 12 = .ok (.if_icmp .ne 7, 3) := by decide +kernel
theorem dX7_isOver_15 : decode cX7_isOver 15 = .ok (.iconst 1, 1) := by decide +kernel
theorem dX7_isOver_16 : decode cX7_isOver 16 = .ok (.goto 4, 3) := by decide +kernel
theorem dX7_isOver_19 : decode cX7_isOver 19 = .ok (.iconst 0, 1) := by decide +kernel
theorem dX7_isOver_20 : decode cX7_isOver 20 = .ok (.ireturn, 1) := by decide +kernel
set_option maxHeartbeats 4000000 in
set_option maxRecDepth 100000 in
theorem c_X7_isOver (l : Launch) (D : va_G) (cy : Nat → ClassId) (ad adK adV : Nat → Nat) (M : Mm) (o0 : Nat) (res : Mm × Int32) (h : f_X7_isOver M o0 = some res) : Met l yX7_isOver (wU yX7_isOver cX7_isOver 1 (some .boolean)) rmX7_isOver (va_Pc [.ref (ad o0)] (Pre D cy shM ad nM adK adV M)) (va_Qi (fun r (M2 : Mm) => r = res.2 ∧ M2 = res.1) (Pre D cy shM ad nM adK adV) (Aw ad nM)) 0 0 (Aw ad nM) := by
  refine Met.ofW (cc := cX7_isOver) (maxL := 1) (ret := (some .boolean)) (by decide) rfl ?_
  intro p e s m args below meth c s₁ B hml hv
  obtain ⟨hargs, hPre⟩ := hv
  have hx := B.exec
  have hb := B.bytes
  have hr := B.returns
  have hts := atoms_spec (ws := wU yX7_isOver cX7_isOver 1 (some .boolean)) B.pre
  have hq : ∀ w ∈ gW, w.before args s = true := fun w hw => hts w (List.mem_cons_of_mem _ hw)
  have hcm : ∀ w ∈ gW, w ∈ wU yX7_isOver cX7_isOver 1 (some .boolean) := fun w hw => List.mem_cons_of_mem _ hw
  have hown : s.vm.findClass RX7 = some m.cls := findClass_of_methodNamed B.named
  have hlocks := B.notSynchronized
  have hF : CallFix p m c cX7_isOver 1 s args (wU yX7_isOver cX7_isOver 1 (some .boolean)) RX7 := ⟨hx, hb, hml, hown, hts⟩
  have hK := hPre.2.1
  have hZ := hPre.2.2.2
  have hw : Wd D cy shM ad nM (Aw ad nM) s.heap M s.heap [] := ⟨hPre.1, hPre.2.2.1, va_S.rf⟩
  have iw7 : ∀ w ∈ u_ws RX7 TX7 30, w ∈ wU yX7_isOver cX7_isOver 1 (some .boolean) := fun w hw => List.mem_cons_of_mem _ (iX7 w hw)
  rw [show entryFrame m args 1 = entryFrame m ([.ref (ad o0)] : List Value).toArray 1 from by rw [hargs]]
  have hl := lv_entry ([.ref (ad o0)]) (n := 1) (Nat.le_of_ble_eq_true rfl)
  rw [lg_entry_eq]
  generalize (lg_sl ([.ref (ad o0)]) ++ List.replicate (1 - (lg_sl ([.ref (ad o0)])).length) Slot.unset).toArray = ls at hl ⊢
  have hl : lv_has ls 1 [(0, .ref (ad o0))] := hl
  unfold f_X7_isOver at h
  refine lv_aload_n hx hb dX7_isOver_0 rfl (lv_at hl 0 rfl) ?_
  replace h := gd_some h
  obtain ⟨g1, h⟩ := h
  replace h := bd_some h
  obtain ⟨q2, eq2, h⟩ := h
  refine r_getR hx hb hts iw7 hown hK hw o0 0 g1 (by decide) rfl (by decide) rfl (hq _ qw888) (fun _ h9 => h9) dX7_isOver_1 eq2 ?_
  refine lv_iconst (v := (2 : Int32)) hx hb dX7_isOver_4 (by decide) ?_
  replace h := gd_some h
  obtain ⟨g3, h⟩ := h
  refine r_iald hx hb hK hw q2 g3 dX7_isOver_5 ?_
  refine lv_aload_n hx hb dX7_isOver_6 rfl (lv_at hl 0 rfl) ?_
  replace h := bd_some h
  obtain ⟨q4, eq4, h⟩ := h
  refine r_getR hx hb hts iw7 hown hK hw o0 0 g1 (by decide) rfl (by decide) rfl (hq _ qw888) (fun _ h9 => h9) dX7_isOver_7 eq4 ?_
  refine lv_iconst (v := (1 : Int32)) hx hb dX7_isOver_10 (by decide) ?_
  replace h := gd_some h
  obtain ⟨g5, h⟩ := h
  refine r_iald hx hb hK hw q4 g5 dX7_isOver_11 ?_
  refine lv_icmp_ne (tgt := 19) hx hb dX7_isOver_12 (by decide) (fun c6 => ?_) (fun c6 => ?_)
  · replace h := if_some_f c6 h
    refine lv_iconst (v := (0 : Int32)) hx hb dX7_isOver_19 (by decide) ?_
    exact r_iret hx hb hr rfl hlocks hZ hK hw h dX7_isOver_20
  · replace h := if_some_t c6 h
    refine lv_iconst (v := (1 : Int32)) hx hb dX7_isOver_15 (by decide) ?_
    refine lv_goto (tgt := 20) hx hb dX7_isOver_16 (by decide) ?_
    exact r_iret hx hb hr rfl hlocks hZ hK hw h dX7_isOver_20
theorem dX7_leader_0 : decode cX7_leader 0 = .ok (.iconst 0, 1) := by decide +kernel
theorem dX7_leader_1 : decode cX7_leader 1 = .ok (.istore_n 1, 1) := by decide +kernel
theorem dX7_leader_2 : decode cX7_leader 2 = .ok (.iconst 1, 1) := by decide +kernel
theorem dX7_leader_3 : decode cX7_leader 3 = .ok (.istore_n 2, 1) := by decide +kernel
theorem dX7_leader_4 : decode cX7_leader 4 = .ok (.iload_n 2, 1) := by decide +kernel
theorem dX7_leader_5 : decode cX7_leader 5 = .ok (.aload_n 0, 1) := by decide +kernel
theorem dX7_leader_6 : decode cX7_leader 6 = .ok (.getfield 7, 3) := by decide +kernel
theorem dX7_leader_9 : decode cX7_leader 9 = .ok (.iconst 0, 1) := by decide +kernel
theorem dX7_leader_10 : decode cX7_leader 10 = .ok (.iaload, 1) := by decide +kernel
theorem dX7_leader_11 : decode cX7_leader 11 = .ok (.if_icmp .ge 28, 3) := by decide +kernel
theorem dX7_leader_14 : decode cX7_leader 14 = .ok (.aload_n 0, 1) := by decide +kernel
theorem dX7_leader_15 : decode cX7_leader 15 = .ok (.iload_n 2, 1) := by decide +kernel
theorem dX7_leader_16 : decode cX7_leader 16 = .ok (.invokevirtual 101, 3) := by decide +kernel
theorem dX7_leader_19 : decode cX7_leader 19 = .ok (.aload_n 0, 1) := by decide +kernel
theorem dX7_leader_20 : decode cX7_leader 20 = .ok (.iload_n 1, 1) := by decide +kernel
theorem dX7_leader_21 : decode cX7_leader 21 = .ok (.invokevirtual 101, 3) := by decide +kernel
theorem dX7_leader_24 : decode cX7_leader 24 = .ok (.if_icmp .le 7, 3) := by decide +kernel
theorem dX7_leader_27 : decode cX7_leader 27 = .ok (.iload_n 2, 1) := by decide +kernel
theorem dX7_leader_28 : decode cX7_leader 28 = .ok (.goto 4, 3) := by decide +kernel
theorem dX7_leader_31 : decode cX7_leader 31 = .ok (.iload_n 1, 1) := by decide +kernel
theorem dX7_leader_32 : decode cX7_leader 32 = .ok (.istore_n 1, 1) := by decide +kernel
theorem dX7_leader_33 : decode cX7_leader 33 = .ok (.iinc 2 1, 3) := by decide +kernel
theorem dX7_leader_36 : decode cX7_leader 36 = .ok (.goto (-32), 3) := by decide +kernel
theorem dX7_leader_39 : decode cX7_leader 39 = .ok (.iload_n 1, 1) := by decide +kernel
theorem dX7_leader_40 : decode cX7_leader 40 = .ok (.ireturn, 1) := by decide +kernel
set_option maxHeartbeats 4000000 in
set_option maxRecDepth 100000 in
theorem c_X7_leader (l : Launch) (D : va_G) (cy : Nat → ClassId) (ad adK adV : Nat → Nat) (M : Mm) (o0 : Nat) (res : Mm × Int32) (h : f_X7_leader M o0 = some res) : Met l yX7_leader (wU yX7_leader cX7_leader 3 (some .int)) rmX7_leader (va_Pc [.ref (ad o0)] (Pre D cy shM ad nM adK adV M)) (va_Qi (fun r (M2 : Mm) => r = res.2 ∧ M2 = res.1) (Pre D cy shM ad nM adK adV) (Aw ad nM)) 0 0 (Aw ad nM) := by
  refine Met.ofW (cc := cX7_leader) (maxL := 3) (ret := (some .int)) (by decide) rfl ?_
  intro p e s m args below meth c s₁ B hml hv
  obtain ⟨hargs, hPre⟩ := hv
  have hx := B.exec
  have hb := B.bytes
  have hr := B.returns
  have hts := atoms_spec (ws := wU yX7_leader cX7_leader 3 (some .int)) B.pre
  have hq : ∀ w ∈ gW, w.before args s = true := fun w hw => hts w (List.mem_cons_of_mem _ hw)
  have hcm : ∀ w ∈ gW, w ∈ wU yX7_leader cX7_leader 3 (some .int) := fun w hw => List.mem_cons_of_mem _ hw
  have hown : s.vm.findClass RX7 = some m.cls := findClass_of_methodNamed B.named
  have hlocks := B.notSynchronized
  have hF : CallFix p m c cX7_leader 3 s args (wU yX7_leader cX7_leader 3 (some .int)) RX7 := ⟨hx, hb, hml, hown, hts⟩
  have hK := hPre.2.1
  have hZ := hPre.2.2.2
  have hw : Wd D cy shM ad nM (Aw ad nM) s.heap M s.heap [] := ⟨hPre.1, hPre.2.2.1, va_S.rf⟩
  have iw7 : ∀ w ∈ u_ws RX7 TX7 30, w ∈ wU yX7_leader cX7_leader 3 (some .int) := fun w hw => List.mem_cons_of_mem _ (iX7 w hw)
  rw [show entryFrame m args 3 = entryFrame m ([.ref (ad o0)] : List Value).toArray 3 from by rw [hargs]]
  have hl := lv_entry ([.ref (ad o0)]) (n := 3) (Nat.le_of_ble_eq_true rfl)
  rw [lg_entry_eq]
  generalize (lg_sl ([.ref (ad o0)]) ++ List.replicate (3 - (lg_sl ([.ref (ad o0)])).length) Slot.unset).toArray = ls at hl ⊢
  have hl : lv_has ls 3 [(0, .ref (ad o0))] := hl
  have hb32 : ∀ (k4 : Mm → Nat → Int32 → Int32 → Option (Mm × Int32)) (hk4 : ∀ (M : Mm) (x0 : Nat) (x1 : Int32) (x2 : Int32), k4 M x0 x1 x2 = some res → ∀ (H : Heap) (locs : List Loc) (ls : Array Slot), Wd D cy shM ad nM (Aw ad nM) s.heap M H locs → lv_has ls 3 [(0, .ref (ad x0)), (1, .int x1), (2, .int x2)] → W p l e (headSpec (wU yX7_leader cX7_leader 3 (some .int)) rmX7_leader).room s m args below meth c H locs 0 0 (QI D cy shM ad nM adK adV below args s res) (F0 m 4 ls [])), ∀ (M : Mm) (x0 : Nat) (x2 : Int32) (t0 : Int32), f_X7_leader_b32 k4 M x0 x2 t0 = some res → ∀ (H : Heap) (locs : List Loc) (ls : Array Slot), Wd D cy shM ad nM (Aw ad nM) s.heap M H locs → lv_has ls 3 [(0, .ref (ad x0)), (2, .int x2)] → W p l e (headSpec (wU yX7_leader cX7_leader 3 (some .int)) rmX7_leader).room s m args below meth c H locs 0 0 (QI D cy shM ad nM adK adV below args s res) (F0 m 32 ls [.int t0]) := by
    intro k4 hk4
    intro M x0 x2 t0 h H locs ls hw hl
    unfold f_X7_leader_b32 at h
    refine lv_istore_n (lv' := [(1, .int t0), (0, .ref (ad x0)), (2, .int x2)]) hx hb dX7_leader_32 rfl hl (by decide) rfl (fun ls hl => ?_)
    refine lv_iinc (v := x2 + (1 : Int32)) (lv' := [(2, .int (x2 + (1 : Int32))), (1, .int t0), (0, .ref (ad x0))]) hx hb dX7_leader_33 hl (k := 2) rfl (congrArg (fun z => x2 + z) (by decide)) (by decide) rfl (fun ls hl => ?_)
    refine lv_goto (tgt := 4) hx hb dX7_leader_36 (by decide) ?_
    exact hk4 _ _ _ _ h _ _ _ hw (lv_sub hl [2, 1, 0] rfl)
  have hb4 : ∀ (nn : Nat), ∀ (M : Mm) (x0 : Nat) (x1 : Int32) (x2 : Int32), f_X7_leader_b4 nn M x0 x1 x2 = some res → ∀ (H : Heap) (locs : List Loc) (ls : Array Slot), Wd D cy shM ad nM (Aw ad nM) s.heap M H locs → lv_has ls 3 [(0, .ref (ad x0)), (1, .int x1), (2, .int x2)] → W p l e (headSpec (wU yX7_leader cX7_leader 3 (some .int)) rmX7_leader).room s m args below meth c H locs 0 0 (QI D cy shM ad nM adK adV below args s res) (F0 m 4 ls []) := by
    intro nn
    induction nn with
    | zero => intro M x0 x1 x2 h; simp [f_X7_leader_b4] at h
    | succ nn ih =>
      intro M x0 x1 x2 h H locs ls hw hl
      unfold f_X7_leader_b4 at h
      refine lv_iload_n hx hb dX7_leader_4 rfl (lv_at hl 2 rfl) ?_
      refine lv_aload_n hx hb dX7_leader_5 rfl (lv_at hl 0 rfl) ?_
      replace h := gd_some h
      obtain ⟨g1, h⟩ := h
      replace h := bd_some h
      obtain ⟨q2, eq2, h⟩ := h
      refine r_getR hx hb hts iw7 hown hK hw x0 0 g1 (by decide) rfl (by decide) rfl (hq _ qw888) (fun _ h9 => h9) dX7_leader_6 eq2 ?_
      refine lv_iconst (v := (0 : Int32)) hx hb dX7_leader_9 (by decide) ?_
      replace h := gd_some h
      obtain ⟨g3, h⟩ := h
      refine r_iald hx hb hK hw q2 g3 dX7_leader_10 ?_
      refine lv_icmp_ge (tgt := 39) hx hb dX7_leader_11 (by decide) (fun c4 => ?_) (fun c4 => ?_)
      · replace h := if_some_t c4 h
        refine lv_iload_n hx hb dX7_leader_39 rfl (lv_at hl 1 rfl) ?_
        exact r_iret hx hb hr rfl hlocks hZ hK hw h dX7_leader_40
      · replace h := if_some_f c4 h
        refine lv_aload_n hx hb dX7_leader_14 rfl (lv_at hl 0 rfl) ?_
        refine lv_iload_n hx hb dX7_leader_15 rfl (lv_at hl 2 rfl) ?_
        replace h := bd_some h
        obtain ⟨r5, er5, h⟩ := h
        refine r_callVi (As := [.int x2]) (rest := []) hF (c_X7_points l D cy ad adK adV M x0 x2 r5 er5) (gW_goodV hcm qw1006 qw1003 qw1005 qw21 qw67) hdX7_points rfl ⟨Nat.le_of_ble_eq_true rfl, Nat.le_of_ble_eq_true rfl⟩ rfl rfl hZ hK hw g1 (by decide) rfl rfl hl.1 rfl (Nat.le_of_ble_eq_true rfl) ⟨Nat.zero_le _, Nat.zero_le _⟩ dX7_leader_16 (fun H locs hw => ?_)
        refine lv_aload_n hx hb dX7_leader_19 rfl (lv_at hl 0 rfl) ?_
        refine lv_iload_n hx hb dX7_leader_20 rfl (lv_at hl 1 rfl) ?_
        replace h := bd_some h
        obtain ⟨r6, er6, h⟩ := h
        refine r_callVi (As := [.int x1]) (rest := [.int r5.2]) hF (c_X7_points l D cy ad adK adV r5.1 x0 x1 r6 er6) (gW_goodV hcm qw1006 qw1003 qw1005 qw21 qw67) hdX7_points rfl ⟨Nat.le_of_ble_eq_true rfl, Nat.le_of_ble_eq_true rfl⟩ rfl rfl hZ hK hw g1 (by decide) rfl rfl hl.1 rfl (Nat.le_of_ble_eq_true rfl) ⟨Nat.zero_le _, Nat.zero_le _⟩ dX7_leader_21 (fun H locs hw => ?_)
        refine lv_icmp_le (tgt := 31) hx hb dX7_leader_24 (by decide) (fun c7 => ?_) (fun c7 => ?_)
        · replace h := if_some_t c7 h
          refine lv_iload_n hx hb dX7_leader_31 rfl (lv_at hl 1 rfl) ?_
          exact hb32 _ ih _ _ _ _ h _ _ _ hw (lv_sub hl [0, 2] rfl)
        · replace h := if_some_f c7 h
          refine lv_iload_n hx hb dX7_leader_27 rfl (lv_at hl 2 rfl) ?_
          refine lv_goto (tgt := 32) hx hb dX7_leader_28 (by decide) ?_
          exact hb32 _ ih _ _ _ _ h _ _ _ hw (lv_sub hl [0, 2] rfl)
  unfold f_X7_leader at h
  refine lv_iconst (v := (0 : Int32)) hx hb dX7_leader_0 (by decide) ?_
  refine lv_istore_n (lv' := [(1, .int (0 : Int32)), (0, .ref (ad o0))]) hx hb dX7_leader_1 rfl hl (by decide) rfl (fun ls hl => ?_)
  refine lv_iconst (v := (1 : Int32)) hx hb dX7_leader_2 (by decide) ?_
  refine lv_istore_n (lv' := [(2, .int (1 : Int32)), (1, .int (0 : Int32)), (0, .ref (ad o0))]) hx hb dX7_leader_3 rfl hl (by decide) rfl (fun ls hl => ?_)
  exact hb4 1000 _ _ _ _ h _ _ _ hw (lv_sub hl [2, 1, 0] rfl)
theorem dX7_addSide_0 : decode cX7_addSide 0 = .ok (.iconst 5, 1) := by decide +kernel
theorem dX7_addSide_1 : decode cX7_addSide 1 = .ok (.iconst 3, 1) := by decide +kernel
theorem dX7_addSide_2 : decode cX7_addSide 2 = .ok (.aload_n 0, 1) := by decide +kernel
theorem dX7_addSide_3 : decode cX7_addSide 3 = .ok (.getfield 7, 3) := by decide +kernel
theorem dX7_addSide_6 : decode cX7_addSide 6 = .ok (.iconst 0, 1) := by decide +kernel
theorem dX7_addSide_7 : decode cX7_addSide 7 = .ok (.iaload, 1) := by decide +kernel
theorem dX7_addSide_8 : decode cX7_addSide 8 = .ok (.imul, 1) := by decide +kernel
theorem dX7_addSide_9 : decode cX7_addSide 9 = .ok (.iadd, 1) := by decide +kernel
theorem dX7_addSide_10 : decode cX7_addSide 10 = .ok (.istore 4, 2) := by decide +kernel
theorem dX7_addSide_12 : decode cX7_addSide 12 = .ok (.aload_n 0, 1) := by decide +kernel
theorem dX7_addSide_13 : decode cX7_addSide 13 = .ok (.getfield 7, 3) := by decide +kernel
theorem dX7_addSide_16 : decode cX7_addSide 16 = .ok (.iload 4, 2) := by decide +kernel
theorem dX7_addSide_18 : decode cX7_addSide 18 = .ok (.iconst 0, 1) := by decide +kernel
theorem dX7_addSide_19 : decode cX7_addSide 19 = .ok (.iadd, 1) := by decide +kernel
theorem dX7_addSide_20 : decode cX7_addSide 20 = .ok (.iload_n 1, 1) := by decide +kernel
theorem dX7_addSide_21 : decode cX7_addSide 21 = .ok (.iastore, 1) := by decide +kernel
theorem dX7_addSide_22 : decode cX7_addSide 22 = .ok (.aload_n 0, 1) := by decide +kernel
theorem dX7_addSide_23 : decode cX7_addSide 23 = .ok (.getfield 7, 3) := by decide +kernel
theorem dX7_addSide_26 : decode cX7_addSide 26 = .ok (.iload 4, 2) := by decide +kernel
theorem dX7_addSide_28 : decode cX7_addSide 28 = .ok (.iconst 1, 1) := by decide +kernel
theorem dX7_addSide_29 : decode cX7_addSide 29 = .ok (.iadd, 1) := by decide +kernel
theorem dX7_addSide_30 : decode cX7_addSide 30 = .ok (.iload_n 2, 1) := by decide +kernel
theorem dX7_addSide_31 : decode cX7_addSide 31 = .ok (.iastore, 1) := by decide +kernel
theorem dX7_addSide_32 : decode cX7_addSide 32 = .ok (.aload_n 0, 1) := by decide +kernel
theorem dX7_addSide_33 : decode cX7_addSide 33 = .ok (.getfield 7, 3) := by decide +kernel
theorem dX7_addSide_36 : decode cX7_addSide 36 = .ok (.iload 4, 2) := by decide +kernel
theorem dX7_addSide_38 : decode cX7_addSide 38 = .ok (.iconst 2, 1) := by decide +kernel
theorem dX7_addSide_39 : decode cX7_addSide 39 = .ok (.iadd, 1) := by decide +kernel
theorem dX7_addSide_40 : decode cX7_addSide 40 = .ok (.iload_n 3, 1) := by decide +kernel
theorem dX7_addSide_41 : decode cX7_addSide 41 = .ok (.iastore, 1) := by decide +kernel
theorem dX7_addSide_42 : decode cX7_addSide 42 = .ok (.aload_n 0, 1) := by decide +kernel
theorem dX7_addSide_43 : decode cX7_addSide 43 = .ok (.getfield 7, 3) := by decide +kernel
theorem dX7_addSide_46 : decode cX7_addSide 46 = .ok (.iconst 0, 1) := by decide +kernel
theorem dX7_addSide_47 : decode cX7_addSide 47 = .ok (.dup2, 1) := by decide +kernel
theorem dX7_addSide_48 : decode cX7_addSide 48 = .ok (.iaload, 1) := by decide +kernel
theorem dX7_addSide_49 : decode cX7_addSide 49 = .ok (.iconst 1, 1) := by decide +kernel
theorem dX7_addSide_50 : decode cX7_addSide 50 = .ok (.iadd, 1) := by decide +kernel
theorem dX7_addSide_51 : decode cX7_addSide 51 = .ok (.iastore, 1) := by decide +kernel
theorem dX7_addSide_52 : decode cX7_addSide 52 = .ok (.return_, 1) := by decide +kernel
set_option maxHeartbeats 4000000 in
set_option maxRecDepth 100000 in
theorem c_X7_addSide (l : Launch) (D : va_G) (cy : Nat → ClassId) (ad adK adV : Nat → Nat) (M : Mm) (o0 : Nat) (a1 : Int32) (a2 : Int32) (a3 : Int32) (res : Mm × Unit) (h : f_X7_addSide M o0 a1 a2 a3 = some res) : Met l yX7_addSide (wU yX7_addSide cX7_addSide 5 none) rmX7_addSide (va_Pc [.ref (ad o0), .int a1, .int a2, .int a3] (Pre D cy shM ad nM adK adV M)) (va_Qv (fun (M2 : Mm) => M2 = res.1) (Pre D cy shM ad nM adK adV) (Aw ad nM)) 0 0 (Aw ad nM) := by
  refine Met.ofW (cc := cX7_addSide) (maxL := 5) (ret := none) (by decide) rfl ?_
  intro p e s m args below meth c s₁ B hml hv
  obtain ⟨hargs, hPre⟩ := hv
  have hx := B.exec
  have hb := B.bytes
  have hr := B.returns
  have hts := atoms_spec (ws := wU yX7_addSide cX7_addSide 5 none) B.pre
  have hq : ∀ w ∈ gW, w.before args s = true := fun w hw => hts w (List.mem_cons_of_mem _ hw)
  have hcm : ∀ w ∈ gW, w ∈ wU yX7_addSide cX7_addSide 5 none := fun w hw => List.mem_cons_of_mem _ hw
  have hown : s.vm.findClass RX7 = some m.cls := findClass_of_methodNamed B.named
  have hlocks := B.notSynchronized
  have hF : CallFix p m c cX7_addSide 5 s args (wU yX7_addSide cX7_addSide 5 none) RX7 := ⟨hx, hb, hml, hown, hts⟩
  have hK := hPre.2.1
  have hZ := hPre.2.2.2
  have hw : Wd D cy shM ad nM (Aw ad nM) s.heap M s.heap [] := ⟨hPre.1, hPre.2.2.1, va_S.rf⟩
  have iw7 : ∀ w ∈ u_ws RX7 TX7 30, w ∈ wU yX7_addSide cX7_addSide 5 none := fun w hw => List.mem_cons_of_mem _ (iX7 w hw)
  rw [show entryFrame m args 5 = entryFrame m ([.ref (ad o0), .int a1, .int a2, .int a3] : List Value).toArray 5 from by rw [hargs]]
  have hl := lv_entry ([.ref (ad o0), .int a1, .int a2, .int a3]) (n := 5) (Nat.le_of_ble_eq_true rfl)
  rw [lg_entry_eq]
  generalize (lg_sl ([.ref (ad o0), .int a1, .int a2, .int a3]) ++ List.replicate (5 - (lg_sl ([.ref (ad o0), .int a1, .int a2, .int a3])).length) Slot.unset).toArray = ls at hl ⊢
  have hl : lv_has ls 5 [(0, .ref (ad o0)), (1, .int a1), (2, .int a2), (3, .int a3)] := hl
  unfold f_X7_addSide at h
  refine lv_iconst (v := (5 : Int32)) hx hb dX7_addSide_0 (by decide) ?_
  refine lv_iconst (v := (3 : Int32)) hx hb dX7_addSide_1 (by decide) ?_
  refine lv_aload_n hx hb dX7_addSide_2 rfl (lv_at hl 0 rfl) ?_
  replace h := gd_some h
  obtain ⟨g1, h⟩ := h
  replace h := bd_some h
  obtain ⟨q2, eq2, h⟩ := h
  refine r_getR hx hb hts iw7 hown hK hw o0 0 g1 (by decide) rfl (by decide) rfl (hq _ qw888) (fun _ h9 => h9) dX7_addSide_3 eq2 ?_
  refine lv_iconst (v := (0 : Int32)) hx hb dX7_addSide_6 (by decide) ?_
  replace h := gd_some h
  obtain ⟨g3, h⟩ := h
  refine r_iald hx hb hK hw q2 g3 dX7_addSide_7 ?_
  refine lv_imul hx hb dX7_addSide_8 ?_
  refine lv_iadd hx hb dX7_addSide_9 ?_
  refine lv_topi (fun y4 ey4 => ?_)
  replace h := lt_at ey4 h
  refine lv_istore (lv' := [(4, .int y4), (0, .ref (ad o0)), (1, .int a1), (2, .int a2), (3, .int a3)]) hx hb dX7_addSide_10 hl (by decide) rfl (fun ls hl => ?_)
  refine lv_aload_n hx hb dX7_addSide_12 rfl (lv_at hl 1 rfl) ?_
  replace h := bd_some h
  obtain ⟨q5, eq5, h⟩ := h
  refine r_getR hx hb hts iw7 hown hK hw o0 0 g1 (by decide) rfl (by decide) rfl (hq _ qw888) (fun _ h9 => h9) dX7_addSide_13 eq5 ?_
  refine lv_iload hx hb dX7_addSide_16 (lv_at hl 0 rfl) ?_
  refine lv_iconst (v := (0 : Int32)) hx hb dX7_addSide_18 (by decide) ?_
  refine lv_iadd hx hb dX7_addSide_19 ?_
  refine lv_iload_n hx hb dX7_addSide_20 rfl (lv_at hl 2 rfl) ?_
  replace h := gd_some h
  obtain ⟨g6, h⟩ := h
  refine r_iast hx hb hK hw q5 g6 dX7_addSide_21 (fun H locs hw => ?_)
  replace h := lt_some h
  obtain ⟨M7, eM7, h⟩ := h
  rw [← eM7] at hw
  refine lv_aload_n hx hb dX7_addSide_22 rfl (lv_at hl 1 rfl) ?_
  replace h := bd_some h
  obtain ⟨q8, eq8, h⟩ := h
  refine r_getR hx hb hts iw7 hown hK hw o0 0 g1 (by decide) rfl (by decide) rfl (hq _ qw888) (fun _ h9 => h9) dX7_addSide_23 eq8 ?_
  refine lv_iload hx hb dX7_addSide_26 (lv_at hl 0 rfl) ?_
  refine lv_iconst (v := (1 : Int32)) hx hb dX7_addSide_28 (by decide) ?_
  refine lv_iadd hx hb dX7_addSide_29 ?_
  refine lv_iload_n hx hb dX7_addSide_30 rfl (lv_at hl 3 rfl) ?_
  replace h := gd_some h
  obtain ⟨g9, h⟩ := h
  refine r_iast hx hb hK hw q8 g9 dX7_addSide_31 (fun H locs hw => ?_)
  replace h := lt_some h
  obtain ⟨M10, eM10, h⟩ := h
  rw [← eM10] at hw
  refine lv_aload_n hx hb dX7_addSide_32 rfl (lv_at hl 1 rfl) ?_
  replace h := bd_some h
  obtain ⟨q11, eq11, h⟩ := h
  refine r_getR hx hb hts iw7 hown hK hw o0 0 g1 (by decide) rfl (by decide) rfl (hq _ qw888) (fun _ h9 => h9) dX7_addSide_33 eq11 ?_
  refine lv_iload hx hb dX7_addSide_36 (lv_at hl 0 rfl) ?_
  refine lv_iconst (v := (2 : Int32)) hx hb dX7_addSide_38 (by decide) ?_
  refine lv_iadd hx hb dX7_addSide_39 ?_
  refine lv_iload_n hx hb dX7_addSide_40 rfl (lv_at hl 4 rfl) ?_
  replace h := gd_some h
  obtain ⟨g12, h⟩ := h
  refine r_iast hx hb hK hw q11 g12 dX7_addSide_41 (fun H locs hw => ?_)
  replace h := lt_some h
  obtain ⟨M13, eM13, h⟩ := h
  rw [← eM13] at hw
  refine lv_aload_n hx hb dX7_addSide_42 rfl (lv_at hl 1 rfl) ?_
  replace h := bd_some h
  obtain ⟨q14, eq14, h⟩ := h
  refine r_getR hx hb hts iw7 hown hK hw o0 0 g1 (by decide) rfl (by decide) rfl (hq _ qw888) (fun _ h9 => h9) dX7_addSide_43 eq14 ?_
  refine lv_iconst (v := (0 : Int32)) hx hb dX7_addSide_46 (by decide) ?_
  refine lv_dup2_11 hx hb dX7_addSide_47 rfl rfl ?_
  replace h := gd_some h
  obtain ⟨g15, h⟩ := h
  refine r_iald hx hb hK hw q14 g15 dX7_addSide_48 ?_
  refine lv_iconst (v := (1 : Int32)) hx hb dX7_addSide_49 (by decide) ?_
  refine lv_iadd hx hb dX7_addSide_50 ?_
  replace h := gd_some h
  obtain ⟨g16, h⟩ := h
  refine r_iast hx hb hK hw q14 g16 dX7_addSide_51 (fun H locs hw => ?_)
  replace h := lt_some h
  obtain ⟨M17, eM17, h⟩ := h
  rw [← eM17] at hw
  exact r_vret hx hb hr hlocks hZ hK hw h dX7_addSide_52
theorem dX7_side_0 : decode cX7_side 0 = .ok (.iload_n 1, 1) := by decide +kernel
theorem dX7_side_1 : decode cX7_side 1 = .ok (.iconst 0, 1) := by decide +kernel
theorem dX7_side_2 : decode cX7_side 2 = .ok (.bipush 6, 2) := by decide +kernel
theorem dX7_side_4 : decode cX7_side 4 = .ok (.invokestatic 67, 3) := by decide +kernel
theorem dX7_side_7 : decode cX7_side 7 = .ok (.ifCond .eq 13, 3) := by decide +kernel
theorem dX7_side_10 : decode cX7_side 10 = .ok (.iload_n 2, 1) := by decide +kernel
theorem dX7_side_11 : decode cX7_side 11 = .ok (.iconst 1, 1) := by decide +kernel
theorem dX7_side_12 : decode cX7_side 12 = .ok (.bipush 9, 2) := by decide +kernel
theorem dX7_side_14 : decode cX7_side 14 = .ok (.invokestatic 67, 3) := by decide +kernel
theorem dX7_side_17 : decode cX7_side 17 = .ok (.ifCond .ne 9, 3) := by decide +kernel
theorem dX7_side_20 : decode cX7_side 20 = .ok (.aload_n 0, 1) := by decide +kernel
theorem dX7_side_21 : decode cX7_side 21 = .ok (.iconst 0, 1) := by decide +kernel
theorem dX7_side_22 : decode cX7_side 22 = .ok (.invokevirtual 115, 3) := by decide +kernel
theorem dX7_side_25 : decode cX7_side 25 = .ok (.ireturn, 1) := by decide +kernel
theorem dX7_side_26 : decode cX7_side 26 = .ok (.aload_n 0, 1) := by decide +kernel
theorem dX7_side_27 : decode cX7_side 27 = .ok (.getfield 7, 3) := by decide +kernel
theorem dX7_side_30 : decode cX7_side 30 = .ok (.iconst 0, 1) := by decide +kernel
theorem dX7_side_31 : decode cX7_side 31 = .ok (.iaload, 1) := by decide +kernel
theorem dX7_side_32 : decode cX7_side 32 = .ok (.bipush 6, 2) := by decide +kernel
theorem dX7_side_34 : decode cX7_side 34 = .ok (.if_icmp .ne 9, 3) := by decide +kernel
theorem dX7_side_37 : decode cX7_side 37 = .ok (.aload_n 0, 1) := by decide +kernel
theorem dX7_side_38 : decode cX7_side 38 = .ok (.iconst 1, 1) := by decide +kernel
theorem dX7_side_39 : decode cX7_side 39 = .ok (.invokevirtual 115, 3) := by decide +kernel
theorem dX7_side_42 : decode cX7_side 42 = .ok (.ireturn, 1) := by decide +kernel
theorem dX7_side_43 : decode cX7_side 43 = .ok (.aload_n 0, 1) := by decide +kernel
theorem dX7_side_44 : decode cX7_side 44 = .ok (.iload_n 1, 1) := by decide +kernel
theorem dX7_side_45 : decode cX7_side 45 = .ok (.iload_n 2, 1) := by decide +kernel
theorem dX7_side_46 : decode cX7_side 46 = .ok (.iconst 0, 1) := by decide +kernel
theorem dX7_side_47 : decode cX7_side 47 = .ok (.invokevirtual 118, 3) := by decide +kernel
theorem dX7_side_50 : decode cX7_side 50 = .ok (.aload_n 0, 1) := by decide +kernel
theorem dX7_side_51 : decode cX7_side 51 = .ok (.getfield 7, 3) := by decide +kernel
theorem dX7_side_54 : decode cX7_side 54 = .ok (.iconst 0, 1) := by decide +kernel
theorem dX7_side_55 : decode cX7_side 55 = .ok (.iaload, 1) := by decide +kernel
theorem dX7_side_56 : decode cX7_side 56 = .ok (.iconst 1, 1) := by decide +kernel
theorem dX7_side_57 : decode cX7_side 57 = .ok (.isub, 1) := by decide +kernel
theorem dX7_side_58 : decode cX7_side 58 = .ok (.ireturn, 1) := by decide +kernel
set_option maxHeartbeats 4000000 in
set_option maxRecDepth 100000 in
theorem c_X7_side (l : Launch) (D : va_G) (cy : Nat → ClassId) (ad adK adV : Nat → Nat) (M : Mm) (o0 : Nat) (a1 : Int32) (a2 : Int32) (res : Mm × Int32) (h : f_X7_side M o0 a1 a2 = some res) : Met l yX7_side (wU yX7_side cX7_side 3 (some .int)) rmX7_side (va_Pc [.ref (ad o0), .int a1, .int a2] (Pre D cy shM ad nM adK adV M)) (va_Qi (fun r (M2 : Mm) => r = res.2 ∧ M2 = res.1) (Pre D cy shM ad nM adK adV) (Aw ad nM)) 0 0 (Aw ad nM) := by
  refine Met.ofW (cc := cX7_side) (maxL := 3) (ret := (some .int)) (by decide) rfl ?_
  intro p e s m args below meth c s₁ B hml hv
  obtain ⟨hargs, hPre⟩ := hv
  have hx := B.exec
  have hb := B.bytes
  have hr := B.returns
  have hts := atoms_spec (ws := wU yX7_side cX7_side 3 (some .int)) B.pre
  have hq : ∀ w ∈ gW, w.before args s = true := fun w hw => hts w (List.mem_cons_of_mem _ hw)
  have hcm : ∀ w ∈ gW, w ∈ wU yX7_side cX7_side 3 (some .int) := fun w hw => List.mem_cons_of_mem _ hw
  have hown : s.vm.findClass RX7 = some m.cls := findClass_of_methodNamed B.named
  have hlocks := B.notSynchronized
  have hF : CallFix p m c cX7_side 3 s args (wU yX7_side cX7_side 3 (some .int)) RX7 := ⟨hx, hb, hml, hown, hts⟩
  have hK := hPre.2.1
  have hZ := hPre.2.2.2
  have hw : Wd D cy shM ad nM (Aw ad nM) s.heap M s.heap [] := ⟨hPre.1, hPre.2.2.1, va_S.rf⟩
  have iw7 : ∀ w ∈ u_ws RX7 TX7 30, w ∈ wU yX7_side cX7_side 3 (some .int) := fun w hw => List.mem_cons_of_mem _ (iX7 w hw)
  rw [show entryFrame m args 3 = entryFrame m ([.ref (ad o0), .int a1, .int a2] : List Value).toArray 3 from by rw [hargs]]
  have hl := lv_entry ([.ref (ad o0), .int a1, .int a2]) (n := 3) (Nat.le_of_ble_eq_true rfl)
  rw [lg_entry_eq]
  generalize (lg_sl ([.ref (ad o0), .int a1, .int a2]) ++ List.replicate (3 - (lg_sl ([.ref (ad o0), .int a1, .int a2])).length) Slot.unset).toArray = ls at hl ⊢
  have hl : lv_has ls 3 [(0, .ref (ad o0)), (1, .int a1), (2, .int a2)] := hl
  have hb20 : ∀ (M : Mm) (x0 : Nat), f_X7_side_b20 M x0 = some res → ∀ (H : Heap) (locs : List Loc) (ls : Array Slot), Wd D cy shM ad nM (Aw ad nM) s.heap M H locs → lv_has ls 3 [(0, .ref (ad x0))] → W p l e (headSpec (wU yX7_side cX7_side 3 (some .int)) rmX7_side).room s m args below meth c H locs 0 0 (QI D cy shM ad nM adK adV below args s res) (F0 m 20 ls []) := by
    intro M x0 h H locs ls hw hl
    unfold f_X7_side_b20 at h
    refine lv_aload_n hx hb dX7_side_20 rfl (lv_at hl 0 rfl) ?_
    refine lv_iconst (v := (0 : Int32)) hx hb dX7_side_21 (by decide) ?_
    replace h := gd_some h
    obtain ⟨g2, h⟩ := h
    replace h := bd_some h
    obtain ⟨r1, er1, h⟩ := h
    refine r_callVi (As := [.int (0 : Int32)]) (rest := []) hF (c_X7_finding l D cy ad adK adV M x0 (0 : Int32) r1 er1) (gW_goodV hcm qw989 qw986 qw988 qw18 qw67) hdX7_finding rfl ⟨Nat.le_of_ble_eq_true rfl, Nat.le_of_ble_eq_true rfl⟩ rfl rfl hZ hK hw g2 (by decide) rfl rfl hl.1 rfl (Nat.le_of_ble_eq_true rfl) ⟨Nat.zero_le _, Nat.zero_le _⟩ dX7_side_22 (fun H locs hw => ?_)
    exact r_iret hx hb hr rfl hlocks hZ hK hw h dX7_side_25
  unfold f_X7_side at h
  refine lv_iload_n hx hb dX7_side_0 rfl (lv_at hl 1 rfl) ?_
  refine lv_iconst (v := (0 : Int32)) hx hb dX7_side_1 (by decide) ?_
  refine lv_bipush (v := (6 : Int32)) hx hb dX7_side_2 (by decide) ?_
  replace h := bd_some h
  obtain ⟨r3, er3, h⟩ := h
  refine r_callSi (As := [.int a1, .int (0 : Int32), .int (6 : Int32)]) (rest := []) hF (c_X7_in l D cy ad adK adV M a1 (0 : Int32) (6 : Int32) r3 er3) (gW_goodS hcm qw985 qw983 qw984 qw67) hdX7_in ⟨Nat.le_of_ble_eq_true rfl, Nat.le_of_ble_eq_true rfl⟩ rfl rfl hZ hK hw rfl hl.1 rfl (Nat.le_of_ble_eq_true rfl) ⟨Nat.zero_le _, Nat.zero_le _⟩ dX7_side_4 (fun H locs hw => ?_)
  refine lv_if_eq (tgt := 20) hx hb dX7_side_7 (by decide) (fun c4 => ?_) (fun c4 => ?_)
  · replace h := if_some_t c4 h
    exact hb20 _ _ h _ _ _ hw (lv_sub hl [0] rfl)
  · replace h := if_some_f c4 h
    refine lv_iload_n hx hb dX7_side_10 rfl (lv_at hl 2 rfl) ?_
    refine lv_iconst (v := (1 : Int32)) hx hb dX7_side_11 (by decide) ?_
    refine lv_bipush (v := (9 : Int32)) hx hb dX7_side_12 (by decide) ?_
    replace h := bd_some h
    obtain ⟨r5, er5, h⟩ := h
    refine r_callSi (As := [.int a2, .int (1 : Int32), .int (9 : Int32)]) (rest := []) hF (c_X7_in l D cy ad adK adV r3.1 a2 (1 : Int32) (9 : Int32) r5 er5) (gW_goodS hcm qw985 qw983 qw984 qw67) hdX7_in ⟨Nat.le_of_ble_eq_true rfl, Nat.le_of_ble_eq_true rfl⟩ rfl rfl hZ hK hw rfl hl.1 rfl (Nat.le_of_ble_eq_true rfl) ⟨Nat.zero_le _, Nat.zero_le _⟩ dX7_side_14 (fun H locs hw => ?_)
    refine lv_if_ne (tgt := 26) hx hb dX7_side_17 (by decide) (fun c6 => ?_) (fun c6 => ?_)
    · replace h := if_some_f c6 h
      refine lv_aload_n hx hb dX7_side_26 rfl (lv_at hl 0 rfl) ?_
      replace h := gd_some h
      obtain ⟨g7, h⟩ := h
      replace h := bd_some h
      obtain ⟨q8, eq8, h⟩ := h
      refine r_getR hx hb hts iw7 hown hK hw o0 0 g7 (by decide) rfl (by decide) rfl (hq _ qw888) (fun _ h9 => h9) dX7_side_27 eq8 ?_
      refine lv_iconst (v := (0 : Int32)) hx hb dX7_side_30 (by decide) ?_
      replace h := gd_some h
      obtain ⟨g9, h⟩ := h
      refine r_iald hx hb hK hw q8 g9 dX7_side_31 ?_
      refine lv_bipush (v := (6 : Int32)) hx hb dX7_side_32 (by decide) ?_
      refine lv_icmp_ne (tgt := 43) hx hb dX7_side_34 (by decide) (fun c10 => ?_) (fun c10 => ?_)
      · replace h := if_some_f c10 h
        refine lv_aload_n hx hb dX7_side_43 rfl (lv_at hl 0 rfl) ?_
        refine lv_iload_n hx hb dX7_side_44 rfl (lv_at hl 1 rfl) ?_
        refine lv_iload_n hx hb dX7_side_45 rfl (lv_at hl 2 rfl) ?_
        refine lv_iconst (v := (0 : Int32)) hx hb dX7_side_46 (by decide) ?_
        replace h := bd_some h
        obtain ⟨r11, er11, h⟩ := h
        refine r_callVv (As := [.int a1, .int a2, .int (0 : Int32)]) (rest := []) hF (c_X7_addSide l D cy ad adK adV r5.1 o0 a1 a2 (0 : Int32) r11 er11) (gW_goodV hcm qw994 qw991 qw993 qw19 qw67) hdX7_addSide rfl ⟨Nat.le_of_ble_eq_true rfl, Nat.le_of_ble_eq_true rfl⟩ rfl rfl hZ hK hw g7 (by decide) rfl rfl hl.1 rfl (Nat.le_of_ble_eq_true rfl) ⟨Nat.zero_le _, Nat.zero_le _⟩ dX7_side_47 (fun H locs hw => ?_)
        refine lv_aload_n hx hb dX7_side_50 rfl (lv_at hl 0 rfl) ?_
        replace h := bd_some h
        obtain ⟨q12, eq12, h⟩ := h
        refine r_getR hx hb hts iw7 hown hK hw o0 0 g7 (by decide) rfl (by decide) rfl (hq _ qw888) (fun _ h9 => h9) dX7_side_51 eq12 ?_
        refine lv_iconst (v := (0 : Int32)) hx hb dX7_side_54 (by decide) ?_
        replace h := gd_some h
        obtain ⟨g13, h⟩ := h
        refine r_iald hx hb hK hw q12 g13 dX7_side_55 ?_
        refine lv_iconst (v := (1 : Int32)) hx hb dX7_side_56 (by decide) ?_
        refine lv_isub hx hb dX7_side_57 ?_
        exact r_iret hx hb hr rfl hlocks hZ hK hw h dX7_side_58
      · replace h := if_some_t c10 h
        refine lv_aload_n hx hb dX7_side_37 rfl (lv_at hl 0 rfl) ?_
        refine lv_iconst (v := (1 : Int32)) hx hb dX7_side_38 (by decide) ?_
        replace h := bd_some h
        obtain ⟨r14, er14, h⟩ := h
        refine r_callVi (As := [.int (1 : Int32)]) (rest := []) hF (c_X7_finding l D cy ad adK adV r5.1 o0 (1 : Int32) r14 er14) (gW_goodV hcm qw989 qw986 qw988 qw18 qw67) hdX7_finding rfl ⟨Nat.le_of_ble_eq_true rfl, Nat.le_of_ble_eq_true rfl⟩ rfl rfl hZ hK hw g7 (by decide) rfl rfl hl.1 rfl (Nat.le_of_ble_eq_true rfl) ⟨Nat.zero_le _, Nat.zero_le _⟩ dX7_side_39 (fun H locs hw => ?_)
        exact r_iret hx hb hr rfl hlocks hZ hK hw h dX7_side_42
    · replace h := if_some_t c6 h
      exact hb20 _ _ h _ _ _ hw (lv_sub hl [0] rfl)
theorem dX7_games_0 : decode cX7_games 0 = .ok (.iconst 0, 1) := by decide +kernel
theorem dX7_games_1 : decode cX7_games 1 = .ok (.istore_n 3, 1) := by decide +kernel
theorem dX7_games_2 : decode cX7_games 2 = .ok (.iconst 0, 1) := by decide +kernel
theorem dX7_games_3 : decode cX7_games 3 = .ok (.istore 4, 2) := by decide +kernel
theorem dX7_games_5 : decode cX7_games 5 = .ok (.iload 4, 2) := by decide +kernel
theorem dX7_games_7 : decode cX7_games 7 = .ok (.aload_n 0, 1) := by decide +kernel
theorem dX7_games_8 : decode cX7_games 8 = .ok (.getfield 7, 3) := by decide +kernel
theorem dX7_games_11 : decode cX7_games 11 = .ok (.iconst 2, 1) := by decide +kernel
theorem dX7_games_12 : decode cX7_games 12 = .ok (.iaload, 1) := by decide +kernel
theorem dX7_games_13 : decode cX7_games 13 = .ok (.if_icmp .ge 42, 3) := by decide +kernel
theorem dX7_games_16 : decode cX7_games 16 = .ok (.iload_n 3, 1) := by decide +kernel
theorem dX7_games_17 : decode cX7_games 17 = .ok (.aload_n 0, 1) := by decide +kernel
theorem dX7_games_18 : decode cX7_games 18 = .ok (.iload_n 1, 1) := by decide +kernel
theorem dX7_games_19 : decode cX7_games 19 = .ok (.iload 4, 2) := by decide +kernel
theorem dX7_games_21 : decode cX7_games 21 = .ok (.invokevirtual 75, 3) := by decide +kernel
theorem dX7_games_24 : decode cX7_games 24 = .ok (.ifCond .eq 22, 3) := by decide +kernel
theorem dX7_games_27 : decode cX7_games 27 = .ok (.iload_n 2, 1) := by decide +kernel
theorem dX7_games_28 : decode cX7_games 28 = .ok (.ifCond .eq 14, 3) := by decide +kernel
theorem dX7_games_31 : decode cX7_games 31 = .ok (.aload_n 0, 1) := by decide +kernel
theorem dX7_games_32 : decode cX7_games 32 = .ok (.iload 4, 2) := by decide +kernel
theorem dX7_games_34 : decode cX7_games 34 = .ok (.iconst 4, 1) := by decide +kernel
theorem dX7_games_35 : decode cX7_games 35 = .ok (.invokevirtual 71, 3) := by decide +kernel
theorem dX7_games_38 : decode cX7_games 38 = .ok (.iload_n 1, 1) := by decide +kernel
theorem dX7_games_39 : decode cX7_games 39 = .ok (.if_icmp .ne 7, 3) := by decide +kernel
theorem dX7_games_42 : decode cX7_games 42 = .ok (.iconst 1, 1) := by decide +kernel
theorem dX7_games_43 : decode cX7_games 43 = .ok (.goto 4, 3) := by decide +kernel
theorem dX7_games_46 : decode cX7_games 46 = .ok (.iconst 0, 1) := by decide +kernel
theorem dX7_games_47 : decode cX7_games 47 = .ok (.iadd, 1) := by decide +kernel
theorem dX7_games_48 : decode cX7_games 48 = .ok (.istore_n 3, 1) := by decide +kernel
theorem dX7_games_49 : decode cX7_games 49 = .ok (.iinc 4 1, 3) := by decide +kernel
theorem dX7_games_52 : decode cX7_games 52 = .ok (.goto (-47), 3) := by decide +kernel
theorem dX7_games_55 : decode cX7_games 55 = .ok (.iload_n 3, 1) := by decide +kernel
theorem dX7_games_56 : decode cX7_games 56 = .ok (.ireturn, 1) := by decide +kernel
set_option maxHeartbeats 4000000 in
set_option maxRecDepth 100000 in
theorem c_X7_games (l : Launch) (D : va_G) (cy : Nat → ClassId) (ad adK adV : Nat → Nat) (M : Mm) (o0 : Nat) (a1 : Int32) (a2 : Int32) (res : Mm × Int32) (h : f_X7_games M o0 a1 a2 = some res) : Met l yX7_games (wU yX7_games cX7_games 5 (some .int)) rmX7_games (va_Pc [.ref (ad o0), .int a1, .int a2] (Pre D cy shM ad nM adK adV M)) (va_Qi (fun r (M2 : Mm) => r = res.2 ∧ M2 = res.1) (Pre D cy shM ad nM adK adV) (Aw ad nM)) 0 0 (Aw ad nM) := by
  refine Met.ofW (cc := cX7_games) (maxL := 5) (ret := (some .int)) (by decide) rfl ?_
  intro p e s m args below meth c s₁ B hml hv
  obtain ⟨hargs, hPre⟩ := hv
  have hx := B.exec
  have hb := B.bytes
  have hr := B.returns
  have hts := atoms_spec (ws := wU yX7_games cX7_games 5 (some .int)) B.pre
  have hq : ∀ w ∈ gW, w.before args s = true := fun w hw => hts w (List.mem_cons_of_mem _ hw)
  have hcm : ∀ w ∈ gW, w ∈ wU yX7_games cX7_games 5 (some .int) := fun w hw => List.mem_cons_of_mem _ hw
  have hown : s.vm.findClass RX7 = some m.cls := findClass_of_methodNamed B.named
  have hlocks := B.notSynchronized
  have hF : CallFix p m c cX7_games 5 s args (wU yX7_games cX7_games 5 (some .int)) RX7 := ⟨hx, hb, hml, hown, hts⟩
  have hK := hPre.2.1
  have hZ := hPre.2.2.2
  have hw : Wd D cy shM ad nM (Aw ad nM) s.heap M s.heap [] := ⟨hPre.1, hPre.2.2.1, va_S.rf⟩
  have iw7 : ∀ w ∈ u_ws RX7 TX7 30, w ∈ wU yX7_games cX7_games 5 (some .int) := fun w hw => List.mem_cons_of_mem _ (iX7 w hw)
  rw [show entryFrame m args 5 = entryFrame m ([.ref (ad o0), .int a1, .int a2] : List Value).toArray 5 from by rw [hargs]]
  have hl := lv_entry ([.ref (ad o0), .int a1, .int a2]) (n := 5) (Nat.le_of_ble_eq_true rfl)
  rw [lg_entry_eq]
  generalize (lg_sl ([.ref (ad o0), .int a1, .int a2]) ++ List.replicate (5 - (lg_sl ([.ref (ad o0), .int a1, .int a2])).length) Slot.unset).toArray = ls at hl ⊢
  have hl : lv_has ls 5 [(0, .ref (ad o0)), (1, .int a1), (2, .int a2)] := hl
  have hb47 : ∀ (k5 : Mm → Nat → Int32 → Int32 → Int32 → Int32 → Option (Mm × Int32)) (hk5 : ∀ (M : Mm) (x0 : Nat) (x1 : Int32) (x2 : Int32) (x3 : Int32) (x4 : Int32), k5 M x0 x1 x2 x3 x4 = some res → ∀ (H : Heap) (locs : List Loc) (ls : Array Slot), Wd D cy shM ad nM (Aw ad nM) s.heap M H locs → lv_has ls 5 [(0, .ref (ad x0)), (1, .int x1), (2, .int x2), (3, .int x3), (4, .int x4)] → W p l e (headSpec (wU yX7_games cX7_games 5 (some .int)) rmX7_games).room s m args below meth c H locs 0 0 (QI D cy shM ad nM adK adV below args s res) (F0 m 5 ls [])), ∀ (M : Mm) (x0 : Nat) (x1 : Int32) (x2 : Int32) (x4 : Int32) (t0 : Int32) (t1 : Int32), f_X7_games_b47 k5 M x0 x1 x2 x4 t0 t1 = some res → ∀ (H : Heap) (locs : List Loc) (ls : Array Slot), Wd D cy shM ad nM (Aw ad nM) s.heap M H locs → lv_has ls 5 [(0, .ref (ad x0)), (1, .int x1), (2, .int x2), (4, .int x4)] → W p l e (headSpec (wU yX7_games cX7_games 5 (some .int)) rmX7_games).room s m args below meth c H locs 0 0 (QI D cy shM ad nM adK adV below args s res) (F0 m 47 ls [.int t1, .int t0]) := by
    intro k5 hk5
    intro M x0 x1 x2 x4 t0 t1 h H locs ls hw hl
    unfold f_X7_games_b47 at h
    refine lv_iadd hx hb dX7_games_47 ?_
    refine lv_istore_n (lv' := [(3, .int (t0 + t1)), (0, .ref (ad x0)), (1, .int x1), (2, .int x2), (4, .int x4)]) hx hb dX7_games_48 rfl hl (by decide) rfl (fun ls hl => ?_)
    refine lv_iinc (v := x4 + (1 : Int32)) (lv' := [(4, .int (x4 + (1 : Int32))), (3, .int (t0 + t1)), (0, .ref (ad x0)), (1, .int x1), (2, .int x2)]) hx hb dX7_games_49 hl (k := 4) rfl (congrArg (fun z => x4 + z) (by decide)) (by decide) rfl (fun ls hl => ?_)
    refine lv_goto (tgt := 5) hx hb dX7_games_52 (by decide) ?_
    exact hk5 _ _ _ _ _ _ h _ _ _ hw (lv_sub hl [2, 3, 4, 1, 0] rfl)
  have hb46 : ∀ (k5 : Mm → Nat → Int32 → Int32 → Int32 → Int32 → Option (Mm × Int32)) (hk5 : ∀ (M : Mm) (x0 : Nat) (x1 : Int32) (x2 : Int32) (x3 : Int32) (x4 : Int32), k5 M x0 x1 x2 x3 x4 = some res → ∀ (H : Heap) (locs : List Loc) (ls : Array Slot), Wd D cy shM ad nM (Aw ad nM) s.heap M H locs → lv_has ls 5 [(0, .ref (ad x0)), (1, .int x1), (2, .int x2), (3, .int x3), (4, .int x4)] → W p l e (headSpec (wU yX7_games cX7_games 5 (some .int)) rmX7_games).room s m args below meth c H locs 0 0 (QI D cy shM ad nM adK adV below args s res) (F0 m 5 ls [])), ∀ (M : Mm) (x0 : Nat) (x1 : Int32) (x2 : Int32) (x4 : Int32) (t0 : Int32), f_X7_games_b46 k5 M x0 x1 x2 x4 t0 = some res → ∀ (H : Heap) (locs : List Loc) (ls : Array Slot), Wd D cy shM ad nM (Aw ad nM) s.heap M H locs → lv_has ls 5 [(0, .ref (ad x0)), (1, .int x1), (2, .int x2), (4, .int x4)] → W p l e (headSpec (wU yX7_games cX7_games 5 (some .int)) rmX7_games).room s m args below meth c H locs 0 0 (QI D cy shM ad nM adK adV below args s res) (F0 m 46 ls [.int t0]) := by
    intro k5 hk5
    intro M x0 x1 x2 x4 t0 h H locs ls hw hl
    unfold f_X7_games_b46 at h
    refine lv_iconst (v := (0 : Int32)) hx hb dX7_games_46 (by decide) ?_
    exact hb47 _ hk5 _ _ _ _ _ _ _ h _ _ _ hw (lv_sub hl [0, 1, 2, 3] rfl)
  have hb42 : ∀ (k5 : Mm → Nat → Int32 → Int32 → Int32 → Int32 → Option (Mm × Int32)) (hk5 : ∀ (M : Mm) (x0 : Nat) (x1 : Int32) (x2 : Int32) (x3 : Int32) (x4 : Int32), k5 M x0 x1 x2 x3 x4 = some res → ∀ (H : Heap) (locs : List Loc) (ls : Array Slot), Wd D cy shM ad nM (Aw ad nM) s.heap M H locs → lv_has ls 5 [(0, .ref (ad x0)), (1, .int x1), (2, .int x2), (3, .int x3), (4, .int x4)] → W p l e (headSpec (wU yX7_games cX7_games 5 (some .int)) rmX7_games).room s m args below meth c H locs 0 0 (QI D cy shM ad nM adK adV below args s res) (F0 m 5 ls [])), ∀ (M : Mm) (x0 : Nat) (x1 : Int32) (x2 : Int32) (x4 : Int32) (t0 : Int32), f_X7_games_b42 k5 M x0 x1 x2 x4 t0 = some res → ∀ (H : Heap) (locs : List Loc) (ls : Array Slot), Wd D cy shM ad nM (Aw ad nM) s.heap M H locs → lv_has ls 5 [(0, .ref (ad x0)), (1, .int x1), (2, .int x2), (4, .int x4)] → W p l e (headSpec (wU yX7_games cX7_games 5 (some .int)) rmX7_games).room s m args below meth c H locs 0 0 (QI D cy shM ad nM adK adV below args s res) (F0 m 42 ls [.int t0]) := by
    intro k5 hk5
    intro M x0 x1 x2 x4 t0 h H locs ls hw hl
    unfold f_X7_games_b42 at h
    refine lv_iconst (v := (1 : Int32)) hx hb dX7_games_42 (by decide) ?_
    refine lv_goto (tgt := 47) hx hb dX7_games_43 (by decide) ?_
    exact hb47 _ hk5 _ _ _ _ _ _ _ h _ _ _ hw (lv_sub hl [0, 1, 2, 3] rfl)
  have hb5 : ∀ (nn : Nat), ∀ (M : Mm) (x0 : Nat) (x1 : Int32) (x2 : Int32) (x3 : Int32) (x4 : Int32), f_X7_games_b5 nn M x0 x1 x2 x3 x4 = some res → ∀ (H : Heap) (locs : List Loc) (ls : Array Slot), Wd D cy shM ad nM (Aw ad nM) s.heap M H locs → lv_has ls 5 [(0, .ref (ad x0)), (1, .int x1), (2, .int x2), (3, .int x3), (4, .int x4)] → W p l e (headSpec (wU yX7_games cX7_games 5 (some .int)) rmX7_games).room s m args below meth c H locs 0 0 (QI D cy shM ad nM adK adV below args s res) (F0 m 5 ls []) := by
    intro nn
    induction nn with
    | zero => intro M x0 x1 x2 x3 x4 h; simp [f_X7_games_b5] at h
    | succ nn ih =>
      intro M x0 x1 x2 x3 x4 h H locs ls hw hl
      unfold f_X7_games_b5 at h
      refine lv_iload hx hb dX7_games_5 (lv_at hl 4 rfl) ?_
      refine lv_aload_n hx hb dX7_games_7 rfl (lv_at hl 0 rfl) ?_
      replace h := gd_some h
      obtain ⟨g1, h⟩ := h
      replace h := bd_some h
      obtain ⟨q2, eq2, h⟩ := h
      refine r_getR hx hb hts iw7 hown hK hw x0 0 g1 (by decide) rfl (by decide) rfl (hq _ qw888) (fun _ h9 => h9) dX7_games_8 eq2 ?_
      refine lv_iconst (v := (2 : Int32)) hx hb dX7_games_11 (by decide) ?_
      replace h := gd_some h
      obtain ⟨g3, h⟩ := h
      refine r_iald hx hb hK hw q2 g3 dX7_games_12 ?_
      refine lv_icmp_ge (tgt := 55) hx hb dX7_games_13 (by decide) (fun c4 => ?_) (fun c4 => ?_)
      · replace h := if_some_t c4 h
        refine lv_iload_n hx hb dX7_games_55 rfl (lv_at hl 3 rfl) ?_
        exact r_iret hx hb hr rfl hlocks hZ hK hw h dX7_games_56
      · replace h := if_some_f c4 h
        refine lv_iload_n hx hb dX7_games_16 rfl (lv_at hl 3 rfl) ?_
        refine lv_aload_n hx hb dX7_games_17 rfl (lv_at hl 0 rfl) ?_
        refine lv_iload_n hx hb dX7_games_18 rfl (lv_at hl 1 rfl) ?_
        refine lv_iload hx hb dX7_games_19 (lv_at hl 4 rfl) ?_
        replace h := bd_some h
        obtain ⟨r5, er5, h⟩ := h
        refine r_callVi (As := [.int x1, .int x4]) (rest := [.int x3]) hF (c_X7_plays l D cy ad adK adV M x0 x1 x4 r5 er5) (gW_goodV hcm qw1018 qw1015 qw1017 qw24 qw67) hdX7_plays rfl ⟨Nat.le_of_ble_eq_true rfl, Nat.le_of_ble_eq_true rfl⟩ rfl rfl hZ hK hw g1 (by decide) rfl rfl hl.1 rfl (Nat.le_of_ble_eq_true rfl) ⟨Nat.zero_le _, Nat.zero_le _⟩ dX7_games_21 (fun H locs hw => ?_)
        refine lv_if_eq (tgt := 46) hx hb dX7_games_24 (by decide) (fun c6 => ?_) (fun c6 => ?_)
        · replace h := if_some_t c6 h
          exact hb46 _ ih _ _ _ _ _ _ h _ _ _ hw (lv_sub hl [0, 1, 2, 4] rfl)
        · replace h := if_some_f c6 h
          refine lv_iload_n hx hb dX7_games_27 rfl (lv_at hl 2 rfl) ?_
          refine lv_if_eq (tgt := 42) hx hb dX7_games_28 (by decide) (fun c7 => ?_) (fun c7 => ?_)
          · replace h := if_some_t c7 h
            exact hb42 _ ih _ _ _ _ _ _ h _ _ _ hw (lv_sub hl [0, 1, 2, 4] rfl)
          · replace h := if_some_f c7 h
            refine lv_aload_n hx hb dX7_games_31 rfl (lv_at hl 0 rfl) ?_
            refine lv_iload hx hb dX7_games_32 (lv_at hl 4 rfl) ?_
            refine lv_iconst (v := (4 : Int32)) hx hb dX7_games_34 (by decide) ?_
            replace h := bd_some h
            obtain ⟨r8, er8, h⟩ := h
            refine r_callVi (As := [.int x4, .int (4 : Int32)]) (rest := [.int x3]) hF (c_X7_of l D cy ad adK adV r5.1 x0 x4 (4 : Int32) r8 er8) (gW_goodV hcm qw1010 qw1007 qw1009 qw22 qw67) hdX7_of rfl ⟨Nat.le_of_ble_eq_true rfl, Nat.le_of_ble_eq_true rfl⟩ rfl rfl hZ hK hw g1 (by decide) rfl rfl hl.1 rfl (Nat.le_of_ble_eq_true rfl) ⟨Nat.zero_le _, Nat.zero_le _⟩ dX7_games_35 (fun H locs hw => ?_)
            refine lv_iload_n hx hb dX7_games_38 rfl (lv_at hl 1 rfl) ?_
            refine lv_icmp_ne (tgt := 46) hx hb dX7_games_39 (by decide) (fun c9 => ?_) (fun c9 => ?_)
            · replace h := if_some_f c9 h
              exact hb46 _ ih _ _ _ _ _ _ h _ _ _ hw (lv_sub hl [0, 1, 2, 4] rfl)
            · replace h := if_some_t c9 h
              exact hb42 _ ih _ _ _ _ _ _ h _ _ _ hw (lv_sub hl [0, 1, 2, 4] rfl)
  unfold f_X7_games at h
  refine lv_iconst (v := (0 : Int32)) hx hb dX7_games_0 (by decide) ?_
  refine lv_istore_n (lv' := [(3, .int (0 : Int32)), (0, .ref (ad o0)), (1, .int a1), (2, .int a2)]) hx hb dX7_games_1 rfl hl (by decide) rfl (fun ls hl => ?_)
  refine lv_iconst (v := (0 : Int32)) hx hb dX7_games_2 (by decide) ?_
  refine lv_istore (lv' := [(4, .int (0 : Int32)), (3, .int (0 : Int32)), (0, .ref (ad o0)), (1, .int a1), (2, .int a2)]) hx hb dX7_games_3 hl (by decide) rfl (fun ls hl => ?_)
  exact hb5 1000 _ _ _ _ _ _ h _ _ _ hw (lv_sub hl [2, 3, 4, 1, 0] rfl)
theorem dX7_sideOf_0 : decode cX7_sideOf 0 = .ok (.aload_n 0, 1) := by decide +kernel
theorem dX7_sideOf_1 : decode cX7_sideOf 1 = .ok (.iload_n 1, 1) := by decide +kernel
theorem dX7_sideOf_2 : decode cX7_sideOf 2 = .ok (.invokevirtual 121, 3) := by decide +kernel
theorem dX7_sideOf_5 : decode cX7_sideOf 5 = .ok (.ifCond .eq 13, 3) := by decide +kernel
theorem dX7_sideOf_8 : decode cX7_sideOf 8 = .ok (.iload_n 2, 1) := by decide +kernel
theorem dX7_sideOf_9 : decode cX7_sideOf 9 = .ok (.iconst 0, 1) := by decide +kernel
theorem dX7_sideOf_10 : decode cX7_sideOf 10 = .ok (.bipush 7, 2) := by decide +kernel
theorem dX7_sideOf_12 : decode cX7_sideOf 12 = .ok (.invokestatic 67, 3) := by decide +kernel
theorem dX7_sideOf_15 : decode cX7_sideOf 15 = .ok (.ifCond .ne 9, 3) := by decide +kernel
theorem dX7_sideOf_18 : decode cX7_sideOf 18 = .ok (.aload_n 0, 1) := by decide +kernel
theorem dX7_sideOf_19 : decode cX7_sideOf 19 = .ok (.iconst 0, 1) := by decide +kernel
theorem dX7_sideOf_20 : decode cX7_sideOf 20 = .ok (.invokevirtual 115, 3) := by decide +kernel
theorem dX7_sideOf_23 : decode cX7_sideOf 23 = .ok (.ireturn, 1) := by decide +kernel
theorem dX7_sideOf_24 : decode cX7_sideOf 24 = .ok (.iload_n 2, 1) := by decide +kernel
theorem dX7_sideOf_25 : decode cX7_sideOf 25 = .ok (.tableswitch 86 3 7 #[35, 41, 55, 69, 69], 35) := by decide +kernel
theorem dX7_sideOf_60 : decode cX7_sideOf 60 = .ok (.aload_n 0, 1) := by decide +kernel
theorem dX7_sideOf_61 : decode cX7_sideOf 61 = .ok (.iload_n 1, 1) := by decide +kernel
theorem dX7_sideOf_62 : decode cX7_sideOf 62 = .ok (.invokevirtual 101, 3) := by decide +kernel
theorem dX7_sideOf_65 : decode cX7_sideOf 65 = .ok (.ireturn, 1) := by decide +kernel
theorem dX7_sideOf_66 : decode cX7_sideOf 66 = .ok (.aload_n 0, 1) := by decide +kernel
theorem dX7_sideOf_67 : decode cX7_sideOf 67 = .ok (.iload_n 1, 1) := by decide +kernel
theorem dX7_sideOf_68 : decode cX7_sideOf 68 = .ok (.invokevirtual 85, 3) := by decide +kernel
theorem dX7_sideOf_71 : decode cX7_sideOf 71 = .ok (.ifCond .eq 7, 3) := by decide +kernel
theorem dX7_sideOf_74 : decode cX7_sideOf 74 = .ok (.iconst 1, 1) := by decide +kernel
theorem dX7_sideOf_75 : decode cX7_sideOf 75 = .ok (.goto 4, 3) := by decide +kernel
theorem dX7_sideOf_78 : decode cX7_sideOf 78 = .ok (.iconst 0, 1) := by decide +kernel
theorem dX7_sideOf_79 : decode cX7_sideOf 79 = .ok (.ireturn, 1) := by decide +kernel
theorem dX7_sideOf_80 : decode cX7_sideOf 80 = .ok (.aload_n 0, 1) := by decide +kernel
theorem dX7_sideOf_81 : decode cX7_sideOf 81 = .ok (.iload_n 1, 1) := by decide +kernel
theorem dX7_sideOf_82 : decode cX7_sideOf 82 = .ok (.invokevirtual 95, 3) := by decide +kernel
theorem dX7_sideOf_85 : decode cX7_sideOf 85 = .ok (.ifCond .eq 7, 3) := by decide +kernel
theorem dX7_sideOf_88 : decode cX7_sideOf 88 = .ok (.iconst 1, 1) := by decide +kernel
theorem dX7_sideOf_89 : decode cX7_sideOf 89 = .ok (.goto 4, 3) := by decide +kernel
theorem dX7_sideOf_92 : decode cX7_sideOf 92 = .ok (.iconst 0, 1) := by decide +kernel
theorem dX7_sideOf_93 : decode cX7_sideOf 93 = .ok (.ireturn, 1) := by decide +kernel
theorem dX7_sideOf_94 : decode cX7_sideOf 94 = .ok (.aload_n 0, 1) := by decide +kernel
theorem dX7_sideOf_95 : decode cX7_sideOf 95 = .ok (.iload_n 1, 1) := by decide +kernel
theorem dX7_sideOf_96 : decode cX7_sideOf 96 = .ok (.iload_n 2, 1) := by decide +kernel
theorem dX7_sideOf_97 : decode cX7_sideOf 97 = .ok (.bipush 7, 2) := by decide +kernel
theorem dX7_sideOf_99 : decode cX7_sideOf 99 = .ok (.if_icmp .ne 7, 3) := by decide +kernel
theorem dX7_sideOf_102 : decode cX7_sideOf 102 = .ok (.iconst 1, 1) := by decide +kernel
theorem dX7_sideOf_103 : decode cX7_sideOf 103 = .ok (.goto 4, 3) := by decide +kernel
theorem dX7_sideOf_106 : decode cX7_sideOf 106 = .ok (.iconst 0, 1) := by decide +kernel
theorem dX7_sideOf_107 : decode cX7_sideOf 107 = .ok (.invokevirtual 124, 3) := by decide +kernel
theorem dX7_sideOf_110 : decode cX7_sideOf 110 = .ok (.ireturn, 1) := by decide +kernel
theorem dX7_sideOf_111 : decode cX7_sideOf 111 = .ok (.aload_n 0, 1) := by decide +kernel
theorem dX7_sideOf_112 : decode cX7_sideOf 112 = .ok (.iload_n 1, 1) := by decide +kernel
theorem dX7_sideOf_113 : decode cX7_sideOf 113 = .ok (.iload_n 2, 1) := by decide +kernel
theorem dX7_sideOf_114 : decode cX7_sideOf 114 = .ok (.invokevirtual 89, 3) := by decide +kernel
theorem dX7_sideOf_117 : decode cX7_sideOf 117 = .ok (.ireturn, 1) := by decide +kernel
set_option maxHeartbeats 4000000 in
set_option maxRecDepth 100000 in
theorem c_X7_sideOf (l : Launch) (D : va_G) (cy : Nat → ClassId) (ad adK adV : Nat → Nat) (M : Mm) (o0 : Nat) (a1 : Int32) (a2 : Int32) (res : Mm × Int32) (h : f_X7_sideOf M o0 a1 a2 = some res) : Met l yX7_sideOf (wU yX7_sideOf cX7_sideOf 3 (some .int)) rmX7_sideOf (va_Pc [.ref (ad o0), .int a1, .int a2] (Pre D cy shM ad nM adK adV M)) (va_Qi (fun r (M2 : Mm) => r = res.2 ∧ M2 = res.1) (Pre D cy shM ad nM adK adV) (Aw ad nM)) 0 0 (Aw ad nM) := by
  refine Met.ofW (cc := cX7_sideOf) (maxL := 3) (ret := (some .int)) (by decide) rfl ?_
  intro p e s m args below meth c s₁ B hml hv
  obtain ⟨hargs, hPre⟩ := hv
  have hx := B.exec
  have hb := B.bytes
  have hr := B.returns
  have hts := atoms_spec (ws := wU yX7_sideOf cX7_sideOf 3 (some .int)) B.pre
  have hq : ∀ w ∈ gW, w.before args s = true := fun w hw => hts w (List.mem_cons_of_mem _ hw)
  have hcm : ∀ w ∈ gW, w ∈ wU yX7_sideOf cX7_sideOf 3 (some .int) := fun w hw => List.mem_cons_of_mem _ hw
  have hown : s.vm.findClass RX7 = some m.cls := findClass_of_methodNamed B.named
  have hlocks := B.notSynchronized
  have hF : CallFix p m c cX7_sideOf 3 s args (wU yX7_sideOf cX7_sideOf 3 (some .int)) RX7 := ⟨hx, hb, hml, hown, hts⟩
  have hK := hPre.2.1
  have hZ := hPre.2.2.2
  have hw : Wd D cy shM ad nM (Aw ad nM) s.heap M s.heap [] := ⟨hPre.1, hPre.2.2.1, va_S.rf⟩
  rw [show entryFrame m args 3 = entryFrame m ([.ref (ad o0), .int a1, .int a2] : List Value).toArray 3 from by rw [hargs]]
  have hl := lv_entry ([.ref (ad o0), .int a1, .int a2]) (n := 3) (Nat.le_of_ble_eq_true rfl)
  rw [lg_entry_eq]
  generalize (lg_sl ([.ref (ad o0), .int a1, .int a2]) ++ List.replicate (3 - (lg_sl ([.ref (ad o0), .int a1, .int a2])).length) Slot.unset).toArray = ls at hl ⊢
  have hl : lv_has ls 3 [(0, .ref (ad o0)), (1, .int a1), (2, .int a2)] := hl
  have hb107 : ∀ (M : Mm) (t0 : Nat) (t1 : Int32) (t2 : Int32), f_X7_sideOf_b107 M t0 t1 t2 = some res → ∀ (H : Heap) (locs : List Loc) (ls : Array Slot), Wd D cy shM ad nM (Aw ad nM) s.heap M H locs → lv_has ls 3 [] → W p l e (headSpec (wU yX7_sideOf cX7_sideOf 3 (some .int)) rmX7_sideOf).room s m args below meth c H locs 0 0 (QI D cy shM ad nM adK adV below args s res) (F0 m 107 ls [.int t2, .int t1, .ref (ad t0)]) := by
    intro M t0 t1 t2 h H locs ls hw hl
    unfold f_X7_sideOf_b107 at h
    replace h := gd_some h
    obtain ⟨g2, h⟩ := h
    replace h := bd_some h
    obtain ⟨r1, er1, h⟩ := h
    refine r_callVi (As := [.int t1, .int t2]) (rest := []) hF (c_X7_games l D cy ad adK adV M t0 t1 t2 r1 er1) (gW_goodV hcm qw1026 qw1023 qw1025 qw26 qw67) hdX7_games rfl ⟨Nat.le_of_ble_eq_true rfl, Nat.le_of_ble_eq_true rfl⟩ rfl rfl hZ hK hw g2 (by decide) rfl rfl hl.1 rfl (Nat.le_of_ble_eq_true rfl) ⟨Nat.zero_le _, Nat.zero_le _⟩ dX7_sideOf_107 (fun H locs hw => ?_)
    exact r_iret hx hb hr rfl hlocks hZ hK hw h dX7_sideOf_110
  have hb18 : ∀ (M : Mm) (x0 : Nat), f_X7_sideOf_b18 M x0 = some res → ∀ (H : Heap) (locs : List Loc) (ls : Array Slot), Wd D cy shM ad nM (Aw ad nM) s.heap M H locs → lv_has ls 3 [(0, .ref (ad x0))] → W p l e (headSpec (wU yX7_sideOf cX7_sideOf 3 (some .int)) rmX7_sideOf).room s m args below meth c H locs 0 0 (QI D cy shM ad nM adK adV below args s res) (F0 m 18 ls []) := by
    intro M x0 h H locs ls hw hl
    unfold f_X7_sideOf_b18 at h
    refine lv_aload_n hx hb dX7_sideOf_18 rfl (lv_at hl 0 rfl) ?_
    refine lv_iconst (v := (0 : Int32)) hx hb dX7_sideOf_19 (by decide) ?_
    replace h := gd_some h
    obtain ⟨g4, h⟩ := h
    replace h := bd_some h
    obtain ⟨r3, er3, h⟩ := h
    refine r_callVi (As := [.int (0 : Int32)]) (rest := []) hF (c_X7_finding l D cy ad adK adV M x0 (0 : Int32) r3 er3) (gW_goodV hcm qw989 qw986 qw988 qw18 qw67) hdX7_finding rfl ⟨Nat.le_of_ble_eq_true rfl, Nat.le_of_ble_eq_true rfl⟩ rfl rfl hZ hK hw g4 (by decide) rfl rfl hl.1 rfl (Nat.le_of_ble_eq_true rfl) ⟨Nat.zero_le _, Nat.zero_le _⟩ dX7_sideOf_20 (fun H locs hw => ?_)
    exact r_iret hx hb hr rfl hlocks hZ hK hw h dX7_sideOf_23
  unfold f_X7_sideOf at h
  refine lv_aload_n hx hb dX7_sideOf_0 rfl (lv_at hl 0 rfl) ?_
  refine lv_iload_n hx hb dX7_sideOf_1 rfl (lv_at hl 1 rfl) ?_
  replace h := gd_some h
  obtain ⟨g6, h⟩ := h
  replace h := bd_some h
  obtain ⟨r5, er5, h⟩ := h
  refine r_callVi (As := [.int a1]) (rest := []) hF (c_X7_isSide l D cy ad adK adV M o0 a1 r5 er5) (gW_goodV hcm qw1002 qw999 qw1001 qw20 qw67) hdX7_isSide rfl ⟨Nat.le_of_ble_eq_true rfl, Nat.le_of_ble_eq_true rfl⟩ rfl rfl hZ hK hw g6 (by decide) rfl rfl hl.1 rfl (Nat.le_of_ble_eq_true rfl) ⟨Nat.zero_le _, Nat.zero_le _⟩ dX7_sideOf_2 (fun H locs hw => ?_)
  refine lv_if_eq (tgt := 18) hx hb dX7_sideOf_5 (by decide) (fun c7 => ?_) (fun c7 => ?_)
  · replace h := if_some_t c7 h
    exact hb18 _ _ h _ _ _ hw (lv_sub hl [0] rfl)
  · replace h := if_some_f c7 h
    refine lv_iload_n hx hb dX7_sideOf_8 rfl (lv_at hl 2 rfl) ?_
    refine lv_iconst (v := (0 : Int32)) hx hb dX7_sideOf_9 (by decide) ?_
    refine lv_bipush (v := (7 : Int32)) hx hb dX7_sideOf_10 (by decide) ?_
    replace h := bd_some h
    obtain ⟨r8, er8, h⟩ := h
    refine r_callSi (As := [.int a2, .int (0 : Int32), .int (7 : Int32)]) (rest := []) hF (c_X7_in l D cy ad adK adV r5.1 a2 (0 : Int32) (7 : Int32) r8 er8) (gW_goodS hcm qw985 qw983 qw984 qw67) hdX7_in ⟨Nat.le_of_ble_eq_true rfl, Nat.le_of_ble_eq_true rfl⟩ rfl rfl hZ hK hw rfl hl.1 rfl (Nat.le_of_ble_eq_true rfl) ⟨Nat.zero_le _, Nat.zero_le _⟩ dX7_sideOf_12 (fun H locs hw => ?_)
    refine lv_if_ne (tgt := 24) hx hb dX7_sideOf_15 (by decide) (fun c9 => ?_) (fun c9 => ?_)
    · replace h := if_some_f c9 h
      refine lv_iload_n hx hb dX7_sideOf_24 rfl (lv_at hl 2 rfl) ?_
      by_cases s10 : a2 = 3
      · replace h := if_some_t s10 h
        refine lv_tableIn (off := 35) (tgt := 60) hx hb dX7_sideOf_25 (by rw [s10]; decide) (by rw [s10]; decide) (by rw [s10]; decide) (by decide) ?_
        refine lv_aload_n hx hb dX7_sideOf_60 rfl (lv_at hl 0 rfl) ?_
        refine lv_iload_n hx hb dX7_sideOf_61 rfl (lv_at hl 1 rfl) ?_
        replace h := bd_some h
        obtain ⟨r11, er11, h⟩ := h
        refine r_callVi (As := [.int a1]) (rest := []) hF (c_X7_points l D cy ad adK adV r8.1 o0 a1 r11 er11) (gW_goodV hcm qw1006 qw1003 qw1005 qw21 qw67) hdX7_points rfl ⟨Nat.le_of_ble_eq_true rfl, Nat.le_of_ble_eq_true rfl⟩ rfl rfl hZ hK hw g6 (by decide) rfl rfl hl.1 rfl (Nat.le_of_ble_eq_true rfl) ⟨Nat.zero_le _, Nat.zero_le _⟩ dX7_sideOf_62 (fun H locs hw => ?_)
        exact r_iret hx hb hr rfl hlocks hZ hK hw h dX7_sideOf_65
      replace h := if_some_f s10 h
      by_cases s12 : a2 = 4
      · replace h := if_some_t s12 h
        refine lv_tableIn (off := 41) (tgt := 66) hx hb dX7_sideOf_25 (by rw [s12]; decide) (by rw [s12]; decide) (by rw [s12]; decide) (by decide) ?_
        refine lv_aload_n hx hb dX7_sideOf_66 rfl (lv_at hl 0 rfl) ?_
        refine lv_iload_n hx hb dX7_sideOf_67 rfl (lv_at hl 1 rfl) ?_
        replace h := bd_some h
        obtain ⟨r13, er13, h⟩ := h
        refine r_callVi (As := [.int a1]) (rest := []) hF (c_X7_isBarred l D cy ad adK adV r8.1 o0 a1 r13 er13) (gW_goodV hcm qw1014 qw1011 qw1013 qw23 qw67) hdX7_isBarred rfl ⟨Nat.le_of_ble_eq_true rfl, Nat.le_of_ble_eq_true rfl⟩ rfl rfl hZ hK hw g6 (by decide) rfl rfl hl.1 rfl (Nat.le_of_ble_eq_true rfl) ⟨Nat.zero_le _, Nat.zero_le _⟩ dX7_sideOf_68 (fun H locs hw => ?_)
        refine lv_if_eq (tgt := 78) hx hb dX7_sideOf_71 (by decide) (fun c14 => ?_) (fun c14 => ?_)
        · replace h := if_some_t c14 h
          refine lv_iconst (v := (0 : Int32)) hx hb dX7_sideOf_78 (by decide) ?_
          exact r_iret hx hb hr rfl hlocks hZ hK hw h dX7_sideOf_79
        · replace h := if_some_f c14 h
          refine lv_iconst (v := (1 : Int32)) hx hb dX7_sideOf_74 (by decide) ?_
          refine lv_goto (tgt := 79) hx hb dX7_sideOf_75 (by decide) ?_
          exact r_iret hx hb hr rfl hlocks hZ hK hw h dX7_sideOf_79
      replace h := if_some_f s12 h
      by_cases s15 : a2 = 5
      · replace h := if_some_t s15 h
        refine lv_tableIn (off := 55) (tgt := 80) hx hb dX7_sideOf_25 (by rw [s15]; decide) (by rw [s15]; decide) (by rw [s15]; decide) (by decide) ?_
        refine lv_aload_n hx hb dX7_sideOf_80 rfl (lv_at hl 0 rfl) ?_
        refine lv_iload_n hx hb dX7_sideOf_81 rfl (lv_at hl 1 rfl) ?_
        replace h := bd_some h
        obtain ⟨r16, er16, h⟩ := h
        refine r_callVi (As := [.int a1]) (rest := []) hF (c_X7_isTired l D cy ad adK adV r8.1 o0 a1 r16 er16) (gW_goodV hcm qw1022 qw1019 qw1021 qw25 qw67) hdX7_isTired rfl ⟨Nat.le_of_ble_eq_true rfl, Nat.le_of_ble_eq_true rfl⟩ rfl rfl hZ hK hw g6 (by decide) rfl rfl hl.1 rfl (Nat.le_of_ble_eq_true rfl) ⟨Nat.zero_le _, Nat.zero_le _⟩ dX7_sideOf_82 (fun H locs hw => ?_)
        refine lv_if_eq (tgt := 92) hx hb dX7_sideOf_85 (by decide) (fun c17 => ?_) (fun c17 => ?_)
        · replace h := if_some_t c17 h
          refine lv_iconst (v := (0 : Int32)) hx hb dX7_sideOf_92 (by decide) ?_
          exact r_iret hx hb hr rfl hlocks hZ hK hw h dX7_sideOf_93
        · replace h := if_some_f c17 h
          refine lv_iconst (v := (1 : Int32)) hx hb dX7_sideOf_88 (by decide) ?_
          refine lv_goto (tgt := 93) hx hb dX7_sideOf_89 (by decide) ?_
          exact r_iret hx hb hr rfl hlocks hZ hK hw h dX7_sideOf_93
      replace h := if_some_f s15 h
      by_cases s18 : a2 = 6
      · replace h := if_some_t s18 h
        refine lv_tableIn (off := 69) (tgt := 94) hx hb dX7_sideOf_25 (by rw [s18]; decide) (by rw [s18]; decide) (by rw [s18]; decide) (by decide) ?_
        refine lv_aload_n hx hb dX7_sideOf_94 rfl (lv_at hl 0 rfl) ?_
        refine lv_iload_n hx hb dX7_sideOf_95 rfl (lv_at hl 1 rfl) ?_
        refine lv_iload_n hx hb dX7_sideOf_96 rfl (lv_at hl 2 rfl) ?_
        refine lv_bipush (v := (7 : Int32)) hx hb dX7_sideOf_97 (by decide) ?_
        refine lv_icmp_ne (tgt := 106) hx hb dX7_sideOf_99 (by decide) (fun c19 => ?_) (fun c19 => ?_)
        · replace h := if_some_f c19 h
          refine lv_iconst (v := (0 : Int32)) hx hb dX7_sideOf_106 (by decide) ?_
          exact hb107 _ _ _ _ h _ _ _ hw (lv_sub hl [] rfl)
        · replace h := if_some_t c19 h
          refine lv_iconst (v := (1 : Int32)) hx hb dX7_sideOf_102 (by decide) ?_
          refine lv_goto (tgt := 107) hx hb dX7_sideOf_103 (by decide) ?_
          exact hb107 _ _ _ _ h _ _ _ hw (lv_sub hl [] rfl)
      replace h := if_some_f s18 h
      by_cases s20 : a2 = 7
      · replace h := if_some_t s20 h
        refine lv_tableIn (off := 69) (tgt := 94) hx hb dX7_sideOf_25 (by rw [s20]; decide) (by rw [s20]; decide) (by rw [s20]; decide) (by decide) ?_
        refine lv_aload_n hx hb dX7_sideOf_94 rfl (lv_at hl 0 rfl) ?_
        refine lv_iload_n hx hb dX7_sideOf_95 rfl (lv_at hl 1 rfl) ?_
        refine lv_iload_n hx hb dX7_sideOf_96 rfl (lv_at hl 2 rfl) ?_
        refine lv_bipush (v := (7 : Int32)) hx hb dX7_sideOf_97 (by decide) ?_
        refine lv_icmp_ne (tgt := 106) hx hb dX7_sideOf_99 (by decide) (fun c21 => ?_) (fun c21 => ?_)
        · replace h := if_some_f c21 h
          refine lv_iconst (v := (0 : Int32)) hx hb dX7_sideOf_106 (by decide) ?_
          exact hb107 _ _ _ _ h _ _ _ hw (lv_sub hl [] rfl)
        · replace h := if_some_t c21 h
          refine lv_iconst (v := (1 : Int32)) hx hb dX7_sideOf_102 (by decide) ?_
          refine lv_goto (tgt := 107) hx hb dX7_sideOf_103 (by decide) ?_
          exact hb107 _ _ _ _ h _ _ _ hw (lv_sub hl [] rfl)
      replace h := if_some_f s20 h
      have hout23 : a2.toInt < 3 ∨ 7 < a2.toInt := by
        refine tsw_out (fun cz h1 h2 => ?_)
        rcases (show cz = 3 ∨ cz = 4 ∨ cz = 5 ∨ cz = 6 ∨ cz = 7 by omega) with rfl | rfl | rfl | rfl | rfl
        · exact fun e9 => s10 (e9.trans (by decide))
        · exact fun e9 => s12 (e9.trans (by decide))
        · exact fun e9 => s15 (e9.trans (by decide))
        · exact fun e9 => s18 (e9.trans (by decide))
        · exact fun e9 => s20 (e9.trans (by decide))
      refine lv_tableOut (tgt := 111) hx hb dX7_sideOf_25 hout23 (by decide) ?_
      refine lv_aload_n hx hb dX7_sideOf_111 rfl (lv_at hl 0 rfl) ?_
      refine lv_iload_n hx hb dX7_sideOf_112 rfl (lv_at hl 1 rfl) ?_
      refine lv_iload_n hx hb dX7_sideOf_113 rfl (lv_at hl 2 rfl) ?_
      replace h := bd_some h
      obtain ⟨r22, er22, h⟩ := h
      refine r_callVi (As := [.int a1, .int a2]) (rest := []) hF (c_X7_its l D cy ad adK adV r8.1 o0 a1 a2 r22 er22) (gW_goodV hcm qw1030 qw1027 qw1029 qw27 qw67) hdX7_its rfl ⟨Nat.le_of_ble_eq_true rfl, Nat.le_of_ble_eq_true rfl⟩ rfl rfl hZ hK hw g6 (by decide) rfl rfl hl.1 rfl (Nat.le_of_ble_eq_true rfl) ⟨Nat.zero_le _, Nat.zero_le _⟩ dX7_sideOf_114 (fun H locs hw => ?_)
      exact r_iret hx hb hr rfl hlocks hZ hK hw h dX7_sideOf_117
    · replace h := if_some_t c9 h
      exact hb18 _ _ h _ _ _ hw (lv_sub hl [0] rfl)
theorem dX7_change_0 : decode cX7_change 0 = .ok (.aload_n 0, 1) := by decide +kernel
theorem dX7_change_1 : decode cX7_change 1 = .ok (.iload_n 1, 1) := by decide +kernel
theorem dX7_change_2 : decode cX7_change 2 = .ok (.invokevirtual 121, 3) := by decide +kernel
theorem dX7_change_5 : decode cX7_change 5 = .ok (.ifCond .eq 40, 3) := by decide +kernel
theorem dX7_change_8 : decode cX7_change 8 = .ok (.iload_n 2, 1) := by decide +kernel
theorem dX7_change_9 : decode cX7_change 9 = .ok (.iconst 0, 1) := by decide +kernel
theorem dX7_change_10 : decode cX7_change 10 = .ok (.iconst 2, 1) := by decide +kernel
theorem dX7_change_11 : decode cX7_change 11 = .ok (.invokestatic 67, 3) := by decide +kernel
theorem dX7_change_14 : decode cX7_change 14 = .ok (.ifCond .eq 31, 3) := by decide +kernel
theorem dX7_change_17 : decode cX7_change 17 = .ok (.iload_n 3, 1) := by decide +kernel
theorem dX7_change_18 : decode cX7_change 18 = .ok (.iload_n 2, 1) := by decide +kernel
theorem dX7_change_19 : decode cX7_change 19 = .ok (.iconst 1, 1) := by decide +kernel
theorem dX7_change_20 : decode cX7_change 20 = .ok (.if_icmp .ne 7, 3) := by decide +kernel
theorem dX7_change_23 : decode cX7_change 23 = .ok (.iconst 1, 1) := by decide +kernel
theorem dX7_change_24 : decode cX7_change 24 = .ok (.goto 4, 3) := by decide +kernel
theorem dX7_change_27 : decode cX7_change 27 = .ok (.iconst 0, 1) := by decide +kernel
theorem dX7_change_28 : decode cX7_change 28 = .ok (.iload_n 2, 1) := by decide +kernel
theorem dX7_change_29 : decode cX7_change 29 = .ok (.ifCond .ne 8, 3) := by decide +kernel
theorem dX7_change_32 : decode cX7_change 32 = .ok (.bipush 6, 2) := by decide +kernel
theorem dX7_change_34 : decode cX7_change 34 = .ok (.goto 5, 3) := by decide +kernel
theorem dX7_change_37 : decode cX7_change 37 = .ok (.bipush 9, 2) := by decide +kernel
theorem dX7_change_39 : decode cX7_change 39 = .ok (.invokestatic 67, 3) := by decide +kernel
theorem dX7_change_42 : decode cX7_change 42 = .ok (.ifCond .ne 9, 3) := by decide +kernel
theorem dX7_change_45 : decode cX7_change 45 = .ok (.aload_n 0, 1) := by decide +kernel
theorem dX7_change_46 : decode cX7_change 46 = .ok (.iconst 0, 1) := by decide +kernel
theorem dX7_change_47 : decode cX7_change 47 = .ok (.invokevirtual 115, 3) := by decide +kernel
theorem dX7_change_50 : decode cX7_change 50 = .ok (.ireturn, 1) := by decide +kernel
theorem dX7_change_51 : decode cX7_change 51 = .ok (.aload_n 0, 1) := by decide +kernel
theorem dX7_change_52 : decode cX7_change 52 = .ok (.iload_n 1, 1) := by decide +kernel
theorem dX7_change_53 : decode cX7_change 53 = .ok (.iload_n 2, 1) := by decide +kernel
theorem dX7_change_54 : decode cX7_change 54 = .ok (.invokevirtual 89, 3) := by decide +kernel
theorem dX7_change_57 : decode cX7_change 57 = .ok (.istore 4, 2) := by decide +kernel
theorem dX7_change_59 : decode cX7_change 59 = .ok (.aload_n 0, 1) := by decide +kernel
theorem dX7_change_60 : decode cX7_change 60 = .ok (.getfield 7, 3) := by decide +kernel
theorem dX7_change_63 : decode cX7_change 63 = .ok (.iconst 5, 1) := by decide +kernel
theorem dX7_change_64 : decode cX7_change 64 = .ok (.iconst 3, 1) := by decide +kernel
theorem dX7_change_65 : decode cX7_change 65 = .ok (.iload_n 1, 1) := by decide +kernel
theorem dX7_change_66 : decode cX7_change 66 = .ok (.imul, 1) := by decide +kernel
theorem dX7_change_67 : decode cX7_change 67 = .ok (.iadd, 1) := by decide +kernel
theorem dX7_change_68 : decode cX7_change 68 = .ok (.iload_n 2, 1) := by decide +kernel
theorem dX7_change_69 : decode cX7_change 69 = .ok (.iadd, 1) := by decide +kernel
theorem dX7_change_70 : decode cX7_change 70 = .ok (.iload_n 3, 1) := by decide +kernel
theorem dX7_change_71 : decode cX7_change 71 = .ok (.iastore, 1) := by decide +kernel
theorem dX7_change_72 : decode cX7_change 72 = .ok (.iload 4, 2) := by decide +kernel
theorem dX7_change_74 : decode cX7_change 74 = .ok (.ireturn, 1) := by decide +kernel
set_option maxHeartbeats 4000000 in
set_option maxRecDepth 100000 in
theorem c_X7_change (l : Launch) (D : va_G) (cy : Nat → ClassId) (ad adK adV : Nat → Nat) (M : Mm) (o0 : Nat) (a1 : Int32) (a2 : Int32) (a3 : Int32) (res : Mm × Int32) (h : f_X7_change M o0 a1 a2 a3 = some res) : Met l yX7_change (wU yX7_change cX7_change 5 (some .int)) rmX7_change (va_Pc [.ref (ad o0), .int a1, .int a2, .int a3] (Pre D cy shM ad nM adK adV M)) (va_Qi (fun r (M2 : Mm) => r = res.2 ∧ M2 = res.1) (Pre D cy shM ad nM adK adV) (Aw ad nM)) 0 0 (Aw ad nM) := by
  refine Met.ofW (cc := cX7_change) (maxL := 5) (ret := (some .int)) (by decide) rfl ?_
  intro p e s m args below meth c s₁ B hml hv
  obtain ⟨hargs, hPre⟩ := hv
  have hx := B.exec
  have hb := B.bytes
  have hr := B.returns
  have hts := atoms_spec (ws := wU yX7_change cX7_change 5 (some .int)) B.pre
  have hq : ∀ w ∈ gW, w.before args s = true := fun w hw => hts w (List.mem_cons_of_mem _ hw)
  have hcm : ∀ w ∈ gW, w ∈ wU yX7_change cX7_change 5 (some .int) := fun w hw => List.mem_cons_of_mem _ hw
  have hown : s.vm.findClass RX7 = some m.cls := findClass_of_methodNamed B.named
  have hlocks := B.notSynchronized
  have hF : CallFix p m c cX7_change 5 s args (wU yX7_change cX7_change 5 (some .int)) RX7 := ⟨hx, hb, hml, hown, hts⟩
  have hK := hPre.2.1
  have hZ := hPre.2.2.2
  have hw : Wd D cy shM ad nM (Aw ad nM) s.heap M s.heap [] := ⟨hPre.1, hPre.2.2.1, va_S.rf⟩
  have iw7 : ∀ w ∈ u_ws RX7 TX7 30, w ∈ wU yX7_change cX7_change 5 (some .int) := fun w hw => List.mem_cons_of_mem _ (iX7 w hw)
  rw [show entryFrame m args 5 = entryFrame m ([.ref (ad o0), .int a1, .int a2, .int a3] : List Value).toArray 5 from by rw [hargs]]
  have hl := lv_entry ([.ref (ad o0), .int a1, .int a2, .int a3]) (n := 5) (Nat.le_of_ble_eq_true rfl)
  rw [lg_entry_eq]
  generalize (lg_sl ([.ref (ad o0), .int a1, .int a2, .int a3]) ++ List.replicate (5 - (lg_sl ([.ref (ad o0), .int a1, .int a2, .int a3])).length) Slot.unset).toArray = ls at hl ⊢
  have hl : lv_has ls 5 [(0, .ref (ad o0)), (1, .int a1), (2, .int a2), (3, .int a3)] := hl
  have hb45 : ∀ (M : Mm) (x0 : Nat), f_X7_change_b45 M x0 = some res → ∀ (H : Heap) (locs : List Loc) (ls : Array Slot), Wd D cy shM ad nM (Aw ad nM) s.heap M H locs → lv_has ls 5 [(0, .ref (ad x0))] → W p l e (headSpec (wU yX7_change cX7_change 5 (some .int)) rmX7_change).room s m args below meth c H locs 0 0 (QI D cy shM ad nM adK adV below args s res) (F0 m 45 ls []) := by
    intro M x0 h H locs ls hw hl
    unfold f_X7_change_b45 at h
    refine lv_aload_n hx hb dX7_change_45 rfl (lv_at hl 0 rfl) ?_
    refine lv_iconst (v := (0 : Int32)) hx hb dX7_change_46 (by decide) ?_
    replace h := gd_some h
    obtain ⟨g2, h⟩ := h
    replace h := bd_some h
    obtain ⟨r1, er1, h⟩ := h
    refine r_callVi (As := [.int (0 : Int32)]) (rest := []) hF (c_X7_finding l D cy ad adK adV M x0 (0 : Int32) r1 er1) (gW_goodV hcm qw989 qw986 qw988 qw18 qw67) hdX7_finding rfl ⟨Nat.le_of_ble_eq_true rfl, Nat.le_of_ble_eq_true rfl⟩ rfl rfl hZ hK hw g2 (by decide) rfl rfl hl.1 rfl (Nat.le_of_ble_eq_true rfl) ⟨Nat.zero_le _, Nat.zero_le _⟩ dX7_change_47 (fun H locs hw => ?_)
    exact r_iret hx hb hr rfl hlocks hZ hK hw h dX7_change_50
  have hb39 : ∀ (M : Mm) (x0 : Nat) (x1 : Int32) (x2 : Int32) (x3 : Int32) (t0 : Int32) (t1 : Int32) (t2 : Int32), f_X7_change_b39 M x0 x1 x2 x3 t0 t1 t2 = some res → ∀ (H : Heap) (locs : List Loc) (ls : Array Slot), Wd D cy shM ad nM (Aw ad nM) s.heap M H locs → lv_has ls 5 [(0, .ref (ad x0)), (1, .int x1), (2, .int x2), (3, .int x3)] → W p l e (headSpec (wU yX7_change cX7_change 5 (some .int)) rmX7_change).room s m args below meth c H locs 0 0 (QI D cy shM ad nM adK adV below args s res) (F0 m 39 ls [.int t2, .int t1, .int t0]) := by
    intro M x0 x1 x2 x3 t0 t1 t2 h H locs ls hw hl
    unfold f_X7_change_b39 at h
    replace h := bd_some h
    obtain ⟨r3, er3, h⟩ := h
    refine r_callSi (As := [.int t0, .int t1, .int t2]) (rest := []) hF (c_X7_in l D cy ad adK adV M t0 t1 t2 r3 er3) (gW_goodS hcm qw985 qw983 qw984 qw67) hdX7_in ⟨Nat.le_of_ble_eq_true rfl, Nat.le_of_ble_eq_true rfl⟩ rfl rfl hZ hK hw rfl hl.1 rfl (Nat.le_of_ble_eq_true rfl) ⟨Nat.zero_le _, Nat.zero_le _⟩ dX7_change_39 (fun H locs hw => ?_)
    refine lv_if_ne (tgt := 51) hx hb dX7_change_42 (by decide) (fun c4 => ?_) (fun c4 => ?_)
    · replace h := if_some_f c4 h
      refine lv_aload_n hx hb dX7_change_51 rfl (lv_at hl 0 rfl) ?_
      refine lv_iload_n hx hb dX7_change_52 rfl (lv_at hl 1 rfl) ?_
      refine lv_iload_n hx hb dX7_change_53 rfl (lv_at hl 2 rfl) ?_
      replace h := gd_some h
      obtain ⟨g6, h⟩ := h
      replace h := bd_some h
      obtain ⟨r5, er5, h⟩ := h
      refine r_callVi (As := [.int x1, .int x2]) (rest := []) hF (c_X7_its l D cy ad adK adV r3.1 x0 x1 x2 r5 er5) (gW_goodV hcm qw1030 qw1027 qw1029 qw27 qw67) hdX7_its rfl ⟨Nat.le_of_ble_eq_true rfl, Nat.le_of_ble_eq_true rfl⟩ rfl rfl hZ hK hw g6 (by decide) rfl rfl hl.1 rfl (Nat.le_of_ble_eq_true rfl) ⟨Nat.zero_le _, Nat.zero_le _⟩ dX7_change_54 (fun H locs hw => ?_)
      refine lv_istore (lv' := [(4, .int r5.2), (0, .ref (ad x0)), (1, .int x1), (2, .int x2), (3, .int x3)]) hx hb dX7_change_57 hl (by decide) rfl (fun ls hl => ?_)
      refine lv_aload_n hx hb dX7_change_59 rfl (lv_at hl 1 rfl) ?_
      replace h := bd_some h
      obtain ⟨q7, eq7, h⟩ := h
      refine r_getR hx hb hts iw7 hown hK hw x0 0 g6 (by decide) rfl (by decide) rfl (hq _ qw888) (fun _ h9 => h9) dX7_change_60 eq7 ?_
      refine lv_iconst (v := (5 : Int32)) hx hb dX7_change_63 (by decide) ?_
      refine lv_iconst (v := (3 : Int32)) hx hb dX7_change_64 (by decide) ?_
      refine lv_iload_n hx hb dX7_change_65 rfl (lv_at hl 2 rfl) ?_
      refine lv_imul hx hb dX7_change_66 ?_
      refine lv_iadd hx hb dX7_change_67 ?_
      refine lv_iload_n hx hb dX7_change_68 rfl (lv_at hl 3 rfl) ?_
      refine lv_iadd hx hb dX7_change_69 ?_
      refine lv_iload_n hx hb dX7_change_70 rfl (lv_at hl 4 rfl) ?_
      replace h := gd_some h
      obtain ⟨g8, h⟩ := h
      refine r_iast hx hb hK hw q7 g8 dX7_change_71 (fun H locs hw => ?_)
      replace h := lt_some h
      obtain ⟨M9, eM9, h⟩ := h
      rw [← eM9] at hw
      refine lv_iload hx hb dX7_change_72 (lv_at hl 0 rfl) ?_
      exact r_iret hx hb hr rfl hlocks hZ hK hw h dX7_change_74
    · replace h := if_some_t c4 h
      exact hb45 _ _ h _ _ _ hw (lv_sub hl [0] rfl)
  have hb28 : ∀ (M : Mm) (x0 : Nat) (x1 : Int32) (x2 : Int32) (x3 : Int32) (t0 : Int32) (t1 : Int32), f_X7_change_b28 M x0 x1 x2 x3 t0 t1 = some res → ∀ (H : Heap) (locs : List Loc) (ls : Array Slot), Wd D cy shM ad nM (Aw ad nM) s.heap M H locs → lv_has ls 5 [(0, .ref (ad x0)), (1, .int x1), (2, .int x2), (3, .int x3)] → W p l e (headSpec (wU yX7_change cX7_change 5 (some .int)) rmX7_change).room s m args below meth c H locs 0 0 (QI D cy shM ad nM adK adV below args s res) (F0 m 28 ls [.int t1, .int t0]) := by
    intro M x0 x1 x2 x3 t0 t1 h H locs ls hw hl
    unfold f_X7_change_b28 at h
    refine lv_iload_n hx hb dX7_change_28 rfl (lv_at hl 2 rfl) ?_
    refine lv_if_ne (tgt := 37) hx hb dX7_change_29 (by decide) (fun c10 => ?_) (fun c10 => ?_)
    · replace h := if_some_f c10 h
      refine lv_bipush (v := (9 : Int32)) hx hb dX7_change_37 (by decide) ?_
      exact hb39 _ _ _ _ _ _ _ _ h _ _ _ hw (lv_sub hl [0, 1, 2, 3] rfl)
    · replace h := if_some_t c10 h
      refine lv_bipush (v := (6 : Int32)) hx hb dX7_change_32 (by decide) ?_
      refine lv_goto (tgt := 39) hx hb dX7_change_34 (by decide) ?_
      exact hb39 _ _ _ _ _ _ _ _ h _ _ _ hw (lv_sub hl [0, 1, 2, 3] rfl)
  unfold f_X7_change at h
  refine lv_aload_n hx hb dX7_change_0 rfl (lv_at hl 0 rfl) ?_
  refine lv_iload_n hx hb dX7_change_1 rfl (lv_at hl 1 rfl) ?_
  replace h := gd_some h
  obtain ⟨g12, h⟩ := h
  replace h := bd_some h
  obtain ⟨r11, er11, h⟩ := h
  refine r_callVi (As := [.int a1]) (rest := []) hF (c_X7_isSide l D cy ad adK adV M o0 a1 r11 er11) (gW_goodV hcm qw1002 qw999 qw1001 qw20 qw67) hdX7_isSide rfl ⟨Nat.le_of_ble_eq_true rfl, Nat.le_of_ble_eq_true rfl⟩ rfl rfl hZ hK hw g12 (by decide) rfl rfl hl.1 rfl (Nat.le_of_ble_eq_true rfl) ⟨Nat.zero_le _, Nat.zero_le _⟩ dX7_change_2 (fun H locs hw => ?_)
  refine lv_if_eq (tgt := 45) hx hb dX7_change_5 (by decide) (fun c13 => ?_) (fun c13 => ?_)
  · replace h := if_some_t c13 h
    exact hb45 _ _ h _ _ _ hw (lv_sub hl [0] rfl)
  · replace h := if_some_f c13 h
    refine lv_iload_n hx hb dX7_change_8 rfl (lv_at hl 2 rfl) ?_
    refine lv_iconst (v := (0 : Int32)) hx hb dX7_change_9 (by decide) ?_
    refine lv_iconst (v := (2 : Int32)) hx hb dX7_change_10 (by decide) ?_
    replace h := bd_some h
    obtain ⟨r14, er14, h⟩ := h
    refine r_callSi (As := [.int a2, .int (0 : Int32), .int (2 : Int32)]) (rest := []) hF (c_X7_in l D cy ad adK adV r11.1 a2 (0 : Int32) (2 : Int32) r14 er14) (gW_goodS hcm qw985 qw983 qw984 qw67) hdX7_in ⟨Nat.le_of_ble_eq_true rfl, Nat.le_of_ble_eq_true rfl⟩ rfl rfl hZ hK hw rfl hl.1 rfl (Nat.le_of_ble_eq_true rfl) ⟨Nat.zero_le _, Nat.zero_le _⟩ dX7_change_11 (fun H locs hw => ?_)
    refine lv_if_eq (tgt := 45) hx hb dX7_change_14 (by decide) (fun c15 => ?_) (fun c15 => ?_)
    · replace h := if_some_t c15 h
      exact hb45 _ _ h _ _ _ hw (lv_sub hl [0] rfl)
    · replace h := if_some_f c15 h
      refine lv_iload_n hx hb dX7_change_17 rfl (lv_at hl 3 rfl) ?_
      refine lv_iload_n hx hb dX7_change_18 rfl (lv_at hl 2 rfl) ?_
      refine lv_iconst (v := (1 : Int32)) hx hb dX7_change_19 (by decide) ?_
      refine lv_icmp_ne (tgt := 27) hx hb dX7_change_20 (by decide) (fun c16 => ?_) (fun c16 => ?_)
      · replace h := if_some_f c16 h
        refine lv_iconst (v := (0 : Int32)) hx hb dX7_change_27 (by decide) ?_
        exact hb28 _ _ _ _ _ _ _ h _ _ _ hw (lv_sub hl [0, 1, 2, 3] rfl)
      · replace h := if_some_t c16 h
        refine lv_iconst (v := (1 : Int32)) hx hb dX7_change_23 (by decide) ?_
        refine lv_goto (tgt := 28) hx hb dX7_change_24 (by decide) ?_
        exact hb28 _ _ _ _ _ _ _ h _ _ _ hw (lv_sub hl [0, 1, 2, 3] rfl)
theorem dX7_addGame_0 : decode cX7_addGame 0 = .ok (.bipush 23, 2) := by decide +kernel
theorem dX7_addGame_2 : decode cX7_addGame 2 = .ok (.bipush 7, 2) := by decide +kernel
theorem dX7_addGame_4 : decode cX7_addGame 4 = .ok (.aload_n 0, 1) := by decide +kernel
theorem dX7_addGame_5 : decode cX7_addGame 5 = .ok (.getfield 7, 3) := by decide +kernel
theorem dX7_addGame_8 : decode cX7_addGame 8 = .ok (.iconst 1, 1) := by decide +kernel
theorem dX7_addGame_9 : decode cX7_addGame 9 = .ok (.iaload, 1) := by decide +kernel
theorem dX7_addGame_10 : decode cX7_addGame 10 = .ok (.imul, 1) := by decide +kernel
theorem dX7_addGame_11 : decode cX7_addGame 11 = .ok (.iadd, 1) := by decide +kernel
theorem dX7_addGame_12 : decode cX7_addGame 12 = .ok (.istore 4, 2) := by decide +kernel
theorem dX7_addGame_14 : decode cX7_addGame 14 = .ok (.aload_n 0, 1) := by decide +kernel
theorem dX7_addGame_15 : decode cX7_addGame 15 = .ok (.getfield 7, 3) := by decide +kernel
theorem dX7_addGame_18 : decode cX7_addGame 18 = .ok (.iload 4, 2) := by decide +kernel
theorem dX7_addGame_20 : decode cX7_addGame 20 = .ok (.iconst 0, 1) := by decide +kernel
theorem dX7_addGame_21 : decode cX7_addGame 21 = .ok (.iadd, 1) := by decide +kernel
theorem dX7_addGame_22 : decode cX7_addGame 22 = .ok (.iload_n 1, 1) := by decide +kernel
theorem dX7_addGame_23 : decode cX7_addGame 23 = .ok (.iastore, 1) := by decide +kernel
theorem dX7_addGame_24 : decode cX7_addGame 24 = .ok (.aload_n 0, 1) := by decide +kernel
theorem dX7_addGame_25 : decode cX7_addGame 25 = .ok (.getfield 7, 3) := by decide +kernel
theorem dX7_addGame_28 : decode cX7_addGame 28 = .ok (.iload 4, 2) := by decide +kernel
theorem dX7_addGame_30 : decode cX7_addGame 30 = .ok (.iconst 1, 1) := by decide +kernel
theorem dX7_addGame_31 : decode cX7_addGame 31 = .ok (.iadd, 1) := by decide +kernel
theorem dX7_addGame_32 : decode cX7_addGame 32 = .ok (.iload_n 2, 1) := by decide +kernel
theorem dX7_addGame_33 : decode cX7_addGame 33 = .ok (.iastore, 1) := by decide +kernel
theorem dX7_addGame_34 : decode cX7_addGame 34 = .ok (.aload_n 0, 1) := by decide +kernel
theorem dX7_addGame_35 : decode cX7_addGame 35 = .ok (.getfield 7, 3) := by decide +kernel
theorem dX7_addGame_38 : decode cX7_addGame 38 = .ok (.iload 4, 2) := by decide +kernel
theorem dX7_addGame_40 : decode cX7_addGame 40 = .ok (.iconst 2, 1) := by decide +kernel
theorem dX7_addGame_41 : decode cX7_addGame 41 = .ok (.iadd, 1) := by decide +kernel
theorem dX7_addGame_42 : decode cX7_addGame 42 = .ok (.iload_n 3, 1) := by decide +kernel
theorem dX7_addGame_43 : decode cX7_addGame 43 = .ok (.iastore, 1) := by decide +kernel
theorem dX7_addGame_44 : decode cX7_addGame 44 = .ok (.aload_n 0, 1) := by decide +kernel
theorem dX7_addGame_45 : decode cX7_addGame 45 = .ok (.getfield 7, 3) := by decide +kernel
theorem dX7_addGame_48 : decode cX7_addGame 48 = .ok (.iload 4, 2) := by decide +kernel
theorem dX7_addGame_50 : decode cX7_addGame 50 = .ok (.iconst 3, 1) := by decide +kernel
theorem dX7_addGame_51 : decode cX7_addGame 51 = .ok (.iadd, 1) := by decide +kernel
theorem dX7_addGame_52 : decode cX7_addGame 52 = .ok (.iconst 0, 1) := by decide +kernel
theorem dX7_addGame_53 : decode cX7_addGame 53 = .ok (.iastore, 1) := by decide +kernel
theorem dX7_addGame_54 : decode cX7_addGame 54 = .ok (.aload_n 0, 1) := by decide +kernel
theorem dX7_addGame_55 : decode cX7_addGame 55 = .ok (.getfield 7, 3) := by decide +kernel
theorem dX7_addGame_58 : decode cX7_addGame 58 = .ok (.iload 4, 2) := by decide +kernel
theorem dX7_addGame_60 : decode cX7_addGame 60 = .ok (.iconst 4, 1) := by decide +kernel
theorem dX7_addGame_61 : decode cX7_addGame 61 = .ok (.iadd, 1) := by decide +kernel
theorem dX7_addGame_62 : decode cX7_addGame 62 = .ok (.iconst 0, 1) := by decide +kernel
theorem dX7_addGame_63 : decode cX7_addGame 63 = .ok (.iastore, 1) := by decide +kernel
theorem dX7_addGame_64 : decode cX7_addGame 64 = .ok (.aload_n 0, 1) := by decide +kernel
theorem dX7_addGame_65 : decode cX7_addGame 65 = .ok (.getfield 7, 3) := by decide +kernel
theorem dX7_addGame_68 : decode cX7_addGame 68 = .ok (.iload 4, 2) := by decide +kernel
theorem dX7_addGame_70 : decode cX7_addGame 70 = .ok (.iconst 5, 1) := by decide +kernel
theorem dX7_addGame_71 : decode cX7_addGame 71 = .ok (.iadd, 1) := by decide +kernel
theorem dX7_addGame_72 : decode cX7_addGame 72 = .ok (.iconst 0, 1) := by decide +kernel
theorem dX7_addGame_73 : decode cX7_addGame 73 = .ok (.iastore, 1) := by decide +kernel
theorem dX7_addGame_74 : decode cX7_addGame 74 = .ok (.aload_n 0, 1) := by decide +kernel
theorem dX7_addGame_75 : decode cX7_addGame 75 = .ok (.getfield 7, 3) := by decide +kernel
theorem dX7_addGame_78 : decode cX7_addGame 78 = .ok (.iload 4, 2) := by decide +kernel
theorem dX7_addGame_80 : decode cX7_addGame 80 = .ok (.iconst 5, 1) := by decide +kernel
theorem dX7_addGame_81 : decode cX7_addGame 81 = .ok (.iadd, 1) := by decide +kernel
theorem dX7_addGame_82 : decode cX7_addGame 82 = .ok (.iconst 1, 1) := by decide +kernel
theorem dX7_addGame_83 : decode cX7_addGame 83 = .ok (.iadd, 1) := by decide +kernel
theorem dX7_addGame_84 : decode cX7_addGame 84 = .ok (.iconst 0, 1) := by decide +kernel
theorem dX7_addGame_85 : decode cX7_addGame 85 = .ok (.iastore, 1) := by decide +kernel
theorem dX7_addGame_86 : decode cX7_addGame 86 = .ok (.aload_n 0, 1) := by decide +kernel
theorem dX7_addGame_87 : decode cX7_addGame 87 = .ok (.getfield 7, 3) := by decide +kernel
theorem dX7_addGame_90 : decode cX7_addGame 90 = .ok (.iconst 1, 1) := by decide +kernel
theorem dX7_addGame_91 : decode cX7_addGame 91 = .ok (.dup2, 1) := by decide +kernel
theorem dX7_addGame_92 : decode cX7_addGame 92 = .ok (.iaload, 1) := by decide +kernel
theorem dX7_addGame_93 : decode cX7_addGame 93 = .ok (.iconst 1, 1) := by decide +kernel
theorem dX7_addGame_94 : decode cX7_addGame 94 = .ok (.iadd, 1) := by decide +kernel
theorem dX7_addGame_95 : decode cX7_addGame 95 = .ok (.iastore, 1) := by decide +kernel
theorem dX7_addGame_96 : decode cX7_addGame 96 = .ok (.return_, 1) := by decide +kernel
set_option maxHeartbeats 4000000 in
set_option maxRecDepth 100000 in
theorem c_X7_addGame (l : Launch) (D : va_G) (cy : Nat → ClassId) (ad adK adV : Nat → Nat) (M : Mm) (o0 : Nat) (a1 : Int32) (a2 : Int32) (a3 : Int32) (res : Mm × Unit) (h : f_X7_addGame M o0 a1 a2 a3 = some res) : Met l yX7_addGame (wU yX7_addGame cX7_addGame 5 none) rmX7_addGame (va_Pc [.ref (ad o0), .int a1, .int a2, .int a3] (Pre D cy shM ad nM adK adV M)) (va_Qv (fun (M2 : Mm) => M2 = res.1) (Pre D cy shM ad nM adK adV) (Aw ad nM)) 0 0 (Aw ad nM) := by
  refine Met.ofW (cc := cX7_addGame) (maxL := 5) (ret := none) (by decide) rfl ?_
  intro p e s m args below meth c s₁ B hml hv
  obtain ⟨hargs, hPre⟩ := hv
  have hx := B.exec
  have hb := B.bytes
  have hr := B.returns
  have hts := atoms_spec (ws := wU yX7_addGame cX7_addGame 5 none) B.pre
  have hq : ∀ w ∈ gW, w.before args s = true := fun w hw => hts w (List.mem_cons_of_mem _ hw)
  have hcm : ∀ w ∈ gW, w ∈ wU yX7_addGame cX7_addGame 5 none := fun w hw => List.mem_cons_of_mem _ hw
  have hown : s.vm.findClass RX7 = some m.cls := findClass_of_methodNamed B.named
  have hlocks := B.notSynchronized
  have hF : CallFix p m c cX7_addGame 5 s args (wU yX7_addGame cX7_addGame 5 none) RX7 := ⟨hx, hb, hml, hown, hts⟩
  have hK := hPre.2.1
  have hZ := hPre.2.2.2
  have hw : Wd D cy shM ad nM (Aw ad nM) s.heap M s.heap [] := ⟨hPre.1, hPre.2.2.1, va_S.rf⟩
  have iw7 : ∀ w ∈ u_ws RX7 TX7 30, w ∈ wU yX7_addGame cX7_addGame 5 none := fun w hw => List.mem_cons_of_mem _ (iX7 w hw)
  rw [show entryFrame m args 5 = entryFrame m ([.ref (ad o0), .int a1, .int a2, .int a3] : List Value).toArray 5 from by rw [hargs]]
  have hl := lv_entry ([.ref (ad o0), .int a1, .int a2, .int a3]) (n := 5) (Nat.le_of_ble_eq_true rfl)
  rw [lg_entry_eq]
  generalize (lg_sl ([.ref (ad o0), .int a1, .int a2, .int a3]) ++ List.replicate (5 - (lg_sl ([.ref (ad o0), .int a1, .int a2, .int a3])).length) Slot.unset).toArray = ls at hl ⊢
  have hl : lv_has ls 5 [(0, .ref (ad o0)), (1, .int a1), (2, .int a2), (3, .int a3)] := hl
  unfold f_X7_addGame at h
  refine lv_bipush (v := (23 : Int32)) hx hb dX7_addGame_0 (by decide) ?_
  refine lv_bipush (v := (7 : Int32)) hx hb dX7_addGame_2 (by decide) ?_
  refine lv_aload_n hx hb dX7_addGame_4 rfl (lv_at hl 0 rfl) ?_
  replace h := gd_some h
  obtain ⟨g1, h⟩ := h
  replace h := bd_some h
  obtain ⟨q2, eq2, h⟩ := h
  refine r_getR hx hb hts iw7 hown hK hw o0 0 g1 (by decide) rfl (by decide) rfl (hq _ qw888) (fun _ h9 => h9) dX7_addGame_5 eq2 ?_
  refine lv_iconst (v := (1 : Int32)) hx hb dX7_addGame_8 (by decide) ?_
  replace h := gd_some h
  obtain ⟨g3, h⟩ := h
  refine r_iald hx hb hK hw q2 g3 dX7_addGame_9 ?_
  refine lv_imul hx hb dX7_addGame_10 ?_
  refine lv_iadd hx hb dX7_addGame_11 ?_
  refine lv_topi (fun y4 ey4 => ?_)
  replace h := lt_at ey4 h
  refine lv_istore (lv' := [(4, .int y4), (0, .ref (ad o0)), (1, .int a1), (2, .int a2), (3, .int a3)]) hx hb dX7_addGame_12 hl (by decide) rfl (fun ls hl => ?_)
  refine lv_aload_n hx hb dX7_addGame_14 rfl (lv_at hl 1 rfl) ?_
  replace h := bd_some h
  obtain ⟨q5, eq5, h⟩ := h
  refine r_getR hx hb hts iw7 hown hK hw o0 0 g1 (by decide) rfl (by decide) rfl (hq _ qw888) (fun _ h9 => h9) dX7_addGame_15 eq5 ?_
  refine lv_iload hx hb dX7_addGame_18 (lv_at hl 0 rfl) ?_
  refine lv_iconst (v := (0 : Int32)) hx hb dX7_addGame_20 (by decide) ?_
  refine lv_iadd hx hb dX7_addGame_21 ?_
  refine lv_iload_n hx hb dX7_addGame_22 rfl (lv_at hl 2 rfl) ?_
  replace h := gd_some h
  obtain ⟨g6, h⟩ := h
  refine r_iast hx hb hK hw q5 g6 dX7_addGame_23 (fun H locs hw => ?_)
  replace h := lt_some h
  obtain ⟨M7, eM7, h⟩ := h
  rw [← eM7] at hw
  refine lv_aload_n hx hb dX7_addGame_24 rfl (lv_at hl 1 rfl) ?_
  replace h := bd_some h
  obtain ⟨q8, eq8, h⟩ := h
  refine r_getR hx hb hts iw7 hown hK hw o0 0 g1 (by decide) rfl (by decide) rfl (hq _ qw888) (fun _ h9 => h9) dX7_addGame_25 eq8 ?_
  refine lv_iload hx hb dX7_addGame_28 (lv_at hl 0 rfl) ?_
  refine lv_iconst (v := (1 : Int32)) hx hb dX7_addGame_30 (by decide) ?_
  refine lv_iadd hx hb dX7_addGame_31 ?_
  refine lv_iload_n hx hb dX7_addGame_32 rfl (lv_at hl 3 rfl) ?_
  replace h := gd_some h
  obtain ⟨g9, h⟩ := h
  refine r_iast hx hb hK hw q8 g9 dX7_addGame_33 (fun H locs hw => ?_)
  replace h := lt_some h
  obtain ⟨M10, eM10, h⟩ := h
  rw [← eM10] at hw
  refine lv_aload_n hx hb dX7_addGame_34 rfl (lv_at hl 1 rfl) ?_
  replace h := bd_some h
  obtain ⟨q11, eq11, h⟩ := h
  refine r_getR hx hb hts iw7 hown hK hw o0 0 g1 (by decide) rfl (by decide) rfl (hq _ qw888) (fun _ h9 => h9) dX7_addGame_35 eq11 ?_
  refine lv_iload hx hb dX7_addGame_38 (lv_at hl 0 rfl) ?_
  refine lv_iconst (v := (2 : Int32)) hx hb dX7_addGame_40 (by decide) ?_
  refine lv_iadd hx hb dX7_addGame_41 ?_
  refine lv_iload_n hx hb dX7_addGame_42 rfl (lv_at hl 4 rfl) ?_
  replace h := gd_some h
  obtain ⟨g12, h⟩ := h
  refine r_iast hx hb hK hw q11 g12 dX7_addGame_43 (fun H locs hw => ?_)
  replace h := lt_some h
  obtain ⟨M13, eM13, h⟩ := h
  rw [← eM13] at hw
  refine lv_aload_n hx hb dX7_addGame_44 rfl (lv_at hl 1 rfl) ?_
  replace h := bd_some h
  obtain ⟨q14, eq14, h⟩ := h
  refine r_getR hx hb hts iw7 hown hK hw o0 0 g1 (by decide) rfl (by decide) rfl (hq _ qw888) (fun _ h9 => h9) dX7_addGame_45 eq14 ?_
  refine lv_iload hx hb dX7_addGame_48 (lv_at hl 0 rfl) ?_
  refine lv_iconst (v := (3 : Int32)) hx hb dX7_addGame_50 (by decide) ?_
  refine lv_iadd hx hb dX7_addGame_51 ?_
  refine lv_iconst (v := (0 : Int32)) hx hb dX7_addGame_52 (by decide) ?_
  replace h := gd_some h
  obtain ⟨g15, h⟩ := h
  refine r_iast hx hb hK hw q14 g15 dX7_addGame_53 (fun H locs hw => ?_)
  replace h := lt_some h
  obtain ⟨M16, eM16, h⟩ := h
  rw [← eM16] at hw
  refine lv_aload_n hx hb dX7_addGame_54 rfl (lv_at hl 1 rfl) ?_
  replace h := bd_some h
  obtain ⟨q17, eq17, h⟩ := h
  refine r_getR hx hb hts iw7 hown hK hw o0 0 g1 (by decide) rfl (by decide) rfl (hq _ qw888) (fun _ h9 => h9) dX7_addGame_55 eq17 ?_
  refine lv_iload hx hb dX7_addGame_58 (lv_at hl 0 rfl) ?_
  refine lv_iconst (v := (4 : Int32)) hx hb dX7_addGame_60 (by decide) ?_
  refine lv_iadd hx hb dX7_addGame_61 ?_
  refine lv_iconst (v := (0 : Int32)) hx hb dX7_addGame_62 (by decide) ?_
  replace h := gd_some h
  obtain ⟨g18, h⟩ := h
  refine r_iast hx hb hK hw q17 g18 dX7_addGame_63 (fun H locs hw => ?_)
  replace h := lt_some h
  obtain ⟨M19, eM19, h⟩ := h
  rw [← eM19] at hw
  refine lv_aload_n hx hb dX7_addGame_64 rfl (lv_at hl 1 rfl) ?_
  replace h := bd_some h
  obtain ⟨q20, eq20, h⟩ := h
  refine r_getR hx hb hts iw7 hown hK hw o0 0 g1 (by decide) rfl (by decide) rfl (hq _ qw888) (fun _ h9 => h9) dX7_addGame_65 eq20 ?_
  refine lv_iload hx hb dX7_addGame_68 (lv_at hl 0 rfl) ?_
  refine lv_iconst (v := (5 : Int32)) hx hb dX7_addGame_70 (by decide) ?_
  refine lv_iadd hx hb dX7_addGame_71 ?_
  refine lv_iconst (v := (0 : Int32)) hx hb dX7_addGame_72 (by decide) ?_
  replace h := gd_some h
  obtain ⟨g21, h⟩ := h
  refine r_iast hx hb hK hw q20 g21 dX7_addGame_73 (fun H locs hw => ?_)
  replace h := lt_some h
  obtain ⟨M22, eM22, h⟩ := h
  rw [← eM22] at hw
  refine lv_aload_n hx hb dX7_addGame_74 rfl (lv_at hl 1 rfl) ?_
  replace h := bd_some h
  obtain ⟨q23, eq23, h⟩ := h
  refine r_getR hx hb hts iw7 hown hK hw o0 0 g1 (by decide) rfl (by decide) rfl (hq _ qw888) (fun _ h9 => h9) dX7_addGame_75 eq23 ?_
  refine lv_iload hx hb dX7_addGame_78 (lv_at hl 0 rfl) ?_
  refine lv_iconst (v := (5 : Int32)) hx hb dX7_addGame_80 (by decide) ?_
  refine lv_iadd hx hb dX7_addGame_81 ?_
  refine lv_iconst (v := (1 : Int32)) hx hb dX7_addGame_82 (by decide) ?_
  refine lv_iadd hx hb dX7_addGame_83 ?_
  refine lv_iconst (v := (0 : Int32)) hx hb dX7_addGame_84 (by decide) ?_
  replace h := gd_some h
  obtain ⟨g24, h⟩ := h
  refine r_iast hx hb hK hw q23 g24 dX7_addGame_85 (fun H locs hw => ?_)
  replace h := lt_some h
  obtain ⟨M25, eM25, h⟩ := h
  rw [← eM25] at hw
  refine lv_aload_n hx hb dX7_addGame_86 rfl (lv_at hl 1 rfl) ?_
  replace h := bd_some h
  obtain ⟨q26, eq26, h⟩ := h
  refine r_getR hx hb hts iw7 hown hK hw o0 0 g1 (by decide) rfl (by decide) rfl (hq _ qw888) (fun _ h9 => h9) dX7_addGame_87 eq26 ?_
  refine lv_iconst (v := (1 : Int32)) hx hb dX7_addGame_90 (by decide) ?_
  refine lv_dup2_11 hx hb dX7_addGame_91 rfl rfl ?_
  replace h := gd_some h
  obtain ⟨g27, h⟩ := h
  refine r_iald hx hb hK hw q26 g27 dX7_addGame_92 ?_
  refine lv_iconst (v := (1 : Int32)) hx hb dX7_addGame_93 (by decide) ?_
  refine lv_iadd hx hb dX7_addGame_94 ?_
  replace h := gd_some h
  obtain ⟨g28, h⟩ := h
  refine r_iast hx hb hK hw q26 g28 dX7_addGame_95 (fun H locs hw => ?_)
  replace h := lt_some h
  obtain ⟨M29, eM29, h⟩ := h
  rw [← eM29] at hw
  exact r_vret hx hb hr hlocks hZ hK hw h dX7_addGame_96
theorem dX7_game_0 : decode cX7_game 0 = .ok (.aload_n 0, 1) := by decide +kernel
theorem dX7_game_1 : decode cX7_game 1 = .ok (.iload_n 1, 1) := by decide +kernel
theorem dX7_game_2 : decode cX7_game 2 = .ok (.invokevirtual 121, 3) := by decide +kernel
theorem dX7_game_5 : decode cX7_game 5 = .ok (.ifCond .eq 26, 3) := by decide +kernel
theorem dX7_game_8 : decode cX7_game 8 = .ok (.aload_n 0, 1) := by decide +kernel
theorem dX7_game_9 : decode cX7_game 9 = .ok (.iload_n 2, 1) := by decide +kernel
theorem dX7_game_10 : decode cX7_game 10 = .ok (.invokevirtual 121, 3) := by decide +kernel
theorem dX7_game_13 : decode cX7_game 13 = .ok (.ifCond .eq 18, 3) := by decide +kernel
theorem dX7_game_16 : decode cX7_game 16 = .ok (.iload_n 1, 1) := by decide +kernel
theorem dX7_game_17 : decode cX7_game 17 = .ok (.iload_n 2, 1) := by decide +kernel
theorem dX7_game_18 : decode cX7_game 18 = .ok (.if_icmp .eq 13, 3) := by decide +kernel
theorem dX7_game_21 : decode cX7_game 21 = .ok (.iload_n 3, 1) := by decide +kernel
theorem dX7_game_22 : decode cX7_game 22 = .ok (.iconst 1, 1) := by decide +kernel
theorem dX7_game_23 : decode cX7_game 23 = .ok (.bipush 9, 2) := by decide +kernel
theorem dX7_game_25 : decode cX7_game 25 = .ok (.invokestatic 67, 3) := by decide +kernel
theorem dX7_game_28 : decode cX7_game 28 = .ok (.ifCond .ne 9, 3) := by decide +kernel
theorem dX7_game_31 : decode cX7_game 31 = .ok (.aload_n 0, 1) := by decide +kernel
theorem dX7_game_32 : decode cX7_game 32 = .ok (.iconst 0, 1) := by decide +kernel
theorem dX7_game_33 : decode cX7_game 33 = .ok (.invokevirtual 115, 3) := by decide +kernel
theorem dX7_game_36 : decode cX7_game 36 = .ok (.ireturn, 1) := by decide +kernel
theorem dX7_game_37 : decode cX7_game 37 = .ok (.aload_n 0, 1) := by decide +kernel
theorem dX7_game_38 : decode cX7_game 38 = .ok (.getfield 7, 3) := by decide +kernel
theorem dX7_game_41 : decode cX7_game 41 = .ok (.iconst 1, 1) := by decide +kernel
theorem dX7_game_42 : decode cX7_game 42 = .ok (.iaload, 1) := by decide +kernel
theorem dX7_game_43 : decode cX7_game 43 = .ok (.bipush 8, 2) := by decide +kernel
theorem dX7_game_45 : decode cX7_game 45 = .ok (.if_icmp .ne 9, 3) := by decide +kernel
theorem dX7_game_48 : decode cX7_game 48 = .ok (.aload_n 0, 1) := by decide +kernel
theorem dX7_game_49 : decode cX7_game 49 = .ok (.iconst 1, 1) := by decide +kernel
theorem dX7_game_50 : decode cX7_game 50 = .ok (.invokevirtual 115, 3) := by decide +kernel
theorem dX7_game_53 : decode cX7_game 53 = .ok (.ireturn, 1) := by decide +kernel
theorem dX7_game_54 : decode cX7_game 54 = .ok (.aload_n 0, 1) := by decide +kernel
theorem dX7_game_55 : decode cX7_game 55 = .ok (.iload_n 1, 1) := by decide +kernel
theorem dX7_game_56 : decode cX7_game 56 = .ok (.iload_n 2, 1) := by decide +kernel
theorem dX7_game_57 : decode cX7_game 57 = .ok (.iload_n 3, 1) := by decide +kernel
theorem dX7_game_58 : decode cX7_game 58 = .ok (.invokevirtual 128, 3) := by decide +kernel
theorem dX7_game_61 : decode cX7_game 61 = .ok (.aload_n 0, 1) := by decide +kernel
theorem dX7_game_62 : decode cX7_game 62 = .ok (.getfield 7, 3) := by decide +kernel
theorem dX7_game_65 : decode cX7_game 65 = .ok (.iconst 1, 1) := by decide +kernel
theorem dX7_game_66 : decode cX7_game 66 = .ok (.iaload, 1) := by decide +kernel
theorem dX7_game_67 : decode cX7_game 67 = .ok (.iconst 1, 1) := by decide +kernel
theorem dX7_game_68 : decode cX7_game 68 = .ok (.isub, 1) := by decide +kernel
theorem dX7_game_69 : decode cX7_game 69 = .ok (.ireturn, 1) := by decide +kernel
set_option maxHeartbeats 4000000 in
set_option maxRecDepth 100000 in
theorem c_X7_game (l : Launch) (D : va_G) (cy : Nat → ClassId) (ad adK adV : Nat → Nat) (M : Mm) (o0 : Nat) (a1 : Int32) (a2 : Int32) (a3 : Int32) (res : Mm × Int32) (h : f_X7_game M o0 a1 a2 a3 = some res) : Met l yX7_game (wU yX7_game cX7_game 4 (some .int)) rmX7_game (va_Pc [.ref (ad o0), .int a1, .int a2, .int a3] (Pre D cy shM ad nM adK adV M)) (va_Qi (fun r (M2 : Mm) => r = res.2 ∧ M2 = res.1) (Pre D cy shM ad nM adK adV) (Aw ad nM)) 0 0 (Aw ad nM) := by
  refine Met.ofW (cc := cX7_game) (maxL := 4) (ret := (some .int)) (by decide) rfl ?_
  intro p e s m args below meth c s₁ B hml hv
  obtain ⟨hargs, hPre⟩ := hv
  have hx := B.exec
  have hb := B.bytes
  have hr := B.returns
  have hts := atoms_spec (ws := wU yX7_game cX7_game 4 (some .int)) B.pre
  have hq : ∀ w ∈ gW, w.before args s = true := fun w hw => hts w (List.mem_cons_of_mem _ hw)
  have hcm : ∀ w ∈ gW, w ∈ wU yX7_game cX7_game 4 (some .int) := fun w hw => List.mem_cons_of_mem _ hw
  have hown : s.vm.findClass RX7 = some m.cls := findClass_of_methodNamed B.named
  have hlocks := B.notSynchronized
  have hF : CallFix p m c cX7_game 4 s args (wU yX7_game cX7_game 4 (some .int)) RX7 := ⟨hx, hb, hml, hown, hts⟩
  have hK := hPre.2.1
  have hZ := hPre.2.2.2
  have hw : Wd D cy shM ad nM (Aw ad nM) s.heap M s.heap [] := ⟨hPre.1, hPre.2.2.1, va_S.rf⟩
  have iw7 : ∀ w ∈ u_ws RX7 TX7 30, w ∈ wU yX7_game cX7_game 4 (some .int) := fun w hw => List.mem_cons_of_mem _ (iX7 w hw)
  rw [show entryFrame m args 4 = entryFrame m ([.ref (ad o0), .int a1, .int a2, .int a3] : List Value).toArray 4 from by rw [hargs]]
  have hl := lv_entry ([.ref (ad o0), .int a1, .int a2, .int a3]) (n := 4) (Nat.le_of_ble_eq_true rfl)
  rw [lg_entry_eq]
  generalize (lg_sl ([.ref (ad o0), .int a1, .int a2, .int a3]) ++ List.replicate (4 - (lg_sl ([.ref (ad o0), .int a1, .int a2, .int a3])).length) Slot.unset).toArray = ls at hl ⊢
  have hl : lv_has ls 4 [(0, .ref (ad o0)), (1, .int a1), (2, .int a2), (3, .int a3)] := hl
  have hb31 : ∀ (M : Mm) (x0 : Nat), f_X7_game_b31 M x0 = some res → ∀ (H : Heap) (locs : List Loc) (ls : Array Slot), Wd D cy shM ad nM (Aw ad nM) s.heap M H locs → lv_has ls 4 [(0, .ref (ad x0))] → W p l e (headSpec (wU yX7_game cX7_game 4 (some .int)) rmX7_game).room s m args below meth c H locs 0 0 (QI D cy shM ad nM adK adV below args s res) (F0 m 31 ls []) := by
    intro M x0 h H locs ls hw hl
    unfold f_X7_game_b31 at h
    refine lv_aload_n hx hb dX7_game_31 rfl (lv_at hl 0 rfl) ?_
    refine lv_iconst (v := (0 : Int32)) hx hb dX7_game_32 (by decide) ?_
    replace h := gd_some h
    obtain ⟨g2, h⟩ := h
    replace h := bd_some h
    obtain ⟨r1, er1, h⟩ := h
    refine r_callVi (As := [.int (0 : Int32)]) (rest := []) hF (c_X7_finding l D cy ad adK adV M x0 (0 : Int32) r1 er1) (gW_goodV hcm qw989 qw986 qw988 qw18 qw67) hdX7_finding rfl ⟨Nat.le_of_ble_eq_true rfl, Nat.le_of_ble_eq_true rfl⟩ rfl rfl hZ hK hw g2 (by decide) rfl rfl hl.1 rfl (Nat.le_of_ble_eq_true rfl) ⟨Nat.zero_le _, Nat.zero_le _⟩ dX7_game_33 (fun H locs hw => ?_)
    exact r_iret hx hb hr rfl hlocks hZ hK hw h dX7_game_36
  unfold f_X7_game at h
  refine lv_aload_n hx hb dX7_game_0 rfl (lv_at hl 0 rfl) ?_
  refine lv_iload_n hx hb dX7_game_1 rfl (lv_at hl 1 rfl) ?_
  replace h := gd_some h
  obtain ⟨g4, h⟩ := h
  replace h := bd_some h
  obtain ⟨r3, er3, h⟩ := h
  refine r_callVi (As := [.int a1]) (rest := []) hF (c_X7_isSide l D cy ad adK adV M o0 a1 r3 er3) (gW_goodV hcm qw1002 qw999 qw1001 qw20 qw67) hdX7_isSide rfl ⟨Nat.le_of_ble_eq_true rfl, Nat.le_of_ble_eq_true rfl⟩ rfl rfl hZ hK hw g4 (by decide) rfl rfl hl.1 rfl (Nat.le_of_ble_eq_true rfl) ⟨Nat.zero_le _, Nat.zero_le _⟩ dX7_game_2 (fun H locs hw => ?_)
  refine lv_if_eq (tgt := 31) hx hb dX7_game_5 (by decide) (fun c5 => ?_) (fun c5 => ?_)
  · replace h := if_some_t c5 h
    exact hb31 _ _ h _ _ _ hw (lv_sub hl [0] rfl)
  · replace h := if_some_f c5 h
    refine lv_aload_n hx hb dX7_game_8 rfl (lv_at hl 0 rfl) ?_
    refine lv_iload_n hx hb dX7_game_9 rfl (lv_at hl 2 rfl) ?_
    replace h := bd_some h
    obtain ⟨r6, er6, h⟩ := h
    refine r_callVi (As := [.int a2]) (rest := []) hF (c_X7_isSide l D cy ad adK adV r3.1 o0 a2 r6 er6) (gW_goodV hcm qw1002 qw999 qw1001 qw20 qw67) hdX7_isSide rfl ⟨Nat.le_of_ble_eq_true rfl, Nat.le_of_ble_eq_true rfl⟩ rfl rfl hZ hK hw g4 (by decide) rfl rfl hl.1 rfl (Nat.le_of_ble_eq_true rfl) ⟨Nat.zero_le _, Nat.zero_le _⟩ dX7_game_10 (fun H locs hw => ?_)
    refine lv_if_eq (tgt := 31) hx hb dX7_game_13 (by decide) (fun c7 => ?_) (fun c7 => ?_)
    · replace h := if_some_t c7 h
      exact hb31 _ _ h _ _ _ hw (lv_sub hl [0] rfl)
    · replace h := if_some_f c7 h
      refine lv_iload_n hx hb dX7_game_16 rfl (lv_at hl 1 rfl) ?_
      refine lv_iload_n hx hb dX7_game_17 rfl (lv_at hl 2 rfl) ?_
      refine lv_icmp_eq (tgt := 31) hx hb dX7_game_18 (by decide) (fun c8 => ?_) (fun c8 => ?_)
      · replace h := if_some_t c8 h
        exact hb31 _ _ h _ _ _ hw (lv_sub hl [0] rfl)
      · replace h := if_some_f c8 h
        refine lv_iload_n hx hb dX7_game_21 rfl (lv_at hl 3 rfl) ?_
        refine lv_iconst (v := (1 : Int32)) hx hb dX7_game_22 (by decide) ?_
        refine lv_bipush (v := (9 : Int32)) hx hb dX7_game_23 (by decide) ?_
        replace h := bd_some h
        obtain ⟨r9, er9, h⟩ := h
        refine r_callSi (As := [.int a3, .int (1 : Int32), .int (9 : Int32)]) (rest := []) hF (c_X7_in l D cy ad adK adV r6.1 a3 (1 : Int32) (9 : Int32) r9 er9) (gW_goodS hcm qw985 qw983 qw984 qw67) hdX7_in ⟨Nat.le_of_ble_eq_true rfl, Nat.le_of_ble_eq_true rfl⟩ rfl rfl hZ hK hw rfl hl.1 rfl (Nat.le_of_ble_eq_true rfl) ⟨Nat.zero_le _, Nat.zero_le _⟩ dX7_game_25 (fun H locs hw => ?_)
        refine lv_if_ne (tgt := 37) hx hb dX7_game_28 (by decide) (fun c10 => ?_) (fun c10 => ?_)
        · replace h := if_some_f c10 h
          refine lv_aload_n hx hb dX7_game_37 rfl (lv_at hl 0 rfl) ?_
          replace h := bd_some h
          obtain ⟨q11, eq11, h⟩ := h
          refine r_getR hx hb hts iw7 hown hK hw o0 0 g4 (by decide) rfl (by decide) rfl (hq _ qw888) (fun _ h9 => h9) dX7_game_38 eq11 ?_
          refine lv_iconst (v := (1 : Int32)) hx hb dX7_game_41 (by decide) ?_
          replace h := gd_some h
          obtain ⟨g12, h⟩ := h
          refine r_iald hx hb hK hw q11 g12 dX7_game_42 ?_
          refine lv_bipush (v := (8 : Int32)) hx hb dX7_game_43 (by decide) ?_
          refine lv_icmp_ne (tgt := 54) hx hb dX7_game_45 (by decide) (fun c13 => ?_) (fun c13 => ?_)
          · replace h := if_some_f c13 h
            refine lv_aload_n hx hb dX7_game_54 rfl (lv_at hl 0 rfl) ?_
            refine lv_iload_n hx hb dX7_game_55 rfl (lv_at hl 1 rfl) ?_
            refine lv_iload_n hx hb dX7_game_56 rfl (lv_at hl 2 rfl) ?_
            refine lv_iload_n hx hb dX7_game_57 rfl (lv_at hl 3 rfl) ?_
            replace h := bd_some h
            obtain ⟨r14, er14, h⟩ := h
            refine r_callVv (As := [.int a1, .int a2, .int a3]) (rest := []) hF (c_X7_addGame l D cy ad adK adV r9.1 o0 a1 a2 a3 r14 er14) (gW_goodV hcm qw1042 qw1039 qw1041 qw28 qw67) hdX7_addGame rfl ⟨Nat.le_of_ble_eq_true rfl, Nat.le_of_ble_eq_true rfl⟩ rfl rfl hZ hK hw g4 (by decide) rfl rfl hl.1 rfl (Nat.le_of_ble_eq_true rfl) ⟨Nat.zero_le _, Nat.zero_le _⟩ dX7_game_58 (fun H locs hw => ?_)
            refine lv_aload_n hx hb dX7_game_61 rfl (lv_at hl 0 rfl) ?_
            replace h := bd_some h
            obtain ⟨q15, eq15, h⟩ := h
            refine r_getR hx hb hts iw7 hown hK hw o0 0 g4 (by decide) rfl (by decide) rfl (hq _ qw888) (fun _ h9 => h9) dX7_game_62 eq15 ?_
            refine lv_iconst (v := (1 : Int32)) hx hb dX7_game_65 (by decide) ?_
            replace h := gd_some h
            obtain ⟨g16, h⟩ := h
            refine r_iald hx hb hK hw q15 g16 dX7_game_66 ?_
            refine lv_iconst (v := (1 : Int32)) hx hb dX7_game_67 (by decide) ?_
            refine lv_isub hx hb dX7_game_68 ?_
            exact r_iret hx hb hr rfl hlocks hZ hK hw h dX7_game_69
          · replace h := if_some_t c13 h
            refine lv_aload_n hx hb dX7_game_48 rfl (lv_at hl 0 rfl) ?_
            refine lv_iconst (v := (1 : Int32)) hx hb dX7_game_49 (by decide) ?_
            replace h := bd_some h
            obtain ⟨r17, er17, h⟩ := h
            refine r_callVi (As := [.int (1 : Int32)]) (rest := []) hF (c_X7_finding l D cy ad adK adV r9.1 o0 (1 : Int32) r17 er17) (gW_goodV hcm qw989 qw986 qw988 qw18 qw67) hdX7_finding rfl ⟨Nat.le_of_ble_eq_true rfl, Nat.le_of_ble_eq_true rfl⟩ rfl rfl hZ hK hw g4 (by decide) rfl rfl hl.1 rfl (Nat.le_of_ble_eq_true rfl) ⟨Nat.zero_le _, Nat.zero_le _⟩ dX7_game_50 (fun H locs hw => ?_)
            exact r_iret hx hb hr rfl hlocks hZ hK hw h dX7_game_53
        · replace h := if_some_t c10 h
          exact hb31 _ _ h _ _ _ hw (lv_sub hl [0] rfl)
theorem dX7_gameOf_0 : decode cX7_gameOf 0 = .ok (.aload_n 0, 1) := by decide +kernel
theorem dX7_gameOf_1 : decode cX7_gameOf 1 = .ok (.iload_n 1, 1) := by decide +kernel
theorem dX7_gameOf_2 : decode cX7_gameOf 2 = .ok (.invokevirtual 131, 3) := by decide +kernel
theorem dX7_gameOf_5 : decode cX7_gameOf 5 = .ok (.ifCond .eq 12, 3) := by decide +kernel
theorem dX7_gameOf_8 : decode cX7_gameOf 8 = .ok (.iload_n 2, 1) := by decide +kernel
theorem dX7_gameOf_9 : decode cX7_gameOf 9 = .ok (.iconst 0, 1) := by decide +kernel
theorem dX7_gameOf_10 : decode cX7_gameOf 10 = .ok (.iconst 4, 1) := by decide +kernel
theorem dX7_gameOf_11 : decode cX7_gameOf 11 = .ok (.invokestatic 67, 3) := by decide +kernel
theorem dX7_gameOf_14 : decode cX7_gameOf 14 = .ok (.ifCond .ne 9, 3) := by decide +kernel
theorem dX7_gameOf_17 : decode cX7_gameOf 17 = .ok (.aload_n 0, 1) := by decide +kernel
theorem dX7_gameOf_18 : decode cX7_gameOf 18 = .ok (.iconst 0, 1) := by decide +kernel
theorem dX7_gameOf_19 : decode cX7_gameOf 19 = .ok (.invokevirtual 115, 3) := by decide +kernel
theorem dX7_gameOf_22 : decode cX7_gameOf 22 = .ok (.ireturn, 1) := by decide +kernel
theorem dX7_gameOf_23 : decode cX7_gameOf 23 = .ok (.iload_n 2, 1) := by decide +kernel
theorem dX7_gameOf_24 : decode cX7_gameOf 24 = .ok (.iconst 2, 1) := by decide +kernel
theorem dX7_gameOf_25 : decode cX7_gameOf 25 = .ok (.if_icmp .le 21, 3) := by decide +kernel
theorem dX7_gameOf_28 : decode cX7_gameOf 28 = .ok (.iload_n 1, 1) := by decide +kernel
theorem dX7_gameOf_29 : decode cX7_gameOf 29 = .ok (.aload_n 0, 1) := by decide +kernel
theorem dX7_gameOf_30 : decode cX7_gameOf 30 = .ok (.getfield 7, 3) := by decide +kernel
theorem dX7_gameOf_33 : decode cX7_gameOf 33 = .ok (.iconst 2, 1) := by decide +kernel
theorem dX7_gameOf_34 : decode cX7_gameOf 34 = .ok (.iaload, 1) := by decide +kernel
theorem dX7_gameOf_35 : decode cX7_gameOf 35 = .ok (.if_icmp .lt 11, 3) := by decide +kernel
theorem dX7_gameOf_38 : decode cX7_gameOf 38 = .ok (.aload_n 0, 1) := by decide +kernel
theorem dX7_gameOf_39 : decode cX7_gameOf 39 = .ok (.iconst 3, 1) := by decide +kernel
theorem dX7_gameOf_40 : decode cX7_gameOf 40 = .ok (.invokevirtual 115, 3) := by decide +kernel
theorem dX7_gameOf_43 : decode cX7_gameOf 43 = .ok (.goto 9, 3) := by decide +kernel
theorem dX7_gameOf_46 : decode cX7_gameOf 46 = .ok (.aload_n 0, 1) := by decide +kernel
theorem dX7_gameOf_47 : decode cX7_gameOf 47 = .ok (.iload_n 1, 1) := by decide +kernel
theorem dX7_gameOf_48 : decode cX7_gameOf 48 = .ok (.iload_n 2, 1) := by decide +kernel
theorem dX7_gameOf_49 : decode cX7_gameOf 49 = .ok (.invokevirtual 71, 3) := by decide +kernel
theorem dX7_gameOf_52 : decode cX7_gameOf 52 = .ok (.ireturn, 1) := by decide +kernel
set_option maxHeartbeats 4000000 in
set_option maxRecDepth 100000 in
theorem c_X7_gameOf (l : Launch) (D : va_G) (cy : Nat → ClassId) (ad adK adV : Nat → Nat) (M : Mm) (o0 : Nat) (a1 : Int32) (a2 : Int32) (res : Mm × Int32) (h : f_X7_gameOf M o0 a1 a2 = some res) : Met l yX7_gameOf (wU yX7_gameOf cX7_gameOf 3 (some .int)) rmX7_gameOf (va_Pc [.ref (ad o0), .int a1, .int a2] (Pre D cy shM ad nM adK adV M)) (va_Qi (fun r (M2 : Mm) => r = res.2 ∧ M2 = res.1) (Pre D cy shM ad nM adK adV) (Aw ad nM)) 0 0 (Aw ad nM) := by
  refine Met.ofW (cc := cX7_gameOf) (maxL := 3) (ret := (some .int)) (by decide) rfl ?_
  intro p e s m args below meth c s₁ B hml hv
  obtain ⟨hargs, hPre⟩ := hv
  have hx := B.exec
  have hb := B.bytes
  have hr := B.returns
  have hts := atoms_spec (ws := wU yX7_gameOf cX7_gameOf 3 (some .int)) B.pre
  have hq : ∀ w ∈ gW, w.before args s = true := fun w hw => hts w (List.mem_cons_of_mem _ hw)
  have hcm : ∀ w ∈ gW, w ∈ wU yX7_gameOf cX7_gameOf 3 (some .int) := fun w hw => List.mem_cons_of_mem _ hw
  have hown : s.vm.findClass RX7 = some m.cls := findClass_of_methodNamed B.named
  have hlocks := B.notSynchronized
  have hF : CallFix p m c cX7_gameOf 3 s args (wU yX7_gameOf cX7_gameOf 3 (some .int)) RX7 := ⟨hx, hb, hml, hown, hts⟩
  have hK := hPre.2.1
  have hZ := hPre.2.2.2
  have hw : Wd D cy shM ad nM (Aw ad nM) s.heap M s.heap [] := ⟨hPre.1, hPre.2.2.1, va_S.rf⟩
  have iw7 : ∀ w ∈ u_ws RX7 TX7 30, w ∈ wU yX7_gameOf cX7_gameOf 3 (some .int) := fun w hw => List.mem_cons_of_mem _ (iX7 w hw)
  rw [show entryFrame m args 3 = entryFrame m ([.ref (ad o0), .int a1, .int a2] : List Value).toArray 3 from by rw [hargs]]
  have hl := lv_entry ([.ref (ad o0), .int a1, .int a2]) (n := 3) (Nat.le_of_ble_eq_true rfl)
  rw [lg_entry_eq]
  generalize (lg_sl ([.ref (ad o0), .int a1, .int a2]) ++ List.replicate (3 - (lg_sl ([.ref (ad o0), .int a1, .int a2])).length) Slot.unset).toArray = ls at hl ⊢
  have hl : lv_has ls 3 [(0, .ref (ad o0)), (1, .int a1), (2, .int a2)] := hl
  have hb46 : ∀ (M : Mm) (x0 : Nat) (x1 : Int32) (x2 : Int32), f_X7_gameOf_b46 M x0 x1 x2 = some res → ∀ (H : Heap) (locs : List Loc) (ls : Array Slot), Wd D cy shM ad nM (Aw ad nM) s.heap M H locs → lv_has ls 3 [(0, .ref (ad x0)), (1, .int x1), (2, .int x2)] → W p l e (headSpec (wU yX7_gameOf cX7_gameOf 3 (some .int)) rmX7_gameOf).room s m args below meth c H locs 0 0 (QI D cy shM ad nM adK adV below args s res) (F0 m 46 ls []) := by
    intro M x0 x1 x2 h H locs ls hw hl
    unfold f_X7_gameOf_b46 at h
    refine lv_aload_n hx hb dX7_gameOf_46 rfl (lv_at hl 0 rfl) ?_
    refine lv_iload_n hx hb dX7_gameOf_47 rfl (lv_at hl 1 rfl) ?_
    refine lv_iload_n hx hb dX7_gameOf_48 rfl (lv_at hl 2 rfl) ?_
    replace h := gd_some h
    obtain ⟨g2, h⟩ := h
    replace h := bd_some h
    obtain ⟨r1, er1, h⟩ := h
    refine r_callVi (As := [.int x1, .int x2]) (rest := []) hF (c_X7_of l D cy ad adK adV M x0 x1 x2 r1 er1) (gW_goodV hcm qw1010 qw1007 qw1009 qw22 qw67) hdX7_of rfl ⟨Nat.le_of_ble_eq_true rfl, Nat.le_of_ble_eq_true rfl⟩ rfl rfl hZ hK hw g2 (by decide) rfl rfl hl.1 rfl (Nat.le_of_ble_eq_true rfl) ⟨Nat.zero_le _, Nat.zero_le _⟩ dX7_gameOf_49 (fun H locs hw => ?_)
    exact r_iret hx hb hr rfl hlocks hZ hK hw h dX7_gameOf_52
  have hb17 : ∀ (M : Mm) (x0 : Nat), f_X7_gameOf_b17 M x0 = some res → ∀ (H : Heap) (locs : List Loc) (ls : Array Slot), Wd D cy shM ad nM (Aw ad nM) s.heap M H locs → lv_has ls 3 [(0, .ref (ad x0))] → W p l e (headSpec (wU yX7_gameOf cX7_gameOf 3 (some .int)) rmX7_gameOf).room s m args below meth c H locs 0 0 (QI D cy shM ad nM adK adV below args s res) (F0 m 17 ls []) := by
    intro M x0 h H locs ls hw hl
    unfold f_X7_gameOf_b17 at h
    refine lv_aload_n hx hb dX7_gameOf_17 rfl (lv_at hl 0 rfl) ?_
    refine lv_iconst (v := (0 : Int32)) hx hb dX7_gameOf_18 (by decide) ?_
    replace h := gd_some h
    obtain ⟨g4, h⟩ := h
    replace h := bd_some h
    obtain ⟨r3, er3, h⟩ := h
    refine r_callVi (As := [.int (0 : Int32)]) (rest := []) hF (c_X7_finding l D cy ad adK adV M x0 (0 : Int32) r3 er3) (gW_goodV hcm qw989 qw986 qw988 qw18 qw67) hdX7_finding rfl ⟨Nat.le_of_ble_eq_true rfl, Nat.le_of_ble_eq_true rfl⟩ rfl rfl hZ hK hw g4 (by decide) rfl rfl hl.1 rfl (Nat.le_of_ble_eq_true rfl) ⟨Nat.zero_le _, Nat.zero_le _⟩ dX7_gameOf_19 (fun H locs hw => ?_)
    exact r_iret hx hb hr rfl hlocks hZ hK hw h dX7_gameOf_22
  unfold f_X7_gameOf at h
  refine lv_aload_n hx hb dX7_gameOf_0 rfl (lv_at hl 0 rfl) ?_
  refine lv_iload_n hx hb dX7_gameOf_1 rfl (lv_at hl 1 rfl) ?_
  replace h := gd_some h
  obtain ⟨g6, h⟩ := h
  replace h := bd_some h
  obtain ⟨r5, er5, h⟩ := h
  refine r_callVi (As := [.int a1]) (rest := []) hF (c_X7_isGame l D cy ad adK adV M o0 a1 r5 er5) (gW_goodV hcm qw1050 qw1047 qw1049 qw29 qw67) hdX7_isGame rfl ⟨Nat.le_of_ble_eq_true rfl, Nat.le_of_ble_eq_true rfl⟩ rfl rfl hZ hK hw g6 (by decide) rfl rfl hl.1 rfl (Nat.le_of_ble_eq_true rfl) ⟨Nat.zero_le _, Nat.zero_le _⟩ dX7_gameOf_2 (fun H locs hw => ?_)
  refine lv_if_eq (tgt := 17) hx hb dX7_gameOf_5 (by decide) (fun c7 => ?_) (fun c7 => ?_)
  · replace h := if_some_t c7 h
    exact hb17 _ _ h _ _ _ hw (lv_sub hl [0] rfl)
  · replace h := if_some_f c7 h
    refine lv_iload_n hx hb dX7_gameOf_8 rfl (lv_at hl 2 rfl) ?_
    refine lv_iconst (v := (0 : Int32)) hx hb dX7_gameOf_9 (by decide) ?_
    refine lv_iconst (v := (4 : Int32)) hx hb dX7_gameOf_10 (by decide) ?_
    replace h := bd_some h
    obtain ⟨r8, er8, h⟩ := h
    refine r_callSi (As := [.int a2, .int (0 : Int32), .int (4 : Int32)]) (rest := []) hF (c_X7_in l D cy ad adK adV r5.1 a2 (0 : Int32) (4 : Int32) r8 er8) (gW_goodS hcm qw985 qw983 qw984 qw67) hdX7_in ⟨Nat.le_of_ble_eq_true rfl, Nat.le_of_ble_eq_true rfl⟩ rfl rfl hZ hK hw rfl hl.1 rfl (Nat.le_of_ble_eq_true rfl) ⟨Nat.zero_le _, Nat.zero_le _⟩ dX7_gameOf_11 (fun H locs hw => ?_)
    refine lv_if_ne (tgt := 23) hx hb dX7_gameOf_14 (by decide) (fun c9 => ?_) (fun c9 => ?_)
    · replace h := if_some_f c9 h
      refine lv_iload_n hx hb dX7_gameOf_23 rfl (lv_at hl 2 rfl) ?_
      refine lv_iconst (v := (2 : Int32)) hx hb dX7_gameOf_24 (by decide) ?_
      refine lv_icmp_le (tgt := 46) hx hb dX7_gameOf_25 (by decide) (fun c10 => ?_) (fun c10 => ?_)
      · replace h := if_some_t c10 h
        exact hb46 _ _ _ _ h _ _ _ hw (lv_sub hl [0, 1, 2] rfl)
      · replace h := if_some_f c10 h
        refine lv_iload_n hx hb dX7_gameOf_28 rfl (lv_at hl 1 rfl) ?_
        refine lv_aload_n hx hb dX7_gameOf_29 rfl (lv_at hl 0 rfl) ?_
        replace h := bd_some h
        obtain ⟨q11, eq11, h⟩ := h
        refine r_getR hx hb hts iw7 hown hK hw o0 0 g6 (by decide) rfl (by decide) rfl (hq _ qw888) (fun _ h9 => h9) dX7_gameOf_30 eq11 ?_
        refine lv_iconst (v := (2 : Int32)) hx hb dX7_gameOf_33 (by decide) ?_
        replace h := gd_some h
        obtain ⟨g12, h⟩ := h
        refine r_iald hx hb hK hw q11 g12 dX7_gameOf_34 ?_
        refine lv_icmp_lt (tgt := 46) hx hb dX7_gameOf_35 (by decide) (fun c13 => ?_) (fun c13 => ?_)
        · replace h := if_some_t c13 h
          exact hb46 _ _ _ _ h _ _ _ hw (lv_sub hl [0, 1, 2] rfl)
        · replace h := if_some_f c13 h
          refine lv_aload_n hx hb dX7_gameOf_38 rfl (lv_at hl 0 rfl) ?_
          refine lv_iconst (v := (3 : Int32)) hx hb dX7_gameOf_39 (by decide) ?_
          replace h := bd_some h
          obtain ⟨r14, er14, h⟩ := h
          refine r_callVi (As := [.int (3 : Int32)]) (rest := []) hF (c_X7_finding l D cy ad adK adV r8.1 o0 (3 : Int32) r14 er14) (gW_goodV hcm qw989 qw986 qw988 qw18 qw67) hdX7_finding rfl ⟨Nat.le_of_ble_eq_true rfl, Nat.le_of_ble_eq_true rfl⟩ rfl rfl hZ hK hw g6 (by decide) rfl rfl hl.1 rfl (Nat.le_of_ble_eq_true rfl) ⟨Nat.zero_le _, Nat.zero_le _⟩ dX7_gameOf_40 (fun H locs hw => ?_)
          refine lv_goto (tgt := 52) hx hb dX7_gameOf_43 (by decide) ?_
          exact r_iret hx hb hr rfl hlocks hZ hK hw h dX7_gameOf_52
    · replace h := if_some_t c9 h
      exact hb17 _ _ h _ _ _ hw (lv_sub hl [0] rfl)
theorem dX7_swaps_0 : decode cX7_swaps 0 = .ok (.iconst 0, 1) := by decide +kernel
theorem dX7_swaps_1 : decode cX7_swaps 1 = .ok (.istore_n 3, 1) := by decide +kernel
theorem dX7_swaps_2 : decode cX7_swaps 2 = .ok (.iload_n 3, 1) := by decide +kernel
theorem dX7_swaps_3 : decode cX7_swaps 3 = .ok (.bipush 7, 2) := by decide +kernel
theorem dX7_swaps_5 : decode cX7_swaps 5 = .ok (.if_icmp .ge 53, 3) := by decide +kernel
theorem dX7_swaps_8 : decode cX7_swaps 8 = .ok (.aload_n 0, 1) := by decide +kernel
theorem dX7_swaps_9 : decode cX7_swaps 9 = .ok (.iload_n 1, 1) := by decide +kernel
theorem dX7_swaps_10 : decode cX7_swaps 10 = .ok (.iload_n 3, 1) := by decide +kernel
theorem dX7_swaps_11 : decode cX7_swaps 11 = .ok (.invokevirtual 71, 3) := by decide +kernel
theorem dX7_swaps_14 : decode cX7_swaps 14 = .ok (.istore 4, 2) := by decide +kernel
theorem dX7_swaps_16 : decode cX7_swaps 16 = .ok (.aload_n 0, 1) := by decide +kernel
theorem dX7_swaps_17 : decode cX7_swaps 17 = .ok (.getfield 7, 3) := by decide +kernel
theorem dX7_swaps_20 : decode cX7_swaps 20 = .ok (.bipush 23, 2) := by decide +kernel
theorem dX7_swaps_22 : decode cX7_swaps 22 = .ok (.bipush 7, 2) := by decide +kernel
theorem dX7_swaps_24 : decode cX7_swaps 24 = .ok (.iload_n 1, 1) := by decide +kernel
theorem dX7_swaps_25 : decode cX7_swaps 25 = .ok (.imul, 1) := by decide +kernel
theorem dX7_swaps_26 : decode cX7_swaps 26 = .ok (.iadd, 1) := by decide +kernel
theorem dX7_swaps_27 : decode cX7_swaps 27 = .ok (.iload_n 3, 1) := by decide +kernel
theorem dX7_swaps_28 : decode cX7_swaps 28 = .ok (.iadd, 1) := by decide +kernel
theorem dX7_swaps_29 : decode cX7_swaps 29 = .ok (.aload_n 0, 1) := by decide +kernel
theorem dX7_swaps_30 : decode cX7_swaps 30 = .ok (.iload_n 2, 1) := by decide +kernel
theorem dX7_swaps_31 : decode cX7_swaps 31 = .ok (.iload_n 3, 1) := by decide +kernel
theorem dX7_swaps_32 : decode cX7_swaps 32 = .ok (.invokevirtual 71, 3) := by decide +kernel
theorem dX7_swaps_35 : decode cX7_swaps 35 = .ok (.iastore, 1) := by decide +kernel
theorem dX7_swaps_36 : decode cX7_swaps 36 = .ok (.aload_n 0, 1) := by decide +kernel
theorem dX7_swaps_37 : decode cX7_swaps 37 = .ok (.getfield 7, 3) := by decide +kernel
theorem dX7_swaps_40 : decode cX7_swaps 40 = .ok (.bipush 23, 2) := by decide +kernel
theorem dX7_swaps_42 : decode cX7_swaps 42 = .ok (.bipush 7, 2) := by decide +kernel
theorem dX7_swaps_44 : decode cX7_swaps 44 = .ok (.iload_n 2, 1) := by decide +kernel
theorem dX7_swaps_45 : decode cX7_swaps 45 = .ok (.imul, 1) := by decide +kernel
theorem dX7_swaps_46 : decode cX7_swaps 46 = .ok (.iadd, 1) := by decide +kernel
theorem dX7_swaps_47 : decode cX7_swaps 47 = .ok (.iload_n 3, 1) := by decide +kernel
theorem dX7_swaps_48 : decode cX7_swaps 48 = .ok (.iadd, 1) := by decide +kernel
theorem dX7_swaps_49 : decode cX7_swaps 49 = .ok (.iload 4, 2) := by decide +kernel
theorem dX7_swaps_51 : decode cX7_swaps 51 = .ok (.iastore, 1) := by decide +kernel
theorem dX7_swaps_52 : decode cX7_swaps 52 = .ok (.iinc 3 1, 3) := by decide +kernel
theorem dX7_swaps_55 : decode cX7_swaps 55 = .ok (.goto (-53), 3) := by decide +kernel
theorem dX7_swaps_58 : decode cX7_swaps 58 = .ok (.return_, 1) := by decide +kernel
set_option maxHeartbeats 4000000 in
set_option maxRecDepth 100000 in
theorem c_X7_swaps (l : Launch) (D : va_G) (cy : Nat → ClassId) (ad adK adV : Nat → Nat) (M : Mm) (o0 : Nat) (a1 : Int32) (a2 : Int32) (res : Mm × Unit) (h : f_X7_swaps M o0 a1 a2 = some res) : Met l yX7_swaps (wU yX7_swaps cX7_swaps 5 none) rmX7_swaps (va_Pc [.ref (ad o0), .int a1, .int a2] (Pre D cy shM ad nM adK adV M)) (va_Qv (fun (M2 : Mm) => M2 = res.1) (Pre D cy shM ad nM adK adV) (Aw ad nM)) 0 0 (Aw ad nM) := by
  refine Met.ofW (cc := cX7_swaps) (maxL := 5) (ret := none) (by decide) rfl ?_
  intro p e s m args below meth c s₁ B hml hv
  obtain ⟨hargs, hPre⟩ := hv
  have hx := B.exec
  have hb := B.bytes
  have hr := B.returns
  have hts := atoms_spec (ws := wU yX7_swaps cX7_swaps 5 none) B.pre
  have hq : ∀ w ∈ gW, w.before args s = true := fun w hw => hts w (List.mem_cons_of_mem _ hw)
  have hcm : ∀ w ∈ gW, w ∈ wU yX7_swaps cX7_swaps 5 none := fun w hw => List.mem_cons_of_mem _ hw
  have hown : s.vm.findClass RX7 = some m.cls := findClass_of_methodNamed B.named
  have hlocks := B.notSynchronized
  have hF : CallFix p m c cX7_swaps 5 s args (wU yX7_swaps cX7_swaps 5 none) RX7 := ⟨hx, hb, hml, hown, hts⟩
  have hK := hPre.2.1
  have hZ := hPre.2.2.2
  have hw : Wd D cy shM ad nM (Aw ad nM) s.heap M s.heap [] := ⟨hPre.1, hPre.2.2.1, va_S.rf⟩
  have iw7 : ∀ w ∈ u_ws RX7 TX7 30, w ∈ wU yX7_swaps cX7_swaps 5 none := fun w hw => List.mem_cons_of_mem _ (iX7 w hw)
  rw [show entryFrame m args 5 = entryFrame m ([.ref (ad o0), .int a1, .int a2] : List Value).toArray 5 from by rw [hargs]]
  have hl := lv_entry ([.ref (ad o0), .int a1, .int a2]) (n := 5) (Nat.le_of_ble_eq_true rfl)
  rw [lg_entry_eq]
  generalize (lg_sl ([.ref (ad o0), .int a1, .int a2]) ++ List.replicate (5 - (lg_sl ([.ref (ad o0), .int a1, .int a2])).length) Slot.unset).toArray = ls at hl ⊢
  have hl : lv_has ls 5 [(0, .ref (ad o0)), (1, .int a1), (2, .int a2)] := hl
  have hb2 : ∀ (nn : Nat), ∀ (M : Mm) (x0 : Nat) (x1 : Int32) (x2 : Int32) (x3 : Int32), f_X7_swaps_b2 nn M x0 x1 x2 x3 = some res → ∀ (H : Heap) (locs : List Loc) (ls : Array Slot), Wd D cy shM ad nM (Aw ad nM) s.heap M H locs → lv_has ls 5 [(0, .ref (ad x0)), (1, .int x1), (2, .int x2), (3, .int x3)] → W p l e (headSpec (wU yX7_swaps cX7_swaps 5 none) rmX7_swaps).room s m args below meth c H locs 0 0 (QV D cy shM ad nM adK adV below args s res) (F0 m 2 ls []) := by
    intro nn
    induction nn with
    | zero => intro M x0 x1 x2 x3 h; simp [f_X7_swaps_b2] at h
    | succ nn ih =>
      intro M x0 x1 x2 x3 h H locs ls hw hl
      unfold f_X7_swaps_b2 at h
      refine lv_iload_n hx hb dX7_swaps_2 rfl (lv_at hl 3 rfl) ?_
      refine lv_bipush (v := (7 : Int32)) hx hb dX7_swaps_3 (by decide) ?_
      refine lv_icmp_ge (tgt := 58) hx hb dX7_swaps_5 (by decide) (fun c1 => ?_) (fun c1 => ?_)
      · replace h := if_some_t c1 h
        exact r_vret hx hb hr hlocks hZ hK hw h dX7_swaps_58
      · replace h := if_some_f c1 h
        refine lv_aload_n hx hb dX7_swaps_8 rfl (lv_at hl 0 rfl) ?_
        refine lv_iload_n hx hb dX7_swaps_9 rfl (lv_at hl 1 rfl) ?_
        refine lv_iload_n hx hb dX7_swaps_10 rfl (lv_at hl 3 rfl) ?_
        replace h := gd_some h
        obtain ⟨g3, h⟩ := h
        replace h := bd_some h
        obtain ⟨r2, er2, h⟩ := h
        refine r_callVi (As := [.int x1, .int x3]) (rest := []) hF (c_X7_of l D cy ad adK adV M x0 x1 x3 r2 er2) (gW_goodV hcm qw1010 qw1007 qw1009 qw22 qw67) hdX7_of rfl ⟨Nat.le_of_ble_eq_true rfl, Nat.le_of_ble_eq_true rfl⟩ rfl rfl hZ hK hw g3 (by decide) rfl rfl hl.1 rfl (Nat.le_of_ble_eq_true rfl) ⟨Nat.zero_le _, Nat.zero_le _⟩ dX7_swaps_11 (fun H locs hw => ?_)
        refine lv_istore (lv' := [(4, .int r2.2), (0, .ref (ad x0)), (1, .int x1), (2, .int x2), (3, .int x3)]) hx hb dX7_swaps_14 hl (by decide) rfl (fun ls hl => ?_)
        refine lv_aload_n hx hb dX7_swaps_16 rfl (lv_at hl 1 rfl) ?_
        replace h := bd_some h
        obtain ⟨q4, eq4, h⟩ := h
        refine r_getR hx hb hts iw7 hown hK hw x0 0 g3 (by decide) rfl (by decide) rfl (hq _ qw888) (fun _ h9 => h9) dX7_swaps_17 eq4 ?_
        refine lv_bipush (v := (23 : Int32)) hx hb dX7_swaps_20 (by decide) ?_
        refine lv_bipush (v := (7 : Int32)) hx hb dX7_swaps_22 (by decide) ?_
        refine lv_iload_n hx hb dX7_swaps_24 rfl (lv_at hl 2 rfl) ?_
        refine lv_imul hx hb dX7_swaps_25 ?_
        refine lv_iadd hx hb dX7_swaps_26 ?_
        refine lv_iload_n hx hb dX7_swaps_27 rfl (lv_at hl 4 rfl) ?_
        refine lv_iadd hx hb dX7_swaps_28 ?_
        refine lv_aload_n hx hb dX7_swaps_29 rfl (lv_at hl 1 rfl) ?_
        refine lv_iload_n hx hb dX7_swaps_30 rfl (lv_at hl 3 rfl) ?_
        refine lv_iload_n hx hb dX7_swaps_31 rfl (lv_at hl 4 rfl) ?_
        replace h := bd_some h
        obtain ⟨r5, er5, h⟩ := h
        refine r_callVi (As := [.int x2, .int x3]) (rest := [.int (((23 : Int32) + ((7 : Int32) * x1)) + x3), .ref (ad q4)]) hF (c_X7_of l D cy ad adK adV r2.1 x0 x2 x3 r5 er5) (gW_goodV hcm qw1010 qw1007 qw1009 qw22 qw67) hdX7_of rfl ⟨Nat.le_of_ble_eq_true rfl, Nat.le_of_ble_eq_true rfl⟩ rfl rfl hZ hK hw g3 (by decide) rfl rfl hl.1 rfl (Nat.le_of_ble_eq_true rfl) ⟨Nat.zero_le _, Nat.zero_le _⟩ dX7_swaps_32 (fun H locs hw => ?_)
        replace h := gd_some h
        obtain ⟨g6, h⟩ := h
        refine r_iast hx hb hK hw q4 g6 dX7_swaps_35 (fun H locs hw => ?_)
        replace h := lt_some h
        obtain ⟨M7, eM7, h⟩ := h
        rw [← eM7] at hw
        refine lv_aload_n hx hb dX7_swaps_36 rfl (lv_at hl 1 rfl) ?_
        replace h := bd_some h
        obtain ⟨q8, eq8, h⟩ := h
        refine r_getR hx hb hts iw7 hown hK hw x0 0 g3 (by decide) rfl (by decide) rfl (hq _ qw888) (fun _ h9 => h9) dX7_swaps_37 eq8 ?_
        refine lv_bipush (v := (23 : Int32)) hx hb dX7_swaps_40 (by decide) ?_
        refine lv_bipush (v := (7 : Int32)) hx hb dX7_swaps_42 (by decide) ?_
        refine lv_iload_n hx hb dX7_swaps_44 rfl (lv_at hl 3 rfl) ?_
        refine lv_imul hx hb dX7_swaps_45 ?_
        refine lv_iadd hx hb dX7_swaps_46 ?_
        refine lv_iload_n hx hb dX7_swaps_47 rfl (lv_at hl 4 rfl) ?_
        refine lv_iadd hx hb dX7_swaps_48 ?_
        refine lv_iload hx hb dX7_swaps_49 (lv_at hl 0 rfl) ?_
        replace h := gd_some h
        obtain ⟨g9, h⟩ := h
        refine r_iast hx hb hK hw q8 g9 dX7_swaps_51 (fun H locs hw => ?_)
        replace h := lt_some h
        obtain ⟨M10, eM10, h⟩ := h
        rw [← eM10] at hw
        refine lv_iinc (v := x3 + (1 : Int32)) (lv' := [(3, .int (x3 + (1 : Int32))), (4, .int r2.2), (0, .ref (ad x0)), (1, .int x1), (2, .int x2)]) hx hb dX7_swaps_52 hl (k := 4) rfl (congrArg (fun z => x3 + z) (by decide)) (by decide) rfl (fun ls hl => ?_)
        refine lv_goto (tgt := 2) hx hb dX7_swaps_55 (by decide) ?_
        exact ih _ _ _ _ _ h _ _ _ hw (lv_sub hl [2, 3, 4, 0] rfl)
  unfold f_X7_swaps at h
  refine lv_iconst (v := (0 : Int32)) hx hb dX7_swaps_0 (by decide) ?_
  refine lv_istore_n (lv' := [(3, .int (0 : Int32)), (0, .ref (ad o0)), (1, .int a1), (2, .int a2)]) hx hb dX7_swaps_1 rfl hl (by decide) rfl (fun ls hl => ?_)
  exact hb2 1000 _ _ _ _ _ h _ _ _ hw (lv_sub hl [1, 2, 3, 0] rfl)
theorem dX7_swap_0 : decode cX7_swap 0 = .ok (.aload_n 0, 1) := by decide +kernel
theorem dX7_swap_1 : decode cX7_swap 1 = .ok (.iload_n 1, 1) := by decide +kernel
theorem dX7_swap_2 : decode cX7_swap 2 = .ok (.invokevirtual 131, 3) := by decide +kernel
theorem dX7_swap_5 : decode cX7_swap 5 = .ok (.ifCond .eq 11, 3) := by decide +kernel
theorem dX7_swap_8 : decode cX7_swap 8 = .ok (.aload_n 0, 1) := by decide +kernel
theorem dX7_swap_9 : decode cX7_swap 9 = .ok (.iload_n 2, 1) := by decide +kernel
theorem dX7_swap_10 : decode cX7_swap 10 = .ok (.invokevirtual 131, 3) := by decide +kernel
theorem dX7_swap_13 : decode cX7_swap 13 = .ok (.ifCond .ne 9, 3) := by decide +kernel
theorem dX7_swap_16 : decode cX7_swap 16 = .ok (.aload_n 0, 1) := by decide +kernel
theorem dX7_swap_17 : decode cX7_swap 17 = .ok (.iconst 0, 1) := by decide +kernel
theorem dX7_swap_18 : decode cX7_swap 18 = .ok (.invokevirtual 115, 3) := by decide +kernel
theorem dX7_swap_21 : decode cX7_swap 21 = .ok (.ireturn, 1) := by decide +kernel
theorem dX7_swap_22 : decode cX7_swap 22 = .ok (.iload_n 1, 1) := by decide +kernel
theorem dX7_swap_23 : decode cX7_swap 23 = .ok (.aload_n 0, 1) := by decide +kernel
theorem dX7_swap_24 : decode cX7_swap 24 = .ok (.getfield 7, 3) := by decide +kernel
theorem dX7_swap_27 : decode cX7_swap 27 = .ok (.iconst 2, 1) := by decide +kernel
theorem dX7_swap_28 : decode cX7_swap 28 = .ok (.iaload, 1) := by decide +kernel
theorem dX7_swap_29 : decode cX7_swap 29 = .ok (.if_icmp .lt 13, 3) := by decide +kernel
theorem dX7_swap_32 : decode cX7_swap 32 = .ok (.iload_n 2, 1) := by decide +kernel
theorem dX7_swap_33 : decode cX7_swap 33 = .ok (.aload_n 0, 1) := by decide +kernel
theorem dX7_swap_34 : decode cX7_swap 34 = .ok (.getfield 7, 3) := by decide +kernel
theorem dX7_swap_37 : decode cX7_swap 37 = .ok (.iconst 2, 1) := by decide +kernel
theorem dX7_swap_38 : decode cX7_swap 38 = .ok (.iaload, 1) := by decide +kernel
theorem dX7_swap_39 : decode cX7_swap 39 = .ok (.if_icmp .ge 9, 3) := by decide +kernel
theorem dX7_swap_42 : decode cX7_swap 42 = .ok (.aload_n 0, 1) := by decide +kernel
theorem dX7_swap_43 : decode cX7_swap 43 = .ok (.iconst 4, 1) := by decide +kernel
theorem dX7_swap_44 : decode cX7_swap 44 = .ok (.invokevirtual 115, 3) := by decide +kernel
theorem dX7_swap_47 : decode cX7_swap 47 = .ok (.ireturn, 1) := by decide +kernel
theorem dX7_swap_48 : decode cX7_swap 48 = .ok (.aload_n 0, 1) := by decide +kernel
theorem dX7_swap_49 : decode cX7_swap 49 = .ok (.iload_n 1, 1) := by decide +kernel
theorem dX7_swap_50 : decode cX7_swap 50 = .ok (.iload_n 2, 1) := by decide +kernel
theorem dX7_swap_51 : decode cX7_swap 51 = .ok (.invokevirtual 134, 3) := by decide +kernel
theorem dX7_swap_54 : decode cX7_swap 54 = .ok (.iconst 1, 1) := by decide +kernel
theorem dX7_swap_55 : decode cX7_swap 55 = .ok (.ireturn, 1) := by decide +kernel
set_option maxHeartbeats 4000000 in
set_option maxRecDepth 100000 in
theorem c_X7_swap (l : Launch) (D : va_G) (cy : Nat → ClassId) (ad adK adV : Nat → Nat) (M : Mm) (o0 : Nat) (a1 : Int32) (a2 : Int32) (res : Mm × Int32) (h : f_X7_swap M o0 a1 a2 = some res) : Met l yX7_swap (wU yX7_swap cX7_swap 3 (some .int)) rmX7_swap (va_Pc [.ref (ad o0), .int a1, .int a2] (Pre D cy shM ad nM adK adV M)) (va_Qi (fun r (M2 : Mm) => r = res.2 ∧ M2 = res.1) (Pre D cy shM ad nM adK adV) (Aw ad nM)) 0 0 (Aw ad nM) := by
  refine Met.ofW (cc := cX7_swap) (maxL := 3) (ret := (some .int)) (by decide) rfl ?_
  intro p e s m args below meth c s₁ B hml hv
  obtain ⟨hargs, hPre⟩ := hv
  have hx := B.exec
  have hb := B.bytes
  have hr := B.returns
  have hts := atoms_spec (ws := wU yX7_swap cX7_swap 3 (some .int)) B.pre
  have hq : ∀ w ∈ gW, w.before args s = true := fun w hw => hts w (List.mem_cons_of_mem _ hw)
  have hcm : ∀ w ∈ gW, w ∈ wU yX7_swap cX7_swap 3 (some .int) := fun w hw => List.mem_cons_of_mem _ hw
  have hown : s.vm.findClass RX7 = some m.cls := findClass_of_methodNamed B.named
  have hlocks := B.notSynchronized
  have hF : CallFix p m c cX7_swap 3 s args (wU yX7_swap cX7_swap 3 (some .int)) RX7 := ⟨hx, hb, hml, hown, hts⟩
  have hK := hPre.2.1
  have hZ := hPre.2.2.2
  have hw : Wd D cy shM ad nM (Aw ad nM) s.heap M s.heap [] := ⟨hPre.1, hPre.2.2.1, va_S.rf⟩
  have iw7 : ∀ w ∈ u_ws RX7 TX7 30, w ∈ wU yX7_swap cX7_swap 3 (some .int) := fun w hw => List.mem_cons_of_mem _ (iX7 w hw)
  rw [show entryFrame m args 3 = entryFrame m ([.ref (ad o0), .int a1, .int a2] : List Value).toArray 3 from by rw [hargs]]
  have hl := lv_entry ([.ref (ad o0), .int a1, .int a2]) (n := 3) (Nat.le_of_ble_eq_true rfl)
  rw [lg_entry_eq]
  generalize (lg_sl ([.ref (ad o0), .int a1, .int a2]) ++ List.replicate (3 - (lg_sl ([.ref (ad o0), .int a1, .int a2])).length) Slot.unset).toArray = ls at hl ⊢
  have hl : lv_has ls 3 [(0, .ref (ad o0)), (1, .int a1), (2, .int a2)] := hl
  have hb42 : ∀ (M : Mm) (x0 : Nat), f_X7_swap_b42 M x0 = some res → ∀ (H : Heap) (locs : List Loc) (ls : Array Slot), Wd D cy shM ad nM (Aw ad nM) s.heap M H locs → lv_has ls 3 [(0, .ref (ad x0))] → W p l e (headSpec (wU yX7_swap cX7_swap 3 (some .int)) rmX7_swap).room s m args below meth c H locs 0 0 (QI D cy shM ad nM adK adV below args s res) (F0 m 42 ls []) := by
    intro M x0 h H locs ls hw hl
    unfold f_X7_swap_b42 at h
    refine lv_aload_n hx hb dX7_swap_42 rfl (lv_at hl 0 rfl) ?_
    refine lv_iconst (v := (4 : Int32)) hx hb dX7_swap_43 (by decide) ?_
    replace h := gd_some h
    obtain ⟨g2, h⟩ := h
    replace h := bd_some h
    obtain ⟨r1, er1, h⟩ := h
    refine r_callVi (As := [.int (4 : Int32)]) (rest := []) hF (c_X7_finding l D cy ad adK adV M x0 (4 : Int32) r1 er1) (gW_goodV hcm qw989 qw986 qw988 qw18 qw67) hdX7_finding rfl ⟨Nat.le_of_ble_eq_true rfl, Nat.le_of_ble_eq_true rfl⟩ rfl rfl hZ hK hw g2 (by decide) rfl rfl hl.1 rfl (Nat.le_of_ble_eq_true rfl) ⟨Nat.zero_le _, Nat.zero_le _⟩ dX7_swap_44 (fun H locs hw => ?_)
    exact r_iret hx hb hr rfl hlocks hZ hK hw h dX7_swap_47
  have hb16 : ∀ (M : Mm) (x0 : Nat), f_X7_swap_b16 M x0 = some res → ∀ (H : Heap) (locs : List Loc) (ls : Array Slot), Wd D cy shM ad nM (Aw ad nM) s.heap M H locs → lv_has ls 3 [(0, .ref (ad x0))] → W p l e (headSpec (wU yX7_swap cX7_swap 3 (some .int)) rmX7_swap).room s m args below meth c H locs 0 0 (QI D cy shM ad nM adK adV below args s res) (F0 m 16 ls []) := by
    intro M x0 h H locs ls hw hl
    unfold f_X7_swap_b16 at h
    refine lv_aload_n hx hb dX7_swap_16 rfl (lv_at hl 0 rfl) ?_
    refine lv_iconst (v := (0 : Int32)) hx hb dX7_swap_17 (by decide) ?_
    replace h := gd_some h
    obtain ⟨g4, h⟩ := h
    replace h := bd_some h
    obtain ⟨r3, er3, h⟩ := h
    refine r_callVi (As := [.int (0 : Int32)]) (rest := []) hF (c_X7_finding l D cy ad adK adV M x0 (0 : Int32) r3 er3) (gW_goodV hcm qw989 qw986 qw988 qw18 qw67) hdX7_finding rfl ⟨Nat.le_of_ble_eq_true rfl, Nat.le_of_ble_eq_true rfl⟩ rfl rfl hZ hK hw g4 (by decide) rfl rfl hl.1 rfl (Nat.le_of_ble_eq_true rfl) ⟨Nat.zero_le _, Nat.zero_le _⟩ dX7_swap_18 (fun H locs hw => ?_)
    exact r_iret hx hb hr rfl hlocks hZ hK hw h dX7_swap_21
  unfold f_X7_swap at h
  refine lv_aload_n hx hb dX7_swap_0 rfl (lv_at hl 0 rfl) ?_
  refine lv_iload_n hx hb dX7_swap_1 rfl (lv_at hl 1 rfl) ?_
  replace h := gd_some h
  obtain ⟨g6, h⟩ := h
  replace h := bd_some h
  obtain ⟨r5, er5, h⟩ := h
  refine r_callVi (As := [.int a1]) (rest := []) hF (c_X7_isGame l D cy ad adK adV M o0 a1 r5 er5) (gW_goodV hcm qw1050 qw1047 qw1049 qw29 qw67) hdX7_isGame rfl ⟨Nat.le_of_ble_eq_true rfl, Nat.le_of_ble_eq_true rfl⟩ rfl rfl hZ hK hw g6 (by decide) rfl rfl hl.1 rfl (Nat.le_of_ble_eq_true rfl) ⟨Nat.zero_le _, Nat.zero_le _⟩ dX7_swap_2 (fun H locs hw => ?_)
  refine lv_if_eq (tgt := 16) hx hb dX7_swap_5 (by decide) (fun c7 => ?_) (fun c7 => ?_)
  · replace h := if_some_t c7 h
    exact hb16 _ _ h _ _ _ hw (lv_sub hl [0] rfl)
  · replace h := if_some_f c7 h
    refine lv_aload_n hx hb dX7_swap_8 rfl (lv_at hl 0 rfl) ?_
    refine lv_iload_n hx hb dX7_swap_9 rfl (lv_at hl 2 rfl) ?_
    replace h := bd_some h
    obtain ⟨r8, er8, h⟩ := h
    refine r_callVi (As := [.int a2]) (rest := []) hF (c_X7_isGame l D cy ad adK adV r5.1 o0 a2 r8 er8) (gW_goodV hcm qw1050 qw1047 qw1049 qw29 qw67) hdX7_isGame rfl ⟨Nat.le_of_ble_eq_true rfl, Nat.le_of_ble_eq_true rfl⟩ rfl rfl hZ hK hw g6 (by decide) rfl rfl hl.1 rfl (Nat.le_of_ble_eq_true rfl) ⟨Nat.zero_le _, Nat.zero_le _⟩ dX7_swap_10 (fun H locs hw => ?_)
    refine lv_if_ne (tgt := 22) hx hb dX7_swap_13 (by decide) (fun c9 => ?_) (fun c9 => ?_)
    · replace h := if_some_f c9 h
      refine lv_iload_n hx hb dX7_swap_22 rfl (lv_at hl 1 rfl) ?_
      refine lv_aload_n hx hb dX7_swap_23 rfl (lv_at hl 0 rfl) ?_
      replace h := bd_some h
      obtain ⟨q10, eq10, h⟩ := h
      refine r_getR hx hb hts iw7 hown hK hw o0 0 g6 (by decide) rfl (by decide) rfl (hq _ qw888) (fun _ h9 => h9) dX7_swap_24 eq10 ?_
      refine lv_iconst (v := (2 : Int32)) hx hb dX7_swap_27 (by decide) ?_
      replace h := gd_some h
      obtain ⟨g11, h⟩ := h
      refine r_iald hx hb hK hw q10 g11 dX7_swap_28 ?_
      refine lv_icmp_lt (tgt := 42) hx hb dX7_swap_29 (by decide) (fun c12 => ?_) (fun c12 => ?_)
      · replace h := if_some_t c12 h
        exact hb42 _ _ h _ _ _ hw (lv_sub hl [0] rfl)
      · replace h := if_some_f c12 h
        refine lv_iload_n hx hb dX7_swap_32 rfl (lv_at hl 2 rfl) ?_
        refine lv_aload_n hx hb dX7_swap_33 rfl (lv_at hl 0 rfl) ?_
        replace h := bd_some h
        obtain ⟨q13, eq13, h⟩ := h
        refine r_getR hx hb hts iw7 hown hK hw o0 0 g6 (by decide) rfl (by decide) rfl (hq _ qw888) (fun _ h9 => h9) dX7_swap_34 eq13 ?_
        refine lv_iconst (v := (2 : Int32)) hx hb dX7_swap_37 (by decide) ?_
        replace h := gd_some h
        obtain ⟨g14, h⟩ := h
        refine r_iald hx hb hK hw q13 g14 dX7_swap_38 ?_
        refine lv_icmp_ge (tgt := 48) hx hb dX7_swap_39 (by decide) (fun c15 => ?_) (fun c15 => ?_)
        · replace h := if_some_t c15 h
          refine lv_aload_n hx hb dX7_swap_48 rfl (lv_at hl 0 rfl) ?_
          refine lv_iload_n hx hb dX7_swap_49 rfl (lv_at hl 1 rfl) ?_
          refine lv_iload_n hx hb dX7_swap_50 rfl (lv_at hl 2 rfl) ?_
          replace h := bd_some h
          obtain ⟨r16, er16, h⟩ := h
          refine r_callVv (As := [.int a1, .int a2]) (rest := []) hF (c_X7_swaps l D cy ad adK adV r8.1 o0 a1 a2 r16 er16) (gW_goodV hcm qw1058 qw1055 qw1057 qw30 qw67) hdX7_swaps rfl ⟨Nat.le_of_ble_eq_true rfl, Nat.le_of_ble_eq_true rfl⟩ rfl rfl hZ hK hw g6 (by decide) rfl rfl hl.1 rfl (Nat.le_of_ble_eq_true rfl) ⟨Nat.zero_le _, Nat.zero_le _⟩ dX7_swap_51 (fun H locs hw => ?_)
          refine lv_iconst (v := (1 : Int32)) hx hb dX7_swap_54 (by decide) ?_
          exact r_iret hx hb hr rfl hlocks hZ hK hw h dX7_swap_55
        · replace h := if_some_f c15 h
          exact hb42 _ _ h _ _ _ hw (lv_sub hl [0] rfl)
    · replace h := if_some_t c9 h
      exact hb16 _ _ h _ _ _ hw (lv_sub hl [0] rfl)
theorem dX7_law_0 : decode cX7_law 0 = .ok (.iload_n 1, 1) := by decide +kernel
theorem dX7_law_1 : decode cX7_law 1 = .ok (.iconst 1, 1) := by decide +kernel
theorem dX7_law_2 : decode cX7_law 2 = .ok (.iconst 3, 1) := by decide +kernel
theorem dX7_law_3 : decode cX7_law 3 = .ok (.invokestatic 67, 3) := by decide +kernel
theorem dX7_law_6 : decode cX7_law 6 = .ok (.ifCond .ne 9, 3) := by decide +kernel
theorem dX7_law_9 : decode cX7_law 9 = .ok (.aload_n 0, 1) := by decide +kernel
theorem dX7_law_10 : decode cX7_law 10 = .ok (.iconst 0, 1) := by decide +kernel
theorem dX7_law_11 : decode cX7_law 11 = .ok (.invokevirtual 115, 3) := by decide +kernel
theorem dX7_law_14 : decode cX7_law 14 = .ok (.ireturn, 1) := by decide +kernel
theorem dX7_law_15 : decode cX7_law 15 = .ok (.aload_n 0, 1) := by decide +kernel
theorem dX7_law_16 : decode cX7_law 16 = .ok (.getfield 7, 3) := by decide +kernel
theorem dX7_law_19 : decode cX7_law 19 = .ok (.iconst 3, 1) := by decide +kernel
theorem dX7_law_20 : decode cX7_law 20 = .ok (.iaload, 1) := by decide +kernel
theorem dX7_law_21 : decode cX7_law 21 = .ok (.istore_n 2, 1) := by decide +kernel
theorem dX7_law_22 : decode cX7_law 22 = .ok (.aload_n 0, 1) := by decide +kernel
theorem dX7_law_23 : decode cX7_law 23 = .ok (.getfield 7, 3) := by decide +kernel
theorem dX7_law_26 : decode cX7_law 26 = .ok (.iconst 3, 1) := by decide +kernel
theorem dX7_law_27 : decode cX7_law 27 = .ok (.iload_n 1, 1) := by decide +kernel
theorem dX7_law_28 : decode cX7_law 28 = .ok (.iastore, 1) := by decide +kernel
theorem dX7_law_29 : decode cX7_law 29 = .ok (.iload_n 2, 1) := by decide +kernel
theorem dX7_law_30 : decode cX7_law 30 = .ok (.ireturn, 1) := by decide +kernel
set_option maxHeartbeats 4000000 in
set_option maxRecDepth 100000 in
theorem c_X7_law (l : Launch) (D : va_G) (cy : Nat → ClassId) (ad adK adV : Nat → Nat) (M : Mm) (o0 : Nat) (a1 : Int32) (res : Mm × Int32) (h : f_X7_law M o0 a1 = some res) : Met l yX7_law (wU yX7_law cX7_law 3 (some .int)) rmX7_law (va_Pc [.ref (ad o0), .int a1] (Pre D cy shM ad nM adK adV M)) (va_Qi (fun r (M2 : Mm) => r = res.2 ∧ M2 = res.1) (Pre D cy shM ad nM adK adV) (Aw ad nM)) 0 0 (Aw ad nM) := by
  refine Met.ofW (cc := cX7_law) (maxL := 3) (ret := (some .int)) (by decide) rfl ?_
  intro p e s m args below meth c s₁ B hml hv
  obtain ⟨hargs, hPre⟩ := hv
  have hx := B.exec
  have hb := B.bytes
  have hr := B.returns
  have hts := atoms_spec (ws := wU yX7_law cX7_law 3 (some .int)) B.pre
  have hq : ∀ w ∈ gW, w.before args s = true := fun w hw => hts w (List.mem_cons_of_mem _ hw)
  have hcm : ∀ w ∈ gW, w ∈ wU yX7_law cX7_law 3 (some .int) := fun w hw => List.mem_cons_of_mem _ hw
  have hown : s.vm.findClass RX7 = some m.cls := findClass_of_methodNamed B.named
  have hlocks := B.notSynchronized
  have hF : CallFix p m c cX7_law 3 s args (wU yX7_law cX7_law 3 (some .int)) RX7 := ⟨hx, hb, hml, hown, hts⟩
  have hK := hPre.2.1
  have hZ := hPre.2.2.2
  have hw : Wd D cy shM ad nM (Aw ad nM) s.heap M s.heap [] := ⟨hPre.1, hPre.2.2.1, va_S.rf⟩
  have iw7 : ∀ w ∈ u_ws RX7 TX7 30, w ∈ wU yX7_law cX7_law 3 (some .int) := fun w hw => List.mem_cons_of_mem _ (iX7 w hw)
  rw [show entryFrame m args 3 = entryFrame m ([.ref (ad o0), .int a1] : List Value).toArray 3 from by rw [hargs]]
  have hl := lv_entry ([.ref (ad o0), .int a1]) (n := 3) (Nat.le_of_ble_eq_true rfl)
  rw [lg_entry_eq]
  generalize (lg_sl ([.ref (ad o0), .int a1]) ++ List.replicate (3 - (lg_sl ([.ref (ad o0), .int a1])).length) Slot.unset).toArray = ls at hl ⊢
  have hl : lv_has ls 3 [(0, .ref (ad o0)), (1, .int a1)] := hl
  unfold f_X7_law at h
  refine lv_iload_n hx hb dX7_law_0 rfl (lv_at hl 1 rfl) ?_
  refine lv_iconst (v := (1 : Int32)) hx hb dX7_law_1 (by decide) ?_
  refine lv_iconst (v := (3 : Int32)) hx hb dX7_law_2 (by decide) ?_
  replace h := bd_some h
  obtain ⟨r1, er1, h⟩ := h
  refine r_callSi (As := [.int a1, .int (1 : Int32), .int (3 : Int32)]) (rest := []) hF (c_X7_in l D cy ad adK adV M a1 (1 : Int32) (3 : Int32) r1 er1) (gW_goodS hcm qw985 qw983 qw984 qw67) hdX7_in ⟨Nat.le_of_ble_eq_true rfl, Nat.le_of_ble_eq_true rfl⟩ rfl rfl hZ hK hw rfl hl.1 rfl (Nat.le_of_ble_eq_true rfl) ⟨Nat.zero_le _, Nat.zero_le _⟩ dX7_law_3 (fun H locs hw => ?_)
  refine lv_if_ne (tgt := 15) hx hb dX7_law_6 (by decide) (fun c2 => ?_) (fun c2 => ?_)
  · replace h := if_some_f c2 h
    refine lv_aload_n hx hb dX7_law_15 rfl (lv_at hl 0 rfl) ?_
    replace h := gd_some h
    obtain ⟨g3, h⟩ := h
    replace h := bd_some h
    obtain ⟨q4, eq4, h⟩ := h
    refine r_getR hx hb hts iw7 hown hK hw o0 0 g3 (by decide) rfl (by decide) rfl (hq _ qw888) (fun _ h9 => h9) dX7_law_16 eq4 ?_
    refine lv_iconst (v := (3 : Int32)) hx hb dX7_law_19 (by decide) ?_
    replace h := gd_some h
    obtain ⟨g5, h⟩ := h
    refine r_iald hx hb hK hw q4 g5 dX7_law_20 ?_
    refine lv_istore_n (lv' := [(2, .int (r1.1.1 q4 (3 : Int32).toNatClampNeg)), (0, .ref (ad o0)), (1, .int a1)]) hx hb dX7_law_21 rfl hl (by decide) rfl (fun ls hl => ?_)
    refine lv_aload_n hx hb dX7_law_22 rfl (lv_at hl 1 rfl) ?_
    replace h := bd_some h
    obtain ⟨q6, eq6, h⟩ := h
    refine r_getR hx hb hts iw7 hown hK hw o0 0 g3 (by decide) rfl (by decide) rfl (hq _ qw888) (fun _ h9 => h9) dX7_law_23 eq6 ?_
    refine lv_iconst (v := (3 : Int32)) hx hb dX7_law_26 (by decide) ?_
    refine lv_iload_n hx hb dX7_law_27 rfl (lv_at hl 2 rfl) ?_
    replace h := gd_some h
    obtain ⟨g7, h⟩ := h
    refine r_iast hx hb hK hw q6 g7 dX7_law_28 (fun H locs hw => ?_)
    replace h := lt_some h
    obtain ⟨M8, eM8, h⟩ := h
    rw [← eM8] at hw
    refine lv_iload_n hx hb dX7_law_29 rfl (lv_at hl 0 rfl) ?_
    exact r_iret hx hb hr rfl hlocks hZ hK hw h dX7_law_30
  · replace h := if_some_t c2 h
    refine lv_aload_n hx hb dX7_law_9 rfl (lv_at hl 0 rfl) ?_
    refine lv_iconst (v := (0 : Int32)) hx hb dX7_law_10 (by decide) ?_
    replace h := gd_some h
    obtain ⟨g10, h⟩ := h
    replace h := bd_some h
    obtain ⟨r9, er9, h⟩ := h
    refine r_callVi (As := [.int (0 : Int32)]) (rest := []) hF (c_X7_finding l D cy ad adK adV r1.1 o0 (0 : Int32) r9 er9) (gW_goodV hcm qw989 qw986 qw988 qw18 qw67) hdX7_finding rfl ⟨Nat.le_of_ble_eq_true rfl, Nat.le_of_ble_eq_true rfl⟩ rfl rfl hZ hK hw g10 (by decide) rfl rfl hl.1 rfl (Nat.le_of_ble_eq_true rfl) ⟨Nat.zero_le _, Nat.zero_le _⟩ dX7_law_11 (fun H locs hw => ?_)
    exact r_iret hx hb hr rfl hlocks hZ hK hw h dX7_law_14
theorem dX7_feed_0 : decode cX7_feed 0 = .ok (.iload_n 2, 1) := by decide +kernel
theorem dX7_feed_1 : decode cX7_feed 1 = .ok (.iconst 1, 1) := by decide +kernel
theorem dX7_feed_2 : decode cX7_feed 2 = .ok (.iconst 4, 1) := by decide +kernel
theorem dX7_feed_3 : decode cX7_feed 3 = .ok (.invokestatic 67, 3) := by decide +kernel
theorem dX7_feed_6 : decode cX7_feed 6 = .ok (.ifCond .ne 9, 3) := by decide +kernel
theorem dX7_feed_9 : decode cX7_feed 9 = .ok (.aload_n 0, 1) := by decide +kernel
theorem dX7_feed_10 : decode cX7_feed 10 = .ok (.iconst 0, 1) := by decide +kernel
theorem dX7_feed_11 : decode cX7_feed 11 = .ok (.invokevirtual 115, 3) := by decide +kernel
theorem dX7_feed_14 : decode cX7_feed 14 = .ok (.ireturn, 1) := by decide +kernel
theorem dX7_feed_15 : decode cX7_feed 15 = .ok (.aload_n 0, 1) := by decide +kernel
theorem dX7_feed_16 : decode cX7_feed 16 = .ok (.getfield 138, 3) := by decide +kernel
theorem dX7_feed_19 : decode cX7_feed 19 = .ok (.iload_n 2, 1) := by decide +kernel
theorem dX7_feed_20 : decode cX7_feed 20 = .ok (.iadd, 1) := by decide +kernel
theorem dX7_feed_21 : decode cX7_feed 21 = .ok (.bipush 120, 2) := by decide +kernel
theorem dX7_feed_23 : decode cX7_feed 23 = .ok (.if_icmp .le 9, 3) := by decide +kernel
theorem dX7_feed_26 : decode cX7_feed 26 = .ok (.aload_n 0, 1) := by decide +kernel
theorem dX7_feed_27 : decode cX7_feed 27 = .ok (.iconst 1, 1) := by decide +kernel
theorem dX7_feed_28 : decode cX7_feed 28 = .ok (.invokevirtual 115, 3) := by decide +kernel
theorem dX7_feed_31 : decode cX7_feed 31 = .ok (.ireturn, 1) := by decide +kernel
theorem dX7_feed_32 : decode cX7_feed 32 = .ok (.iload_n 2, 1) := by decide +kernel
theorem dX7_feed_33 : decode cX7_feed 33 = .ok (.iconst 1, 1) := by decide +kernel
theorem dX7_feed_34 : decode cX7_feed 34 = .ok (.isub, 1) := by decide +kernel
theorem dX7_feed_35 : decode cX7_feed 35 = .ok (.istore_n 3, 1) := by decide +kernel
theorem dX7_feed_36 : decode cX7_feed 36 = .ok (.iload_n 3, 1) := by decide +kernel
theorem dX7_feed_37 : decode cX7_feed 37 = .ok (.ifCond .lt 38, 3) := by decide +kernel
theorem dX7_feed_40 : decode cX7_feed 40 = .ok (.aload_n 0, 1) := by decide +kernel
theorem dX7_feed_41 : decode cX7_feed 41 = .ok (.getfield 26, 3) := by decide +kernel
theorem dX7_feed_44 : decode cX7_feed 44 = .ok (.aload_n 0, 1) := by decide +kernel
theorem dX7_feed_45 : decode cX7_feed 45 = .ok (.getfield 138, 3) := by decide +kernel
theorem dX7_feed_48 : decode cX7_feed 48 = .ok (.iload_n 1, 1) := by decide +kernel
theorem dX7_feed_49 : decode cX7_feed 49 = .ok (.bipush 8, 2) := by decide +kernel
theorem dX7_feed_51 : decode cX7_feed 51 = .ok (.iload_n 3, 1) := by decide +kernel
theorem dX7_feed_52 : decode cX7_feed 52 = .ok (.imul, 1) := by decide +kernel
theorem dX7_feed_53 : decode cX7_feed 53 = .ok (.ishr, 1) := by decide +kernel
theorem dX7_feed_54 : decode cX7_feed 54 = .ok (.sipush 255, 3) := by decide +kernel
theorem dX7_feed_57 : decode cX7_feed 57 = .ok (.iand, 1) := by decide +kernel
theorem dX7_feed_58 : decode cX7_feed 58 = .ok (.iastore, 1) := by decide +kernel
theorem dX7_feed_59 : decode cX7_feed 59 = .ok (.aload_n 0, 1) := by decide +kernel
theorem dX7_feed_60 : decode cX7_feed 60 = .ok (.dup, 1) := by decide +kernel
theorem dX7_feed_61 : decode cX7_feed 61 = .ok (.getfield 138, 3) := by decide +kernel
theorem dX7_feed_64 : decode cX7_feed 64 = .ok (.iconst 1, 1) := by decide +kernel
theorem dX7_feed_65 : decode cX7_feed 65 = .ok (.iadd, 1) := by decide +kernel
theorem dX7_feed_66 : decode cX7_feed 66 = .ok (.putfield 138, 3) := by decide +kernel
theorem dX7_feed_69 : decode cX7_feed 69 = .ok (.iinc 3 (-1), 3) := by decide +kernel
theorem dX7_feed_72 : decode cX7_feed 72 = .ok (.goto (-36), 3) := by decide +kernel
theorem dX7_feed_75 : decode cX7_feed 75 = .ok (.aload_n 0, 1) := by decide +kernel
theorem dX7_feed_76 : decode cX7_feed 76 = .ok (.getfield 138, 3) := by decide +kernel
theorem dX7_feed_79 : decode cX7_feed 79 = .ok (.ireturn, 1) := by decide +kernel
set_option maxHeartbeats 4000000 in
set_option maxRecDepth 100000 in
theorem c_X7_feed (l : Launch) (D : va_G) (cy : Nat → ClassId) (ad adK adV : Nat → Nat) (M : Mm) (o0 : Nat) (a1 : Int32) (a2 : Int32) (res : Mm × Int32) (h : f_X7_feed M o0 a1 a2 = some res) : Met l yX7_feed (wU yX7_feed cX7_feed 4 (some .int)) rmX7_feed (va_Pc [.ref (ad o0), .int a1, .int a2] (Pre D cy shM ad nM adK adV M)) (va_Qi (fun r (M2 : Mm) => r = res.2 ∧ M2 = res.1) (Pre D cy shM ad nM adK adV) (Aw ad nM)) 0 0 (Aw ad nM) := by
  refine Met.ofW (cc := cX7_feed) (maxL := 4) (ret := (some .int)) (by decide) rfl ?_
  intro p e s m args below meth c s₁ B hml hv
  obtain ⟨hargs, hPre⟩ := hv
  have hx := B.exec
  have hb := B.bytes
  have hr := B.returns
  have hts := atoms_spec (ws := wU yX7_feed cX7_feed 4 (some .int)) B.pre
  have hq : ∀ w ∈ gW, w.before args s = true := fun w hw => hts w (List.mem_cons_of_mem _ hw)
  have hcm : ∀ w ∈ gW, w ∈ wU yX7_feed cX7_feed 4 (some .int) := fun w hw => List.mem_cons_of_mem _ hw
  have hown : s.vm.findClass RX7 = some m.cls := findClass_of_methodNamed B.named
  have hlocks := B.notSynchronized
  have hF : CallFix p m c cX7_feed 4 s args (wU yX7_feed cX7_feed 4 (some .int)) RX7 := ⟨hx, hb, hml, hown, hts⟩
  have hK := hPre.2.1
  have hZ := hPre.2.2.2
  have hw : Wd D cy shM ad nM (Aw ad nM) s.heap M s.heap [] := ⟨hPre.1, hPre.2.2.1, va_S.rf⟩
  have iw7 : ∀ w ∈ u_ws RX7 TX7 30, w ∈ wU yX7_feed cX7_feed 4 (some .int) := fun w hw => List.mem_cons_of_mem _ (iX7 w hw)
  rw [show entryFrame m args 4 = entryFrame m ([.ref (ad o0), .int a1, .int a2] : List Value).toArray 4 from by rw [hargs]]
  have hl := lv_entry ([.ref (ad o0), .int a1, .int a2]) (n := 4) (Nat.le_of_ble_eq_true rfl)
  rw [lg_entry_eq]
  generalize (lg_sl ([.ref (ad o0), .int a1, .int a2]) ++ List.replicate (4 - (lg_sl ([.ref (ad o0), .int a1, .int a2])).length) Slot.unset).toArray = ls at hl ⊢
  have hl : lv_has ls 4 [(0, .ref (ad o0)), (1, .int a1), (2, .int a2)] := hl
  have hb36 : ∀ (nn : Nat), ∀ (M : Mm) (x0 : Nat) (x1 : Int32) (x3 : Int32), f_X7_feed_b36 nn M x0 x1 x3 = some res → ∀ (H : Heap) (locs : List Loc) (ls : Array Slot), Wd D cy shM ad nM (Aw ad nM) s.heap M H locs → lv_has ls 4 [(0, .ref (ad x0)), (1, .int x1), (3, .int x3)] → W p l e (headSpec (wU yX7_feed cX7_feed 4 (some .int)) rmX7_feed).room s m args below meth c H locs 0 0 (QI D cy shM ad nM adK adV below args s res) (F0 m 36 ls []) := by
    intro nn
    induction nn with
    | zero => intro M x0 x1 x3 h; simp [f_X7_feed_b36] at h
    | succ nn ih =>
      intro M x0 x1 x3 h H locs ls hw hl
      unfold f_X7_feed_b36 at h
      refine lv_iload_n hx hb dX7_feed_36 rfl (lv_at hl 2 rfl) ?_
      refine lv_if_lt (tgt := 75) hx hb dX7_feed_37 (by decide) (fun c1 => ?_) (fun c1 => ?_)
      · replace h := if_some_t c1 h
        refine lv_aload_n hx hb dX7_feed_75 rfl (lv_at hl 0 rfl) ?_
        replace h := gd_some h
        obtain ⟨g2, h⟩ := h
        refine r_getI hx hb hts iw7 hown hK hw x0 9 g2 (by decide) rfl (by decide) rfl (hq _ qw897) (fun _ h9 => h9) dX7_feed_76 ?_
        exact r_iret hx hb hr rfl hlocks hZ hK hw h dX7_feed_79
      · replace h := if_some_f c1 h
        refine lv_aload_n hx hb dX7_feed_40 rfl (lv_at hl 0 rfl) ?_
        replace h := gd_some h
        obtain ⟨g3, h⟩ := h
        replace h := bd_some h
        obtain ⟨q4, eq4, h⟩ := h
        refine r_getR hx hb hts iw7 hown hK hw x0 8 g3 (by decide) rfl (by decide) rfl (hq _ qw896) (fun _ h9 => h9) dX7_feed_41 eq4 ?_
        refine lv_aload_n hx hb dX7_feed_44 rfl (lv_at hl 0 rfl) ?_
        refine r_getI hx hb hts iw7 hown hK hw x0 9 g3 (by decide) rfl (by decide) rfl (hq _ qw897) (fun _ h9 => h9) dX7_feed_45 ?_
        refine lv_iload_n hx hb dX7_feed_48 rfl (lv_at hl 1 rfl) ?_
        refine lv_bipush (v := (8 : Int32)) hx hb dX7_feed_49 (by decide) ?_
        refine lv_iload_n hx hb dX7_feed_51 rfl (lv_at hl 2 rfl) ?_
        refine lv_imul hx hb dX7_feed_52 ?_
        refine lv_ishr hx hb dX7_feed_53 ?_
        refine lv_sipush (v := (255 : Int32)) hx hb dX7_feed_54 (by decide) ?_
        refine lv_iand hx hb dX7_feed_57 ?_
        replace h := gd_some h
        obtain ⟨g5, h⟩ := h
        refine r_iast hx hb hK hw q4 g5 dX7_feed_58 (fun H locs hw => ?_)
        replace h := lt_some h
        obtain ⟨M6, eM6, h⟩ := h
        rw [← eM6] at hw
        refine lv_aload_n hx hb dX7_feed_59 rfl (lv_at hl 0 rfl) ?_
        refine lv_dup hx hb dX7_feed_60 rfl ?_
        refine r_getI hx hb hts iw7 hown hK hw x0 9 g3 (by decide) rfl (by decide) rfl (hq _ qw897) (fun _ h9 => h9) dX7_feed_61 ?_
        refine lv_iconst (v := (1 : Int32)) hx hb dX7_feed_64 (by decide) ?_
        refine lv_iadd hx hb dX7_feed_65 ?_
        refine r_putI hx hb hts iw7 tyX7 tyX7_ok nmX7 hown hK hw x0 9 g3 (by decide) rfl (by decide) rfl (hq _ qw897) (fun _ h9 => h9) rfl rfl rfl dX7_feed_66 (fun H locs hw => ?_)
        replace h := lt_some h
        obtain ⟨M7, eM7, h⟩ := h
        rw [← eM7] at hw
        refine lv_iinc (v := x3 + (-1 : Int32)) (lv' := [(3, .int (x3 + (-1 : Int32))), (0, .ref (ad x0)), (1, .int x1)]) hx hb dX7_feed_69 hl (k := 2) rfl (congrArg (fun z => x3 + z) (by decide)) (by decide) rfl (fun ls hl => ?_)
        refine lv_goto (tgt := 36) hx hb dX7_feed_72 (by decide) ?_
        exact ih _ _ _ _ h _ _ _ hw (lv_sub hl [1, 2, 0] rfl)
  unfold f_X7_feed at h
  refine lv_iload_n hx hb dX7_feed_0 rfl (lv_at hl 2 rfl) ?_
  refine lv_iconst (v := (1 : Int32)) hx hb dX7_feed_1 (by decide) ?_
  refine lv_iconst (v := (4 : Int32)) hx hb dX7_feed_2 (by decide) ?_
  replace h := bd_some h
  obtain ⟨r8, er8, h⟩ := h
  refine r_callSi (As := [.int a2, .int (1 : Int32), .int (4 : Int32)]) (rest := []) hF (c_X7_in l D cy ad adK adV M a2 (1 : Int32) (4 : Int32) r8 er8) (gW_goodS hcm qw985 qw983 qw984 qw67) hdX7_in ⟨Nat.le_of_ble_eq_true rfl, Nat.le_of_ble_eq_true rfl⟩ rfl rfl hZ hK hw rfl hl.1 rfl (Nat.le_of_ble_eq_true rfl) ⟨Nat.zero_le _, Nat.zero_le _⟩ dX7_feed_3 (fun H locs hw => ?_)
  refine lv_if_ne (tgt := 15) hx hb dX7_feed_6 (by decide) (fun c9 => ?_) (fun c9 => ?_)
  · replace h := if_some_f c9 h
    refine lv_aload_n hx hb dX7_feed_15 rfl (lv_at hl 0 rfl) ?_
    replace h := gd_some h
    obtain ⟨g10, h⟩ := h
    refine r_getI hx hb hts iw7 hown hK hw o0 9 g10 (by decide) rfl (by decide) rfl (hq _ qw897) (fun _ h9 => h9) dX7_feed_16 ?_
    refine lv_iload_n hx hb dX7_feed_19 rfl (lv_at hl 2 rfl) ?_
    refine lv_iadd hx hb dX7_feed_20 ?_
    refine lv_bipush (v := (120 : Int32)) hx hb dX7_feed_21 (by decide) ?_
    refine lv_icmp_le (tgt := 32) hx hb dX7_feed_23 (by decide) (fun c11 => ?_) (fun c11 => ?_)
    · replace h := if_some_t c11 h
      refine lv_iload_n hx hb dX7_feed_32 rfl (lv_at hl 2 rfl) ?_
      refine lv_iconst (v := (1 : Int32)) hx hb dX7_feed_33 (by decide) ?_
      refine lv_isub hx hb dX7_feed_34 ?_
      refine lv_istore_n (lv' := [(3, .int (a2 - (1 : Int32))), (0, .ref (ad o0)), (1, .int a1), (2, .int a2)]) hx hb dX7_feed_35 rfl hl (by decide) rfl (fun ls hl => ?_)
      exact hb36 1000 _ _ _ _ h _ _ _ hw (lv_sub hl [1, 2, 0] rfl)
    · replace h := if_some_f c11 h
      refine lv_aload_n hx hb dX7_feed_26 rfl (lv_at hl 0 rfl) ?_
      refine lv_iconst (v := (1 : Int32)) hx hb dX7_feed_27 (by decide) ?_
      replace h := bd_some h
      obtain ⟨r12, er12, h⟩ := h
      refine r_callVi (As := [.int (1 : Int32)]) (rest := []) hF (c_X7_finding l D cy ad adK adV r8.1 o0 (1 : Int32) r12 er12) (gW_goodV hcm qw989 qw986 qw988 qw18 qw67) hdX7_finding rfl ⟨Nat.le_of_ble_eq_true rfl, Nat.le_of_ble_eq_true rfl⟩ rfl rfl hZ hK hw g10 (by decide) rfl rfl hl.1 rfl (Nat.le_of_ble_eq_true rfl) ⟨Nat.zero_le _, Nat.zero_le _⟩ dX7_feed_28 (fun H locs hw => ?_)
      exact r_iret hx hb hr rfl hlocks hZ hK hw h dX7_feed_31
  · replace h := if_some_t c9 h
    refine lv_aload_n hx hb dX7_feed_9 rfl (lv_at hl 0 rfl) ?_
    refine lv_iconst (v := (0 : Int32)) hx hb dX7_feed_10 (by decide) ?_
    replace h := gd_some h
    obtain ⟨g14, h⟩ := h
    replace h := bd_some h
    obtain ⟨r13, er13, h⟩ := h
    refine r_callVi (As := [.int (0 : Int32)]) (rest := []) hF (c_X7_finding l D cy ad adK adV r8.1 o0 (0 : Int32) r13 er13) (gW_goodV hcm qw989 qw986 qw988 qw18 qw67) hdX7_finding rfl ⟨Nat.le_of_ble_eq_true rfl, Nat.le_of_ble_eq_true rfl⟩ rfl rfl hZ hK hw g14 (by decide) rfl rfl hl.1 rfl (Nat.le_of_ble_eq_true rfl) ⟨Nat.zero_le _, Nat.zero_le _⟩ dX7_feed_11 (fun H locs hw => ?_)
    exact r_iret hx hb hr rfl hlocks hZ hK hw h dX7_feed_14
theorem dX7_wipe_0 : decode cX7_wipe 0 = .ok (.aload_n 0, 1) := by decide +kernel
theorem dX7_wipe_1 : decode cX7_wipe 1 = .ok (.getfield 138, 3) := by decide +kernel
theorem dX7_wipe_4 : decode cX7_wipe 4 = .ok (.istore_n 1, 1) := by decide +kernel
theorem dX7_wipe_5 : decode cX7_wipe 5 = .ok (.aload_n 0, 1) := by decide +kernel
theorem dX7_wipe_6 : decode cX7_wipe 6 = .ok (.iconst 0, 1) := by decide +kernel
theorem dX7_wipe_7 : decode cX7_wipe 7 = .ok (.putfield 138, 3) := by decide +kernel
theorem dX7_wipe_10 : decode cX7_wipe 10 = .ok (.iload_n 1, 1) := by decide +kernel
theorem dX7_wipe_11 : decode cX7_wipe 11 = .ok (.ireturn, 1) := by decide +kernel
set_option maxHeartbeats 4000000 in
set_option maxRecDepth 100000 in
theorem c_X7_wipe (l : Launch) (D : va_G) (cy : Nat → ClassId) (ad adK adV : Nat → Nat) (M : Mm) (o0 : Nat) (res : Mm × Int32) (h : f_X7_wipe M o0 = some res) : Met l yX7_wipe (wU yX7_wipe cX7_wipe 2 (some .int)) rmX7_wipe (va_Pc [.ref (ad o0)] (Pre D cy shM ad nM adK adV M)) (va_Qi (fun r (M2 : Mm) => r = res.2 ∧ M2 = res.1) (Pre D cy shM ad nM adK adV) (Aw ad nM)) 0 0 (Aw ad nM) := by
  refine Met.ofW (cc := cX7_wipe) (maxL := 2) (ret := (some .int)) (by decide) rfl ?_
  intro p e s m args below meth c s₁ B hml hv
  obtain ⟨hargs, hPre⟩ := hv
  have hx := B.exec
  have hb := B.bytes
  have hr := B.returns
  have hts := atoms_spec (ws := wU yX7_wipe cX7_wipe 2 (some .int)) B.pre
  have hq : ∀ w ∈ gW, w.before args s = true := fun w hw => hts w (List.mem_cons_of_mem _ hw)
  have hcm : ∀ w ∈ gW, w ∈ wU yX7_wipe cX7_wipe 2 (some .int) := fun w hw => List.mem_cons_of_mem _ hw
  have hown : s.vm.findClass RX7 = some m.cls := findClass_of_methodNamed B.named
  have hlocks := B.notSynchronized
  have hF : CallFix p m c cX7_wipe 2 s args (wU yX7_wipe cX7_wipe 2 (some .int)) RX7 := ⟨hx, hb, hml, hown, hts⟩
  have hK := hPre.2.1
  have hZ := hPre.2.2.2
  have hw : Wd D cy shM ad nM (Aw ad nM) s.heap M s.heap [] := ⟨hPre.1, hPre.2.2.1, va_S.rf⟩
  have iw7 : ∀ w ∈ u_ws RX7 TX7 30, w ∈ wU yX7_wipe cX7_wipe 2 (some .int) := fun w hw => List.mem_cons_of_mem _ (iX7 w hw)
  rw [show entryFrame m args 2 = entryFrame m ([.ref (ad o0)] : List Value).toArray 2 from by rw [hargs]]
  have hl := lv_entry ([.ref (ad o0)]) (n := 2) (Nat.le_of_ble_eq_true rfl)
  rw [lg_entry_eq]
  generalize (lg_sl ([.ref (ad o0)]) ++ List.replicate (2 - (lg_sl ([.ref (ad o0)])).length) Slot.unset).toArray = ls at hl ⊢
  have hl : lv_has ls 2 [(0, .ref (ad o0))] := hl
  unfold f_X7_wipe at h
  refine lv_aload_n hx hb dX7_wipe_0 rfl (lv_at hl 0 rfl) ?_
  replace h := gd_some h
  obtain ⟨g1, h⟩ := h
  refine r_getI hx hb hts iw7 hown hK hw o0 9 g1 (by decide) rfl (by decide) rfl (hq _ qw897) (fun _ h9 => h9) dX7_wipe_1 ?_
  refine lv_istore_n (lv' := [(1, .int (M.1 o0 9)), (0, .ref (ad o0))]) hx hb dX7_wipe_4 rfl hl (by decide) rfl (fun ls hl => ?_)
  refine lv_aload_n hx hb dX7_wipe_5 rfl (lv_at hl 1 rfl) ?_
  refine lv_iconst (v := (0 : Int32)) hx hb dX7_wipe_6 (by decide) ?_
  refine r_putI hx hb hts iw7 tyX7 tyX7_ok nmX7 hown hK hw o0 9 g1 (by decide) rfl (by decide) rfl (hq _ qw897) (fun _ h9 => h9) rfl rfl rfl dX7_wipe_7 (fun H locs hw => ?_)
  replace h := lt_some h
  obtain ⟨M2, eM2, h⟩ := h
  rw [← eM2] at hw
  refine lv_iload_n hx hb dX7_wipe_10 rfl (lv_at hl 0 rfl) ?_
  exact r_iret hx hb hr rfl hlocks hZ hK hw h dX7_wipe_11
theorem dX7_byteAt_0 : decode cX7_byteAt 0 = .ok (.iload_n 1, 1) := by decide +kernel
theorem dX7_byteAt_1 : decode cX7_byteAt 1 = .ok (.aload_n 0, 1) := by decide +kernel
theorem dX7_byteAt_2 : decode cX7_byteAt 2 = .ok (.getfield 138, 3) := by decide +kernel
theorem dX7_byteAt_5 : decode cX7_byteAt 5 = .ok (.if_icmp .ge 12, 3) := by decide +kernel
theorem dX7_byteAt_8 : decode cX7_byteAt 8 = .ok (.aload_n 0, 1) := by decide +kernel
theorem dX7_byteAt_9 : decode cX7_byteAt 9 = .ok (.getfield 26, 3) := by decide +kernel
theorem dX7_byteAt_12 : decode cX7_byteAt 12 = .ok (.iload_n 1, 1) := by decide +kernel
theorem dX7_byteAt_13 : decode cX7_byteAt 13 = .ok (.iaload, 1) := by decide +kernel
theorem dX7_byteAt_14 : decode cX7_byteAt 14 = .ok (.goto 4, 3) := by decide +kernel
theorem dX7_byteAt_17 : decode cX7_byteAt 17 = .ok (.iconst (-1), 1) := by decide +kernel
theorem dX7_byteAt_18 : decode cX7_byteAt 18 = .ok (.ireturn, 1) := by decide +kernel
set_option maxHeartbeats 4000000 in
set_option maxRecDepth 100000 in
theorem c_X7_byteAt (l : Launch) (D : va_G) (cy : Nat → ClassId) (ad adK adV : Nat → Nat) (M : Mm) (o0 : Nat) (a1 : Int32) (res : Mm × Int32) (h : f_X7_byteAt M o0 a1 = some res) : Met l yX7_byteAt (wU yX7_byteAt cX7_byteAt 2 (some .int)) rmX7_byteAt (va_Pc [.ref (ad o0), .int a1] (Pre D cy shM ad nM adK adV M)) (va_Qi (fun r (M2 : Mm) => r = res.2 ∧ M2 = res.1) (Pre D cy shM ad nM adK adV) (Aw ad nM)) 0 0 (Aw ad nM) := by
  refine Met.ofW (cc := cX7_byteAt) (maxL := 2) (ret := (some .int)) (by decide) rfl ?_
  intro p e s m args below meth c s₁ B hml hv
  obtain ⟨hargs, hPre⟩ := hv
  have hx := B.exec
  have hb := B.bytes
  have hr := B.returns
  have hts := atoms_spec (ws := wU yX7_byteAt cX7_byteAt 2 (some .int)) B.pre
  have hq : ∀ w ∈ gW, w.before args s = true := fun w hw => hts w (List.mem_cons_of_mem _ hw)
  have hcm : ∀ w ∈ gW, w ∈ wU yX7_byteAt cX7_byteAt 2 (some .int) := fun w hw => List.mem_cons_of_mem _ hw
  have hown : s.vm.findClass RX7 = some m.cls := findClass_of_methodNamed B.named
  have hlocks := B.notSynchronized
  have hF : CallFix p m c cX7_byteAt 2 s args (wU yX7_byteAt cX7_byteAt 2 (some .int)) RX7 := ⟨hx, hb, hml, hown, hts⟩
  have hK := hPre.2.1
  have hZ := hPre.2.2.2
  have hw : Wd D cy shM ad nM (Aw ad nM) s.heap M s.heap [] := ⟨hPre.1, hPre.2.2.1, va_S.rf⟩
  have iw7 : ∀ w ∈ u_ws RX7 TX7 30, w ∈ wU yX7_byteAt cX7_byteAt 2 (some .int) := fun w hw => List.mem_cons_of_mem _ (iX7 w hw)
  rw [show entryFrame m args 2 = entryFrame m ([.ref (ad o0), .int a1] : List Value).toArray 2 from by rw [hargs]]
  have hl := lv_entry ([.ref (ad o0), .int a1]) (n := 2) (Nat.le_of_ble_eq_true rfl)
  rw [lg_entry_eq]
  generalize (lg_sl ([.ref (ad o0), .int a1]) ++ List.replicate (2 - (lg_sl ([.ref (ad o0), .int a1])).length) Slot.unset).toArray = ls at hl ⊢
  have hl : lv_has ls 2 [(0, .ref (ad o0)), (1, .int a1)] := hl
  unfold f_X7_byteAt at h
  refine lv_iload_n hx hb dX7_byteAt_0 rfl (lv_at hl 1 rfl) ?_
  refine lv_aload_n hx hb dX7_byteAt_1 rfl (lv_at hl 0 rfl) ?_
  replace h := gd_some h
  obtain ⟨g1, h⟩ := h
  refine r_getI hx hb hts iw7 hown hK hw o0 9 g1 (by decide) rfl (by decide) rfl (hq _ qw897) (fun _ h9 => h9) dX7_byteAt_2 ?_
  refine lv_icmp_ge (tgt := 17) hx hb dX7_byteAt_5 (by decide) (fun c2 => ?_) (fun c2 => ?_)
  · replace h := if_some_t c2 h
    refine lv_iconst (v := (-1 : Int32)) hx hb dX7_byteAt_17 (by decide) ?_
    exact r_iret hx hb hr rfl hlocks hZ hK hw h dX7_byteAt_18
  · replace h := if_some_f c2 h
    refine lv_aload_n hx hb dX7_byteAt_8 rfl (lv_at hl 0 rfl) ?_
    replace h := bd_some h
    obtain ⟨q3, eq3, h⟩ := h
    refine r_getR hx hb hts iw7 hown hK hw o0 8 g1 (by decide) rfl (by decide) rfl (hq _ qw896) (fun _ h9 => h9) dX7_byteAt_9 eq3 ?_
    refine lv_iload_n hx hb dX7_byteAt_12 rfl (lv_at hl 1 rfl) ?_
    replace h := gd_some h
    obtain ⟨g4, h⟩ := h
    refine r_iald hx hb hK hw q3 g4 dX7_byteAt_13 ?_
    refine lv_goto (tgt := 18) hx hb dX7_byteAt_14 (by decide) ?_
    exact r_iret hx hb hr rfl hlocks hZ hK hw h dX7_byteAt_18

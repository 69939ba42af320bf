theorem dX7_drawsNext_0 : decode cX7_drawsNext 0 = .ok (.aload_n 0, 1) := by decide +kernel
theorem dX7_drawsNext_1 : decode cX7_drawsNext 1 = .ok (.getfield 7, 3) := by decide +kernel
theorem dX7_drawsNext_4 : decode cX7_drawsNext 4 = .ok (.iconst 2, 1) := by decide +kernel
theorem dX7_drawsNext_5 : decode cX7_drawsNext 5 = .ok (.iaload, 1) := by decide +kernel
theorem dX7_drawsNext_6 : decode cX7_drawsNext 6 = .ok (.istore_n 1, 1) := by decide +kernel
theorem dX7_drawsNext_7 : decode cX7_drawsNext 7 = .ok (.aload_n 0, 1) := by decide +kernel
theorem dX7_drawsNext_8 : decode cX7_drawsNext 8 = .ok (.aload_n 0, 1) := by decide +kernel
theorem dX7_drawsNext_9 : decode cX7_drawsNext 9 = .ok (.iload_n 1, 1) := by decide +kernel
theorem dX7_drawsNext_10 : decode cX7_drawsNext 10 = .ok (.iconst 0, 1) := by decide +kernel
theorem dX7_drawsNext_11 : decode cX7_drawsNext 11 = .ok (.invokevirtual 71, 3) := by decide +kernel
theorem dX7_drawsNext_14 : decode cX7_drawsNext 14 = .ok (.iload_n 1, 1) := by decide +kernel
theorem dX7_drawsNext_15 : decode cX7_drawsNext 15 = .ok (.invokevirtual 108, 3) := by decide +kernel
theorem dX7_drawsNext_18 : decode cX7_drawsNext 18 = .ok (.istore_n 2, 1) := by decide +kernel
theorem dX7_drawsNext_19 : decode cX7_drawsNext 19 = .ok (.aload_n 0, 1) := by decide +kernel
theorem dX7_drawsNext_20 : decode cX7_drawsNext 20 = .ok (.aload_n 0, 1) := by decide +kernel
theorem dX7_drawsNext_21 : decode cX7_drawsNext 21 = .ok (.iload_n 1, 1) := by decide +kernel
theorem dX7_drawsNext_22 : decode cX7_drawsNext 22 = .ok (.iconst 1, 1) := by decide +kernel
theorem dX7_drawsNext_23 : decode cX7_drawsNext 23 = .ok (.invokevirtual 71, 3) := by decide +kernel
theorem dX7_drawsNext_26 : decode cX7_drawsNext 26 = .ok (.iload_n 1, 1) := by decide +kernel
theorem dX7_drawsNext_27 : decode cX7_drawsNext 27 = .ok (.invokevirtual 108, 3) := by decide +kernel
theorem dX7_drawsNext_30 : decode cX7_drawsNext 30 = .ok (.istore_n 3, 1) := by decide +kernel
theorem dX7_drawsNext_31 : decode cX7_drawsNext 31 = .ok (.aload_n 0, 1) := by decide +kernel
theorem dX7_drawsNext_32 : decode cX7_drawsNext 32 = .ok (.aload_n 0, 1) := by decide +kernel
theorem dX7_drawsNext_33 : decode cX7_drawsNext 33 = .ok (.invokevirtual 239, 3) := by decide +kernel
theorem dX7_drawsNext_36 : decode cX7_drawsNext 36 = .ok (.bipush 10, 2) := by decide +kernel
theorem dX7_drawsNext_38 : decode cX7_drawsNext 38 = .ok (.irem, 1) := by decide +kernel
theorem dX7_drawsNext_39 : decode cX7_drawsNext 39 = .ok (.aload_n 0, 1) := by decide +kernel
theorem dX7_drawsNext_40 : decode cX7_drawsNext 40 = .ok (.iload_n 1, 1) := by decide +kernel
theorem dX7_drawsNext_41 : decode cX7_drawsNext 41 = .ok (.iload_n 2, 1) := by decide +kernel
theorem dX7_drawsNext_42 : decode cX7_drawsNext 42 = .ok (.iload_n 3, 1) := by decide +kernel
theorem dX7_drawsNext_43 : decode cX7_drawsNext 43 = .ok (.invokevirtual 230, 3) := by decide +kernel
theorem dX7_drawsNext_46 : decode cX7_drawsNext 46 = .ok (.if_icmp .ge 12, 3) := by decide +kernel
theorem dX7_drawsNext_49 : decode cX7_drawsNext 49 = .ok (.aload_n 0, 1) := by decide +kernel
theorem dX7_drawsNext_50 : decode cX7_drawsNext 50 = .ok (.iload_n 1, 1) := by decide +kernel
theorem dX7_drawsNext_51 : decode cX7_drawsNext 51 = .ok (.iconst 0, 1) := by decide +kernel
theorem dX7_drawsNext_52 : decode cX7_drawsNext 52 = .ok (.invokevirtual 71, 3) := by decide +kernel
theorem dX7_drawsNext_55 : decode cX7_drawsNext 55 = .ok (.goto 9, 3) := by decide +kernel
theorem dX7_drawsNext_58 : decode cX7_drawsNext 58 = .ok (.aload_n 0, 1) := by decide +kernel
theorem dX7_drawsNext_59 : decode cX7_drawsNext 59 = .ok (.iload_n 1, 1) := by decide +kernel
theorem dX7_drawsNext_60 : decode cX7_drawsNext 60 = .ok (.iconst 1, 1) := by decide +kernel
theorem dX7_drawsNext_61 : decode cX7_drawsNext 61 = .ok (.invokevirtual 71, 3) := by decide +kernel
theorem dX7_drawsNext_64 : decode cX7_drawsNext 64 = .ok (.iload_n 2, 1) := by decide +kernel
theorem dX7_drawsNext_65 : decode cX7_drawsNext 65 = .ok (.iload_n 3, 1) := by decide +kernel
theorem dX7_drawsNext_66 : decode cX7_drawsNext 66 = .ok (.invokevirtual 111, 3) := by decide +kernel
theorem dX7_drawsNext_69 : decode cX7_drawsNext 69 = .ok (.return_, 1) := by decide +kernel
set_option maxHeartbeats 4000000 in
set_option maxRecDepth 100000 in
theorem c_X7_drawsNext (l : Launch) (D : va_G) (cy : Nat → ClassId) (ad adK adV : Nat → Nat) (M : Mm) (o0 : Nat) (res : Mm × Unit) (h : f_X7_drawsNext M o0 = some res) : Met l yX7_drawsNext (wU yX7_drawsNext cX7_drawsNext 4 none) rmX7_drawsNext (va_Pc [.ref (ad o0)] (Pre D cy shM ad nM adK adV M)) (va_Qv (fun (M2 : Mm) => M2 = res.1) (Pre D cy shM ad nM adK adV) (Aw ad nM)) 0 0 (Aw ad nM) := by
  refine Met.ofW (cc := cX7_drawsNext) (maxL := 4) (ret := none) (by decide) rfl ?_
  intro p e s m args below meth c s₁ B hml hv
  obtain ⟨hargs, hPre⟩ := hv
  have hx := B.exec
  have hb := B.bytes
  have hr := B.returns
  have hts := atoms_spec (ws := wU yX7_drawsNext cX7_drawsNext 4 none) B.pre
  have hq : ∀ w ∈ gW, w.before args s = true := fun w hw => hts w (List.mem_cons_of_mem _ hw)
  have hcm : ∀ w ∈ gW, w ∈ wU yX7_drawsNext cX7_drawsNext 4 none := fun w hw => List.mem_cons_of_mem _ hw
  have hown : s.vm.findClass RX7 = some m.cls := findClass_of_methodNamed B.named
  have hlocks := B.notSynchronized
  have hF : CallFix p m c cX7_drawsNext 4 s args (wU yX7_drawsNext cX7_drawsNext 4 none) RX7 := ⟨hx, hb, hml, hown, hts⟩
  have hK := hPre.2.1
  have hZ := hPre.2.2.2
  have hw : Wd D cy shM ad nM (Aw ad nM) s.heap M s.heap [] := ⟨hPre.1, hPre.2.2.1, va_S.rf⟩
  have iw7 : ∀ w ∈ u_ws RX7 TX7 30, w ∈ wU yX7_drawsNext cX7_drawsNext 4 none := fun w hw => List.mem_cons_of_mem _ (iX7 w hw)
  rw [show entryFrame m args 4 = entryFrame m ([.ref (ad o0)] : List Value).toArray 4 from by rw [hargs]]
  have hl := lv_entry ([.ref (ad o0)]) (n := 4) (Nat.le_of_ble_eq_true rfl)
  rw [lg_entry_eq]
  generalize (lg_sl ([.ref (ad o0)]) ++ List.replicate (4 - (lg_sl ([.ref (ad o0)])).length) Slot.unset).toArray = ls at hl ⊢
  have hl : lv_has ls 4 [(0, .ref (ad o0))] := hl
  have hb64 : ∀ (M : Mm) (x2 : Int32) (x3 : Int32) (t0 : Nat) (t1 : Int32), f_X7_drawsNext_b64 M x2 x3 t0 t1 = some res → ∀ (H : Heap) (locs : List Loc) (ls : Array Slot), Wd D cy shM ad nM (Aw ad nM) s.heap M H locs → lv_has ls 4 [(2, .int x2), (3, .int x3)] → W p l e (headSpec (wU yX7_drawsNext cX7_drawsNext 4 none) rmX7_drawsNext).room s m args below meth c H locs 0 0 (QV D cy shM ad nM adK adV below args s res) (F0 m 64 ls [.int t1, .ref (ad t0)]) := by
    intro M x2 x3 t0 t1 h H locs ls hw hl
    unfold f_X7_drawsNext_b64 at h
    refine lv_iload_n hx hb dX7_drawsNext_64 rfl (lv_at hl 0 rfl) ?_
    refine lv_iload_n hx hb dX7_drawsNext_65 rfl (lv_at hl 1 rfl) ?_
    replace h := gd_some h
    obtain ⟨g2, h⟩ := h
    replace h := bd_some h
    obtain ⟨r1, er1, h⟩ := h
    refine r_callVv (As := [.int t1, .int x2, .int x3]) (rest := []) hF (c_X7_wins l D cy ad adK adV M t0 t1 x2 x3 r1 er1) (gW_goodV hcm qw1166 qw1163 qw1165 qw47 qw67) hdX7_wins rfl ⟨Nat.le_of_ble_eq_true rfl, Nat.le_of_ble_eq_true rfl⟩ rfl rfl hZ hK hw g2 (by decide) rfl rfl hl.1 rfl (Nat.le_of_ble_eq_true rfl) ⟨Nat.zero_le _, Nat.zero_le _⟩ dX7_drawsNext_66 (fun H locs hw => ?_)
    exact r_vret hx hb hr hlocks hZ hK hw h dX7_drawsNext_69
  unfold f_X7_drawsNext at h
  refine lv_aload_n hx hb dX7_drawsNext_0 rfl (lv_at hl 0 rfl) ?_
  replace h := gd_some h
  obtain ⟨g3, h⟩ := h
  replace h := bd_some h
  obtain ⟨q4, eq4, h⟩ := h
  refine r_getR hx hb hts iw7 hown hK hw o0 0 g3 (by decide) rfl (by decide) rfl (hq _ qw888) (fun _ h9 => h9) dX7_drawsNext_1 eq4 ?_
  refine lv_iconst (v := (2 : Int32)) hx hb dX7_drawsNext_4 (by decide) ?_
  replace h := gd_some h
  obtain ⟨g5, h⟩ := h
  refine r_iald hx hb hK hw q4 g5 dX7_drawsNext_5 ?_
  refine lv_istore_n (lv' := [(1, .int (M.1 q4 (2 : Int32).toNatClampNeg)), (0, .ref (ad o0))]) hx hb dX7_drawsNext_6 rfl hl (by decide) rfl (fun ls hl => ?_)
  refine lv_aload_n hx hb dX7_drawsNext_7 rfl (lv_at hl 1 rfl) ?_
  refine lv_aload_n hx hb dX7_drawsNext_8 rfl (lv_at hl 1 rfl) ?_
  refine lv_iload_n hx hb dX7_drawsNext_9 rfl (lv_at hl 0 rfl) ?_
  refine lv_iconst (v := (0 : Int32)) hx hb dX7_drawsNext_10 (by decide) ?_
  replace h := bd_some h
  obtain ⟨r6, er6, h⟩ := h
  refine r_callVi (As := [.int (M.1 q4 (2 : Int32).toNatClampNeg), .int (0 : Int32)]) (rest := [.ref (ad o0)]) hF (c_X7_of l D cy ad adK adV M o0 (M.1 q4 (2 : Int32).toNatClampNeg) (0 : Int32) r6 er6) (gW_goodV hcm qw1010 qw1007 qw1009 qw22 qw67) hdX7_of rfl ⟨Nat.le_of_ble_eq_true rfl, Nat.le_of_ble_eq_true rfl⟩ rfl rfl hZ hK hw g3 (by decide) rfl rfl hl.1 rfl (Nat.le_of_ble_eq_true rfl) ⟨Nat.zero_le _, Nat.zero_le _⟩ dX7_drawsNext_11 (fun H locs hw => ?_)
  refine lv_iload_n hx hb dX7_drawsNext_14 rfl (lv_at hl 0 rfl) ?_
  replace h := bd_some h
  obtain ⟨r7, er7, h⟩ := h
  refine r_callVi (As := [.int r6.2, .int (M.1 q4 (2 : Int32).toNatClampNeg)]) (rest := []) hF (c_X7_effort l D cy ad adK adV r6.1 o0 r6.2 (M.1 q4 (2 : Int32).toNatClampNeg) r7 er7) (gW_goodV hcm qw1142 qw1139 qw1141 qw42 qw67) hdX7_effort rfl ⟨Nat.le_of_ble_eq_true rfl, Nat.le_of_ble_eq_true rfl⟩ rfl rfl hZ hK hw g3 (by decide) rfl rfl hl.1 rfl (Nat.le_of_ble_eq_true rfl) ⟨Nat.zero_le _, Nat.zero_le _⟩ dX7_drawsNext_15 (fun H locs hw => ?_)
  refine lv_istore_n (lv' := [(2, .int r7.2), (1, .int (M.1 q4 (2 : Int32).toNatClampNeg)), (0, .ref (ad o0))]) hx hb dX7_drawsNext_18 rfl hl (by decide) rfl (fun ls hl => ?_)
  refine lv_aload_n hx hb dX7_drawsNext_19 rfl (lv_at hl 2 rfl) ?_
  refine lv_aload_n hx hb dX7_drawsNext_20 rfl (lv_at hl 2 rfl) ?_
  refine lv_iload_n hx hb dX7_drawsNext_21 rfl (lv_at hl 1 rfl) ?_
  refine lv_iconst (v := (1 : Int32)) hx hb dX7_drawsNext_22 (by decide) ?_
  replace h := bd_some h
  obtain ⟨r8, er8, h⟩ := h
  refine r_callVi (As := [.int (M.1 q4 (2 : Int32).toNatClampNeg), .int (1 : Int32)]) (rest := [.ref (ad o0)]) hF (c_X7_of l D cy ad adK adV r7.1 o0 (M.1 q4 (2 : Int32).toNatClampNeg) (1 : Int32) r8 er8) (gW_goodV hcm qw1010 qw1007 qw1009 qw22 qw67) hdX7_of rfl ⟨Nat.le_of_ble_eq_true rfl, Nat.le_of_ble_eq_true rfl⟩ rfl rfl hZ hK hw g3 (by decide) rfl rfl hl.1 rfl (Nat.le_of_ble_eq_true rfl) ⟨Nat.zero_le _, Nat.zero_le _⟩ dX7_drawsNext_23 (fun H locs hw => ?_)
  refine lv_iload_n hx hb dX7_drawsNext_26 rfl (lv_at hl 1 rfl) ?_
  replace h := bd_some h
  obtain ⟨r9, er9, h⟩ := h
  refine r_callVi (As := [.int r8.2, .int (M.1 q4 (2 : Int32).toNatClampNeg)]) (rest := []) hF (c_X7_effort l D cy ad adK adV r8.1 o0 r8.2 (M.1 q4 (2 : Int32).toNatClampNeg) r9 er9) (gW_goodV hcm qw1142 qw1139 qw1141 qw42 qw67) hdX7_effort rfl ⟨Nat.le_of_ble_eq_true rfl, Nat.le_of_ble_eq_true rfl⟩ rfl rfl hZ hK hw g3 (by decide) rfl rfl hl.1 rfl (Nat.le_of_ble_eq_true rfl) ⟨Nat.zero_le _, Nat.zero_le _⟩ dX7_drawsNext_27 (fun H locs hw => ?_)
  refine lv_istore_n (lv' := [(3, .int r9.2), (2, .int r7.2), (1, .int (M.1 q4 (2 : Int32).toNatClampNeg)), (0, .ref (ad o0))]) hx hb dX7_drawsNext_30 rfl hl (by decide) rfl (fun ls hl => ?_)
  refine lv_aload_n hx hb dX7_drawsNext_31 rfl (lv_at hl 3 rfl) ?_
  refine lv_aload_n hx hb dX7_drawsNext_32 rfl (lv_at hl 3 rfl) ?_
  replace h := bd_some h
  obtain ⟨r10, er10, h⟩ := h
  refine r_callVi (As := []) (rest := [.ref (ad o0)]) hF (c_X7_draw l D cy ad adK adV r9.1 o0 r10 er10) (gW_goodV hcm qw1182 qw1179 qw1181 qw50 qw67) hdX7_draw rfl ⟨Nat.le_of_ble_eq_true rfl, Nat.le_of_ble_eq_true rfl⟩ rfl rfl hZ hK hw g3 (by decide) rfl rfl hl.1 rfl (Nat.le_of_ble_eq_true rfl) ⟨Nat.zero_le _, Nat.zero_le _⟩ dX7_drawsNext_33 (fun H locs hw => ?_)
  refine lv_bipush (v := (10 : Int32)) hx hb dX7_drawsNext_36 (by decide) ?_
  refine lv_irem hx hb dX7_drawsNext_38 (by decide) ?_
  refine lv_aload_n hx hb dX7_drawsNext_39 rfl (lv_at hl 3 rfl) ?_
  refine lv_iload_n hx hb dX7_drawsNext_40 rfl (lv_at hl 2 rfl) ?_
  refine lv_iload_n hx hb dX7_drawsNext_41 rfl (lv_at hl 1 rfl) ?_
  refine lv_iload_n hx hb dX7_drawsNext_42 rfl (lv_at hl 0 rfl) ?_
  replace h := bd_some h
  obtain ⟨r11, er11, h⟩ := h
  refine r_callVi (As := [.int (M.1 q4 (2 : Int32).toNatClampNeg), .int r7.2, .int r9.2]) (rest := [.int (r10.2 - r10.2 / (10 : Int32) * (10 : Int32)), .ref (ad o0)]) hF (c_X7_chance l D cy ad adK adV r10.1 o0 (M.1 q4 (2 : Int32).toNatClampNeg) r7.2 r9.2 r11 er11) (gW_goodV hcm qw1150 qw1147 qw1149 qw44 qw67) hdX7_chance rfl ⟨Nat.le_of_ble_eq_true rfl, Nat.le_of_ble_eq_true rfl⟩ rfl rfl hZ hK hw g3 (by decide) rfl rfl hl.1 rfl (Nat.le_of_ble_eq_true rfl) ⟨Nat.zero_le _, Nat.zero_le _⟩ dX7_drawsNext_43 (fun H locs hw => ?_)
  refine lv_icmp_ge (tgt := 58) hx hb dX7_drawsNext_46 (by decide) (fun c12 => ?_) (fun c12 => ?_)
  · replace h := if_some_t c12 h
    refine lv_aload_n hx hb dX7_drawsNext_58 rfl (lv_at hl 3 rfl) ?_
    refine lv_iload_n hx hb dX7_drawsNext_59 rfl (lv_at hl 2 rfl) ?_
    refine lv_iconst (v := (1 : Int32)) hx hb dX7_drawsNext_60 (by decide) ?_
    replace h := bd_some h
    obtain ⟨r13, er13, h⟩ := h
    refine r_callVi (As := [.int (M.1 q4 (2 : Int32).toNatClampNeg), .int (1 : Int32)]) (rest := [.ref (ad o0)]) hF (c_X7_of l D cy ad adK adV r11.1 o0 (M.1 q4 (2 : Int32).toNatClampNeg) (1 : Int32) r13 er13) (gW_goodV hcm qw1010 qw1007 qw1009 qw22 qw67) hdX7_of rfl ⟨Nat.le_of_ble_eq_true rfl, Nat.le_of_ble_eq_true rfl⟩ rfl rfl hZ hK hw g3 (by decide) rfl rfl hl.1 rfl (Nat.le_of_ble_eq_true rfl) ⟨Nat.zero_le _, Nat.zero_le _⟩ dX7_drawsNext_61 (fun H locs hw => ?_)
    exact hb64 _ _ _ _ _ h _ _ _ hw (lv_sub hl [1, 0] rfl)
  · replace h := if_some_f c12 h
    refine lv_aload_n hx hb dX7_drawsNext_49 rfl (lv_at hl 3 rfl) ?_
    refine lv_iload_n hx hb dX7_drawsNext_50 rfl (lv_at hl 2 rfl) ?_
    refine lv_iconst (v := (0 : Int32)) hx hb dX7_drawsNext_51 (by decide) ?_
    replace h := bd_some h
    obtain ⟨r14, er14, h⟩ := h
    refine r_callVi (As := [.int (M.1 q4 (2 : Int32).toNatClampNeg), .int (0 : Int32)]) (rest := [.ref (ad o0)]) hF (c_X7_of l D cy ad adK adV r11.1 o0 (M.1 q4 (2 : Int32).toNatClampNeg) (0 : Int32) r14 er14) (gW_goodV hcm qw1010 qw1007 qw1009 qw22 qw67) hdX7_of rfl ⟨Nat.le_of_ble_eq_true rfl, Nat.le_of_ble_eq_true rfl⟩ rfl rfl hZ hK hw g3 (by decide) rfl rfl hl.1 rfl (Nat.le_of_ble_eq_true rfl) ⟨Nat.zero_le _, Nat.zero_le _⟩ dX7_drawsNext_52 (fun H locs hw => ?_)
    refine lv_goto (tgt := 64) hx hb dX7_drawsNext_55 (by decide) ?_
    exact hb64 _ _ _ _ _ h _ _ _ hw (lv_sub hl [1, 0] rfl)
theorem dX7_play_0 : decode cX7_play 0 = .ok (.aload_n 0, 1) := by decide +kernel
theorem dX7_play_1 : decode cX7_play 1 = .ok (.invokevirtual 227, 3) := by decide +kernel
theorem dX7_play_4 : decode cX7_play 4 = .ok (.ifCond .eq 9, 3) := by decide +kernel
theorem dX7_play_7 : decode cX7_play 7 = .ok (.aload_n 0, 1) := by decide +kernel
theorem dX7_play_8 : decode cX7_play 8 = .ok (.iconst 3, 1) := by decide +kernel
theorem dX7_play_9 : decode cX7_play 9 = .ok (.invokevirtual 115, 3) := by decide +kernel
theorem dX7_play_12 : decode cX7_play 12 = .ok (.ireturn, 1) := by decide +kernel
theorem dX7_play_13 : decode cX7_play 13 = .ok (.aload_n 0, 1) := by decide +kernel
theorem dX7_play_14 : decode cX7_play 14 = .ok (.invokevirtual 242, 3) := by decide +kernel
theorem dX7_play_17 : decode cX7_play 17 = .ok (.aload_n 0, 1) := by decide +kernel
theorem dX7_play_18 : decode cX7_play 18 = .ok (.aload_n 0, 1) := by decide +kernel
theorem dX7_play_19 : decode cX7_play 19 = .ok (.getfield 7, 3) := by decide +kernel
theorem dX7_play_22 : decode cX7_play 22 = .ok (.iconst 2, 1) := by decide +kernel
theorem dX7_play_23 : decode cX7_play 23 = .ok (.iaload, 1) := by decide +kernel
theorem dX7_play_24 : decode cX7_play 24 = .ok (.iconst 1, 1) := by decide +kernel
theorem dX7_play_25 : decode cX7_play 25 = .ok (.isub, 1) := by decide +kernel
theorem dX7_play_26 : decode cX7_play 26 = .ok (.iconst 4, 1) := by decide +kernel
theorem dX7_play_27 : decode cX7_play 27 = .ok (.invokevirtual 71, 3) := by decide +kernel
theorem dX7_play_30 : decode cX7_play 30 = .ok (.ireturn, 1) := by decide +kernel
set_option maxHeartbeats 4000000 in
set_option maxRecDepth 100000 in
theorem c_X7_play (l : Launch) (D : va_G) (cy : Nat → ClassId) (ad adK adV : Nat → Nat) (M : Mm) (o0 : Nat) (res : Mm × Int32) (h : f_X7_play M o0 = some res) : Met l yX7_play (wU yX7_play cX7_play 1 (some .int)) rmX7_play (va_Pc [.ref (ad o0)] (Pre D cy shM ad nM adK adV M)) (va_Qi (fun r (M2 : Mm) => r = res.2 ∧ M2 = res.1) (Pre D cy shM ad nM adK adV) (Aw ad nM)) 0 0 (Aw ad nM) := by
  refine Met.ofW (cc := cX7_play) (maxL := 1) (ret := (some .int)) (by decide) rfl ?_
  intro p e s m args below meth c s₁ B hml hv
  obtain ⟨hargs, hPre⟩ := hv
  have hx := B.exec
  have hb := B.bytes
  have hr := B.returns
  have hts := atoms_spec (ws := wU yX7_play cX7_play 1 (some .int)) B.pre
  have hq : ∀ w ∈ gW, w.before args s = true := fun w hw => hts w (List.mem_cons_of_mem _ hw)
  have hcm : ∀ w ∈ gW, w ∈ wU yX7_play cX7_play 1 (some .int) := fun w hw => List.mem_cons_of_mem _ hw
  have hown : s.vm.findClass RX7 = some m.cls := findClass_of_methodNamed B.named
  have hlocks := B.notSynchronized
  have hF : CallFix p m c cX7_play 1 s args (wU yX7_play cX7_play 1 (some .int)) RX7 := ⟨hx, hb, hml, hown, hts⟩
  have hK := hPre.2.1
  have hZ := hPre.2.2.2
  have hw : Wd D cy shM ad nM (Aw ad nM) s.heap M s.heap [] := ⟨hPre.1, hPre.2.2.1, va_S.rf⟩
  have iw7 : ∀ w ∈ u_ws RX7 TX7 30, w ∈ wU yX7_play cX7_play 1 (some .int) := fun w hw => List.mem_cons_of_mem _ (iX7 w hw)
  rw [show entryFrame m args 1 = entryFrame m ([.ref (ad o0)] : List Value).toArray 1 from by rw [hargs]]
  have hl := lv_entry ([.ref (ad o0)]) (n := 1) (Nat.le_of_ble_eq_true rfl)
  rw [lg_entry_eq]
  generalize (lg_sl ([.ref (ad o0)]) ++ List.replicate (1 - (lg_sl ([.ref (ad o0)])).length) Slot.unset).toArray = ls at hl ⊢
  have hl : lv_has ls 1 [(0, .ref (ad o0))] := hl
  unfold f_X7_play at h
  refine lv_aload_n hx hb dX7_play_0 rfl (lv_at hl 0 rfl) ?_
  replace h := gd_some h
  obtain ⟨g2, h⟩ := h
  replace h := bd_some h
  obtain ⟨r1, er1, h⟩ := h
  refine r_callVi (As := []) (rest := []) hF (c_X7_isOver l D cy ad adK adV M o0 r1 er1) (gW_goodV hcm qw1138 qw1135 qw1137 qw41 qw67) hdX7_isOver rfl ⟨Nat.le_of_ble_eq_true rfl, Nat.le_of_ble_eq_true rfl⟩ rfl rfl hZ hK hw g2 (by decide) rfl rfl hl.1 rfl (Nat.le_of_ble_eq_true rfl) ⟨Nat.zero_le _, Nat.zero_le _⟩ dX7_play_1 (fun H locs hw => ?_)
  refine lv_if_eq (tgt := 13) hx hb dX7_play_4 (by decide) (fun c3 => ?_) (fun c3 => ?_)
  · replace h := if_some_t c3 h
    refine lv_aload_n hx hb dX7_play_13 rfl (lv_at hl 0 rfl) ?_
    replace h := bd_some h
    obtain ⟨r4, er4, h⟩ := h
    refine r_callVv (As := []) (rest := []) hF (c_X7_drawsNext l D cy ad adK adV r1.1 o0 r4 er4) (gW_goodV hcm qw1178 qw1175 qw1177 qw49 qw67) hdX7_drawsNext rfl ⟨Nat.le_of_ble_eq_true rfl, Nat.le_of_ble_eq_true rfl⟩ rfl rfl hZ hK hw g2 (by decide) rfl rfl hl.1 rfl (Nat.le_of_ble_eq_true rfl) ⟨Nat.zero_le _, Nat.zero_le _⟩ dX7_play_14 (fun H locs hw => ?_)
    refine lv_aload_n hx hb dX7_play_17 rfl (lv_at hl 0 rfl) ?_
    refine lv_aload_n hx hb dX7_play_18 rfl (lv_at hl 0 rfl) ?_
    replace h := bd_some h
    obtain ⟨q5, eq5, h⟩ := h
    refine r_getR hx hb hts iw7 hown hK hw o0 0 g2 (by decide) rfl (by decide) rfl (hq _ qw888) (fun _ h9 => h9) dX7_play_19 eq5 ?_
    refine lv_iconst (v := (2 : Int32)) hx hb dX7_play_22 (by decide) ?_
    replace h := gd_some h
    obtain ⟨g6, h⟩ := h
    refine r_iald hx hb hK hw q5 g6 dX7_play_23 ?_
    refine lv_iconst (v := (1 : Int32)) hx hb dX7_play_24 (by decide) ?_
    refine lv_isub hx hb dX7_play_25 ?_
    refine lv_iconst (v := (4 : Int32)) hx hb dX7_play_26 (by decide) ?_
    replace h := bd_some h
    obtain ⟨r7, er7, h⟩ := h
    refine r_callVi (As := [.int ((r4.1.1 q5 (2 : Int32).toNatClampNeg) - (1 : Int32)), .int (4 : Int32)]) (rest := []) hF (c_X7_of l D cy ad adK adV r4.1 o0 ((r4.1.1 q5 (2 : Int32).toNatClampNeg) - (1 : Int32)) (4 : Int32) r7 er7) (gW_goodV hcm qw1010 qw1007 qw1009 qw22 qw67) hdX7_of rfl ⟨Nat.le_of_ble_eq_true rfl, Nat.le_of_ble_eq_true rfl⟩ rfl rfl hZ hK hw g2 (by decide) rfl rfl hl.1 rfl (Nat.le_of_ble_eq_true rfl) ⟨Nat.zero_le _, Nat.zero_le _⟩ dX7_play_27 (fun H locs hw => ?_)
    exact r_iret hx hb hr rfl hlocks hZ hK hw h dX7_play_30
  · replace h := if_some_f c3 h
    refine lv_aload_n hx hb dX7_play_7 rfl (lv_at hl 0 rfl) ?_
    refine lv_iconst (v := (3 : Int32)) hx hb dX7_play_8 (by decide) ?_
    replace h := bd_some h
    obtain ⟨r8, er8, h⟩ := h
    refine r_callVi (As := [.int (3 : Int32)]) (rest := []) hF (c_X7_finding l D cy ad adK adV r1.1 o0 (3 : Int32) r8 er8) (gW_goodV hcm qw989 qw986 qw988 qw18 qw67) hdX7_finding rfl ⟨Nat.le_of_ble_eq_true rfl, Nat.le_of_ble_eq_true rfl⟩ rfl rfl hZ hK hw g2 (by decide) rfl rfl hl.1 rfl (Nat.le_of_ble_eq_true rfl) ⟨Nat.zero_le _, Nat.zero_le _⟩ dX7_play_9 (fun H locs hw => ?_)
    exact r_iret hx hb hr rfl hlocks hZ hK hw h dX7_play_12
theorem dX7_anew_0 : decode cX7_anew 0 = .ok (.aload_n 0, 1) := by decide +kernel
theorem dX7_anew_1 : decode cX7_anew 1 = .ok (.getfield 7, 3) := by decide +kernel
theorem dX7_anew_4 : decode cX7_anew 4 = .ok (.iconst 2, 1) := by decide +kernel
theorem dX7_anew_5 : decode cX7_anew 5 = .ok (.iaload, 1) := by decide +kernel
theorem dX7_anew_6 : decode cX7_anew 6 = .ok (.istore_n 1, 1) := by decide +kernel
theorem dX7_anew_7 : decode cX7_anew 7 = .ok (.aload_n 0, 1) := by decide +kernel
theorem dX7_anew_8 : decode cX7_anew 8 = .ok (.getfield 7, 3) := by decide +kernel
theorem dX7_anew_11 : decode cX7_anew 11 = .ok (.iconst 2, 1) := by decide +kernel
theorem dX7_anew_12 : decode cX7_anew 12 = .ok (.iconst 0, 1) := by decide +kernel
theorem dX7_anew_13 : decode cX7_anew 13 = .ok (.iastore, 1) := by decide +kernel
theorem dX7_anew_14 : decode cX7_anew 14 = .ok (.iload_n 1, 1) := by decide +kernel
theorem dX7_anew_15 : decode cX7_anew 15 = .ok (.ireturn, 1) := by decide +kernel
set_option maxHeartbeats 4000000 in
set_option maxRecDepth 100000 in
theorem c_X7_anew (l : Launch) (D : va_G) (cy : Nat → ClassId) (ad adK adV : Nat → Nat) (M : Mm) (o0 : Nat) (res : Mm × Int32) (h : f_X7_anew M o0 = some res) : Met l yX7_anew (wU yX7_anew cX7_anew 2 (some .int)) rmX7_anew (va_Pc [.ref (ad o0)] (Pre D cy shM ad nM adK adV M)) (va_Qi (fun r (M2 : Mm) => r = res.2 ∧ M2 = res.1) (Pre D cy shM ad nM adK adV) (Aw ad nM)) 0 0 (Aw ad nM) := by
  refine Met.ofW (cc := cX7_anew) (maxL := 2) (ret := (some .int)) (by decide) rfl ?_
  intro p e s m args below meth c s₁ B hml hv
  obtain ⟨hargs, hPre⟩ := hv
  have hx := B.exec
  have hb := B.bytes
  have hr := B.returns
  have hts := atoms_spec (ws := wU yX7_anew cX7_anew 2 (some .int)) B.pre
  have hq : ∀ w ∈ gW, w.before args s = true := fun w hw => hts w (List.mem_cons_of_mem _ hw)
  have hcm : ∀ w ∈ gW, w ∈ wU yX7_anew cX7_anew 2 (some .int) := fun w hw => List.mem_cons_of_mem _ hw
  have hown : s.vm.findClass RX7 = some m.cls := findClass_of_methodNamed B.named
  have hlocks := B.notSynchronized
  have hF : CallFix p m c cX7_anew 2 s args (wU yX7_anew cX7_anew 2 (some .int)) RX7 := ⟨hx, hb, hml, hown, hts⟩
  have hK := hPre.2.1
  have hZ := hPre.2.2.2
  have hw : Wd D cy shM ad nM (Aw ad nM) s.heap M s.heap [] := ⟨hPre.1, hPre.2.2.1, va_S.rf⟩
  have iw7 : ∀ w ∈ u_ws RX7 TX7 30, w ∈ wU yX7_anew cX7_anew 2 (some .int) := fun w hw => List.mem_cons_of_mem _ (iX7 w hw)
  rw [show entryFrame m args 2 = entryFrame m ([.ref (ad o0)] : List Value).toArray 2 from by rw [hargs]]
  have hl := lv_entry ([.ref (ad o0)]) (n := 2) (Nat.le_of_ble_eq_true rfl)
  rw [lg_entry_eq]
  generalize (lg_sl ([.ref (ad o0)]) ++ List.replicate (2 - (lg_sl ([.ref (ad o0)])).length) Slot.unset).toArray = ls at hl ⊢
  have hl : lv_has ls 2 [(0, .ref (ad o0))] := hl
  unfold f_X7_anew at h
  refine lv_aload_n hx hb dX7_anew_0 rfl (lv_at hl 0 rfl) ?_
  replace h := gd_some h
  obtain ⟨g1, h⟩ := h
  replace h := bd_some h
  obtain ⟨q2, eq2, h⟩ := h
  refine r_getR hx hb hts iw7 hown hK hw o0 0 g1 (by decide) rfl (by decide) rfl (hq _ qw888) (fun _ h9 => h9) dX7_anew_1 eq2 ?_
  refine lv_iconst (v := (2 : Int32)) hx hb dX7_anew_4 (by decide) ?_
  replace h := gd_some h
  obtain ⟨g3, h⟩ := h
  refine r_iald hx hb hK hw q2 g3 dX7_anew_5 ?_
  refine lv_istore_n (lv' := [(1, .int (M.1 q2 (2 : Int32).toNatClampNeg)), (0, .ref (ad o0))]) hx hb dX7_anew_6 rfl hl (by decide) rfl (fun ls hl => ?_)
  refine lv_aload_n hx hb dX7_anew_7 rfl (lv_at hl 1 rfl) ?_
  replace h := bd_some h
  obtain ⟨q4, eq4, h⟩ := h
  refine r_getR hx hb hts iw7 hown hK hw o0 0 g1 (by decide) rfl (by decide) rfl (hq _ qw888) (fun _ h9 => h9) dX7_anew_8 eq4 ?_
  refine lv_iconst (v := (2 : Int32)) hx hb dX7_anew_11 (by decide) ?_
  refine lv_iconst (v := (0 : Int32)) hx hb dX7_anew_12 (by decide) ?_
  replace h := gd_some h
  obtain ⟨g5, h⟩ := h
  refine r_iast hx hb hK hw q4 g5 dX7_anew_13 (fun H locs hw => ?_)
  replace h := lt_some h
  obtain ⟨M6, eM6, h⟩ := h
  rw [← eM6] at hw
  refine lv_iload_n hx hb dX7_anew_14 rfl (lv_at hl 0 rfl) ?_
  exact r_iret hx hb hr rfl hlocks hZ hK hw h dX7_anew_15
theorem dX7_leads_0 : decode cX7_leads 0 = .ok (.aload_n 0, 1) := by decide +kernel
theorem dX7_leads_1 : decode cX7_leads 1 = .ok (.getfield 7, 3) := by decide +kernel
theorem dX7_leads_4 : decode cX7_leads 4 = .ok (.iconst 0, 1) := by decide +kernel
theorem dX7_leads_5 : decode cX7_leads 5 = .ok (.iaload, 1) := by decide +kernel
theorem dX7_leads_6 : decode cX7_leads 6 = .ok (.ifCond .ne 11, 3) := by decide +kernel
theorem dX7_leads_9 : decode cX7_leads 9 = .ok (.aload_n 0, 1) := by decide +kernel
theorem dX7_leads_10 : decode cX7_leads 10 = .ok (.iconst 3, 1) := by decide +kernel
theorem dX7_leads_11 : decode cX7_leads 11 = .ok (.invokevirtual 115, 3) := by decide +kernel
theorem dX7_leads_14 : decode cX7_leads 14 = .ok (.goto 7, 3) := by decide +kernel
theorem dX7_leads_17 : decode cX7_leads 17 = .ok (.aload_n 0, 1) := by decide +kernel
theorem dX7_leads_18 : decode cX7_leads 18 = .ok (.invokevirtual 245, 3) := by decide +kernel
theorem dX7_leads_21 : decode cX7_leads 21 = .ok (.ireturn, 1) := by decide +kernel
set_option maxHeartbeats 4000000 in
set_option maxRecDepth 100000 in
theorem c_X7_leads (l : Launch) (D : va_G) (cy : Nat → ClassId) (ad adK adV : Nat → Nat) (M : Mm) (o0 : Nat) (res : Mm × Int32) (h : f_X7_leads M o0 = some res) : Met l yX7_leads (wU yX7_leads cX7_leads 1 (some .int)) rmX7_leads (va_Pc [.ref (ad o0)] (Pre D cy shM ad nM adK adV M)) (va_Qi (fun r (M2 : Mm) => r = res.2 ∧ M2 = res.1) (Pre D cy shM ad nM adK adV) (Aw ad nM)) 0 0 (Aw ad nM) := by
  refine Met.ofW (cc := cX7_leads) (maxL := 1) (ret := (some .int)) (by decide) rfl ?_
  intro p e s m args below meth c s₁ B hml hv
  obtain ⟨hargs, hPre⟩ := hv
  have hx := B.exec
  have hb := B.bytes
  have hr := B.returns
  have hts := atoms_spec (ws := wU yX7_leads cX7_leads 1 (some .int)) B.pre
  have hq : ∀ w ∈ gW, w.before args s = true := fun w hw => hts w (List.mem_cons_of_mem _ hw)
  have hcm : ∀ w ∈ gW, w ∈ wU yX7_leads cX7_leads 1 (some .int) := fun w hw => List.mem_cons_of_mem _ hw
  have hown : s.vm.findClass RX7 = some m.cls := findClass_of_methodNamed B.named
  have hlocks := B.notSynchronized
  have hF : CallFix p m c cX7_leads 1 s args (wU yX7_leads cX7_leads 1 (some .int)) RX7 := ⟨hx, hb, hml, hown, hts⟩
  have hK := hPre.2.1
  have hZ := hPre.2.2.2
  have hw : Wd D cy shM ad nM (Aw ad nM) s.heap M s.heap [] := ⟨hPre.1, hPre.2.2.1, va_S.rf⟩
  have iw7 : ∀ w ∈ u_ws RX7 TX7 30, w ∈ wU yX7_leads cX7_leads 1 (some .int) := fun w hw => List.mem_cons_of_mem _ (iX7 w hw)
  rw [show entryFrame m args 1 = entryFrame m ([.ref (ad o0)] : List Value).toArray 1 from by rw [hargs]]
  have hl := lv_entry ([.ref (ad o0)]) (n := 1) (Nat.le_of_ble_eq_true rfl)
  rw [lg_entry_eq]
  generalize (lg_sl ([.ref (ad o0)]) ++ List.replicate (1 - (lg_sl ([.ref (ad o0)])).length) Slot.unset).toArray = ls at hl ⊢
  have hl : lv_has ls 1 [(0, .ref (ad o0))] := hl
  unfold f_X7_leads at h
  refine lv_aload_n hx hb dX7_leads_0 rfl (lv_at hl 0 rfl) ?_
  replace h := gd_some h
  obtain ⟨g1, h⟩ := h
  replace h := bd_some h
  obtain ⟨q2, eq2, h⟩ := h
  refine r_getR hx hb hts iw7 hown hK hw o0 0 g1 (by decide) rfl (by decide) rfl (hq _ qw888) (fun _ h9 => h9) dX7_leads_1 eq2 ?_
  refine lv_iconst (v := (0 : Int32)) hx hb dX7_leads_4 (by decide) ?_
  replace h := gd_some h
  obtain ⟨g3, h⟩ := h
  refine r_iald hx hb hK hw q2 g3 dX7_leads_5 ?_
  refine lv_if_ne (tgt := 17) hx hb dX7_leads_6 (by decide) (fun c4 => ?_) (fun c4 => ?_)
  · replace h := if_some_f c4 h
    refine lv_aload_n hx hb dX7_leads_17 rfl (lv_at hl 0 rfl) ?_
    replace h := bd_some h
    obtain ⟨r5, er5, h⟩ := h
    refine r_callVi (As := []) (rest := []) hF (c_X7_leader l D cy ad adK adV M o0 r5 er5) (gW_goodV hcm qw1195 qw1192 qw1194 qw51 qw67) hdX7_leader rfl ⟨Nat.le_of_ble_eq_true rfl, Nat.le_of_ble_eq_true rfl⟩ rfl rfl hZ hK hw g1 (by decide) rfl rfl hl.1 rfl (Nat.le_of_ble_eq_true rfl) ⟨Nat.zero_le _, Nat.zero_le _⟩ dX7_leads_18 (fun H locs hw => ?_)
    exact r_iret hx hb hr rfl hlocks hZ hK hw h dX7_leads_21
  · replace h := if_some_t c4 h
    refine lv_aload_n hx hb dX7_leads_9 rfl (lv_at hl 0 rfl) ?_
    refine lv_iconst (v := (3 : Int32)) hx hb dX7_leads_10 (by decide) ?_
    replace h := bd_some h
    obtain ⟨r6, er6, h⟩ := h
    refine r_callVi (As := [.int (3 : Int32)]) (rest := []) hF (c_X7_finding l D cy ad adK adV M o0 (3 : Int32) r6 er6) (gW_goodV hcm qw989 qw986 qw988 qw18 qw67) hdX7_finding rfl ⟨Nat.le_of_ble_eq_true rfl, Nat.le_of_ble_eq_true rfl⟩ rfl rfl hZ hK hw g1 (by decide) rfl rfl hl.1 rfl (Nat.le_of_ble_eq_true rfl) ⟨Nat.zero_le _, Nat.zero_le _⟩ dX7_leads_11 (fun H locs hw => ?_)
    refine lv_goto (tgt := 21) hx hb dX7_leads_14 (by decide) ?_
    exact r_iret hx hb hr rfl hlocks hZ hK hw h dX7_leads_21
theorem dX7_place_0 : decode cX7_place 0 = .ok (.aload_n 0, 1) := by decide +kernel
theorem dX7_place_1 : decode cX7_place 1 = .ok (.iload_n 1, 1) := by decide +kernel
theorem dX7_place_2 : decode cX7_place 2 = .ok (.invokevirtual 121, 3) := by decide +kernel
theorem dX7_place_5 : decode cX7_place 5 = .ok (.ifCond .ne 9, 3) := by decide +kernel
theorem dX7_place_8 : decode cX7_place 8 = .ok (.aload_n 0, 1) := by decide +kernel
theorem dX7_place_9 : decode cX7_place 9 = .ok (.iconst 0, 1) := by decide +kernel
theorem dX7_place_10 : decode cX7_place 10 = .ok (.invokevirtual 115, 3) := by decide +kernel
theorem dX7_place_13 : decode cX7_place 13 = .ok (.ireturn, 1) := by decide +kernel
theorem dX7_place_14 : decode cX7_place 14 = .ok (.iconst 1, 1) := by decide +kernel
theorem dX7_place_15 : decode cX7_place 15 = .ok (.istore_n 2, 1) := by decide +kernel
theorem dX7_place_16 : decode cX7_place 16 = .ok (.iconst 0, 1) := by decide +kernel
theorem dX7_place_17 : decode cX7_place 17 = .ok (.istore_n 3, 1) := by decide +kernel
theorem dX7_place_18 : decode cX7_place 18 = .ok (.iload_n 3, 1) := by decide +kernel
theorem dX7_place_19 : decode cX7_place 19 = .ok (.aload_n 0, 1) := by decide +kernel
theorem dX7_place_20 : decode cX7_place 20 = .ok (.getfield 7, 3) := by decide +kernel
theorem dX7_place_23 : decode cX7_place 23 = .ok (.iconst 0, 1) := by decide +kernel
theorem dX7_place_24 : decode cX7_place 24 = .ok (.iaload, 1) := by decide +kernel
theorem dX7_place_25 : decode cX7_place 25 = .ok (.if_icmp .ge 30, 3) := by decide +kernel
theorem dX7_place_28 : decode cX7_place 28 = .ok (.iload_n 2, 1) := by decide +kernel
theorem dX7_place_29 : decode cX7_place 29 = .ok (.aload_n 0, 1) := by decide +kernel
theorem dX7_place_30 : decode cX7_place 30 = .ok (.iload_n 3, 1) := by decide +kernel
theorem dX7_place_31 : decode cX7_place 31 = .ok (.invokevirtual 101, 3) := by decide +kernel
theorem dX7_place_34 : decode cX7_place 34 = .ok (.aload_n 0, 1) := by decide +kernel
theorem dX7_place_35 : decode cX7_place 35 = .ok (.iload_n 1, 1) := by decide +kernel
theorem dX7_place_36 : decode cX7_place 36 = .ok (.invokevirtual 101, 3) := by decide +kernel
theorem dX7_place_39 : decode cX7_place 39 = .ok (.if_icmp .le 7, 3) := by decide +kernel
theorem dX7_place_42 : decode cX7_place 42 = .ok (.iconst 1, 1) := by decide +kernel
theorem dX7_place_43 : decode cX7_place 43 = .ok (.goto 4, 3) := by decide +kernel
theorem dX7_place_46 : decode cX7_place 46 = .ok (.iconst 0, 1) := by decide +kernel
theorem dX7_place_47 : decode cX7_place 47 = .ok (.iadd, 1) := by decide +kernel
theorem dX7_place_48 : decode cX7_place 48 = .ok (.istore_n 2, 1) := by decide +kernel
theorem dX7_place_49 : decode cX7_place 49 = .ok (.iinc 3 1, 3) := by decide +kernel
theorem dX7_place_52 : decode cX7_place 52 = .ok (.goto (-34), 3) := by decide +kernel
theorem dX7_place_55 : decode cX7_place 55 = .ok (.iload_n 2, 1) := by decide +kernel
theorem dX7_place_56 : decode cX7_place 56 = .ok (.ireturn, 1) := by decide +kernel
set_option maxHeartbeats 4000000 in
set_option maxRecDepth 100000 in
theorem c_X7_place (l : Launch) (D : va_G) (cy : Nat → ClassId) (ad adK adV : Nat → Nat) (M : Mm) (o0 : Nat) (a1 : Int32) (res : Mm × Int32) (h : f_X7_place M o0 a1 = some res) : Met l yX7_place (wU yX7_place cX7_place 4 (some .int)) rmX7_place (va_Pc [.ref (ad o0), .int a1] (Pre D cy shM ad nM adK adV M)) (va_Qi (fun r (M2 : Mm) => r = res.2 ∧ M2 = res.1) (Pre D cy shM ad nM adK adV) (Aw ad nM)) 0 0 (Aw ad nM) := by
  refine Met.ofW (cc := cX7_place) (maxL := 4) (ret := (some .int)) (by decide) rfl ?_
  intro p e s m args below meth c s₁ B hml hv
  obtain ⟨hargs, hPre⟩ := hv
  have hx := B.exec
  have hb := B.bytes
  have hr := B.returns
  have hts := atoms_spec (ws := wU yX7_place cX7_place 4 (some .int)) B.pre
  have hq : ∀ w ∈ gW, w.before args s = true := fun w hw => hts w (List.mem_cons_of_mem _ hw)
  have hcm : ∀ w ∈ gW, w ∈ wU yX7_place cX7_place 4 (some .int) := fun w hw => List.mem_cons_of_mem _ hw
  have hown : s.vm.findClass RX7 = some m.cls := findClass_of_methodNamed B.named
  have hlocks := B.notSynchronized
  have hF : CallFix p m c cX7_place 4 s args (wU yX7_place cX7_place 4 (some .int)) RX7 := ⟨hx, hb, hml, hown, hts⟩
  have hK := hPre.2.1
  have hZ := hPre.2.2.2
  have hw : Wd D cy shM ad nM (Aw ad nM) s.heap M s.heap [] := ⟨hPre.1, hPre.2.2.1, va_S.rf⟩
  have iw7 : ∀ w ∈ u_ws RX7 TX7 30, w ∈ wU yX7_place cX7_place 4 (some .int) := fun w hw => List.mem_cons_of_mem _ (iX7 w hw)
  rw [show entryFrame m args 4 = entryFrame m ([.ref (ad o0), .int a1] : List Value).toArray 4 from by rw [hargs]]
  have hl := lv_entry ([.ref (ad o0), .int a1]) (n := 4) (Nat.le_of_ble_eq_true rfl)
  rw [lg_entry_eq]
  generalize (lg_sl ([.ref (ad o0), .int a1]) ++ List.replicate (4 - (lg_sl ([.ref (ad o0), .int a1])).length) Slot.unset).toArray = ls at hl ⊢
  have hl : lv_has ls 4 [(0, .ref (ad o0)), (1, .int a1)] := hl
  have hb47 : ∀ (k18 : Mm → Nat → Int32 → Int32 → Int32 → Option (Mm × Int32)) (hk18 : ∀ (M : Mm) (x0 : Nat) (x1 : Int32) (x2 : Int32) (x3 : Int32), k18 M x0 x1 x2 x3 = some res → ∀ (H : Heap) (locs : List Loc) (ls : Array Slot), Wd D cy shM ad nM (Aw ad nM) s.heap M H locs → lv_has ls 4 [(0, .ref (ad x0)), (1, .int x1), (2, .int x2), (3, .int x3)] → W p l e (headSpec (wU yX7_place cX7_place 4 (some .int)) rmX7_place).room s m args below meth c H locs 0 0 (QI D cy shM ad nM adK adV below args s res) (F0 m 18 ls [])), ∀ (M : Mm) (x0 : Nat) (x1 : Int32) (x3 : Int32) (t0 : Int32) (t1 : Int32), f_X7_place_b47 k18 M x0 x1 x3 t0 t1 = some res → ∀ (H : Heap) (locs : List Loc) (ls : Array Slot), Wd D cy shM ad nM (Aw ad nM) s.heap M H locs → lv_has ls 4 [(0, .ref (ad x0)), (1, .int x1), (3, .int x3)] → W p l e (headSpec (wU yX7_place cX7_place 4 (some .int)) rmX7_place).room s m args below meth c H locs 0 0 (QI D cy shM ad nM adK adV below args s res) (F0 m 47 ls [.int t1, .int t0]) := by
    intro k18 hk18
    intro M x0 x1 x3 t0 t1 h H locs ls hw hl
    unfold f_X7_place_b47 at h
    refine lv_iadd hx hb dX7_place_47 ?_
    refine lv_istore_n (lv' := [(2, .int (t0 + t1)), (0, .ref (ad x0)), (1, .int x1), (3, .int x3)]) hx hb dX7_place_48 rfl hl (by decide) rfl (fun ls hl => ?_)
    refine lv_iinc (v := x3 + (1 : Int32)) (lv' := [(3, .int (x3 + (1 : Int32))), (2, .int (t0 + t1)), (0, .ref (ad x0)), (1, .int x1)]) hx hb dX7_place_49 hl (k := 3) rfl (congrArg (fun z => x3 + z) (by decide)) (by decide) rfl (fun ls hl => ?_)
    refine lv_goto (tgt := 18) hx hb dX7_place_52 (by decide) ?_
    exact hk18 _ _ _ _ _ h _ _ _ hw (lv_sub hl [2, 3, 1, 0] rfl)
  have hb18 : ∀ (nn : Nat), ∀ (M : Mm) (x0 : Nat) (x1 : Int32) (x2 : Int32) (x3 : Int32), f_X7_place_b18 nn M x0 x1 x2 x3 = some res → ∀ (H : Heap) (locs : List Loc) (ls : Array Slot), Wd D cy shM ad nM (Aw ad nM) s.heap M H locs → lv_has ls 4 [(0, .ref (ad x0)), (1, .int x1), (2, .int x2), (3, .int x3)] → W p l e (headSpec (wU yX7_place cX7_place 4 (some .int)) rmX7_place).room s m args below meth c H locs 0 0 (QI D cy shM ad nM adK adV below args s res) (F0 m 18 ls []) := by
    intro nn
    induction nn with
    | zero => intro M x0 x1 x2 x3 h; simp [f_X7_place_b18] at h
    | succ nn ih =>
      intro M x0 x1 x2 x3 h H locs ls hw hl
      unfold f_X7_place_b18 at h
      refine lv_iload_n hx hb dX7_place_18 rfl (lv_at hl 3 rfl) ?_
      refine lv_aload_n hx hb dX7_place_19 rfl (lv_at hl 0 rfl) ?_
      replace h := gd_some h
      obtain ⟨g1, h⟩ := h
      replace h := bd_some h
      obtain ⟨q2, eq2, h⟩ := h
      refine r_getR hx hb hts iw7 hown hK hw x0 0 g1 (by decide) rfl (by decide) rfl (hq _ qw888) (fun _ h9 => h9) dX7_place_20 eq2 ?_
      refine lv_iconst (v := (0 : Int32)) hx hb dX7_place_23 (by decide) ?_
      replace h := gd_some h
      obtain ⟨g3, h⟩ := h
      refine r_iald hx hb hK hw q2 g3 dX7_place_24 ?_
      refine lv_icmp_ge (tgt := 55) hx hb dX7_place_25 (by decide) (fun c4 => ?_) (fun c4 => ?_)
      · replace h := if_some_t c4 h
        refine lv_iload_n hx hb dX7_place_55 rfl (lv_at hl 2 rfl) ?_
        exact r_iret hx hb hr rfl hlocks hZ hK hw h dX7_place_56
      · replace h := if_some_f c4 h
        refine lv_iload_n hx hb dX7_place_28 rfl (lv_at hl 2 rfl) ?_
        refine lv_aload_n hx hb dX7_place_29 rfl (lv_at hl 0 rfl) ?_
        refine lv_iload_n hx hb dX7_place_30 rfl (lv_at hl 3 rfl) ?_
        replace h := bd_some h
        obtain ⟨r5, er5, h⟩ := h
        refine r_callVi (As := [.int x3]) (rest := [.int x2]) hF (c_X7_points l D cy ad adK adV M x0 x3 r5 er5) (gW_goodV hcm qw1006 qw1003 qw1005 qw21 qw67) hdX7_points rfl ⟨Nat.le_of_ble_eq_true rfl, Nat.le_of_ble_eq_true rfl⟩ rfl rfl hZ hK hw g1 (by decide) rfl rfl hl.1 rfl (Nat.le_of_ble_eq_true rfl) ⟨Nat.zero_le _, Nat.zero_le _⟩ dX7_place_31 (fun H locs hw => ?_)
        refine lv_aload_n hx hb dX7_place_34 rfl (lv_at hl 0 rfl) ?_
        refine lv_iload_n hx hb dX7_place_35 rfl (lv_at hl 1 rfl) ?_
        replace h := bd_some h
        obtain ⟨r6, er6, h⟩ := h
        refine r_callVi (As := [.int x1]) (rest := [.int r5.2, .int x2]) hF (c_X7_points l D cy ad adK adV r5.1 x0 x1 r6 er6) (gW_goodV hcm qw1006 qw1003 qw1005 qw21 qw67) hdX7_points rfl ⟨Nat.le_of_ble_eq_true rfl, Nat.le_of_ble_eq_true rfl⟩ rfl rfl hZ hK hw g1 (by decide) rfl rfl hl.1 rfl (Nat.le_of_ble_eq_true rfl) ⟨Nat.zero_le _, Nat.zero_le _⟩ dX7_place_36 (fun H locs hw => ?_)
        refine lv_icmp_le (tgt := 46) hx hb dX7_place_39 (by decide) (fun c7 => ?_) (fun c7 => ?_)
        · replace h := if_some_t c7 h
          refine lv_iconst (v := (0 : Int32)) hx hb dX7_place_46 (by decide) ?_
          exact hb47 _ ih _ _ _ _ _ _ h _ _ _ hw (lv_sub hl [0, 1, 3] rfl)
        · replace h := if_some_f c7 h
          refine lv_iconst (v := (1 : Int32)) hx hb dX7_place_42 (by decide) ?_
          refine lv_goto (tgt := 47) hx hb dX7_place_43 (by decide) ?_
          exact hb47 _ ih _ _ _ _ _ _ h _ _ _ hw (lv_sub hl [0, 1, 3] rfl)
  unfold f_X7_place at h
  refine lv_aload_n hx hb dX7_place_0 rfl (lv_at hl 0 rfl) ?_
  refine lv_iload_n hx hb dX7_place_1 rfl (lv_at hl 1 rfl) ?_
  replace h := gd_some h
  obtain ⟨g9, h⟩ := h
  replace h := bd_some h
  obtain ⟨r8, er8, h⟩ := h
  refine r_callVi (As := [.int a1]) (rest := []) hF (c_X7_isSide l D cy ad adK adV M o0 a1 r8 er8) (gW_goodV hcm qw1002 qw999 qw1001 qw20 qw67) hdX7_isSide rfl ⟨Nat.le_of_ble_eq_true rfl, Nat.le_of_ble_eq_true rfl⟩ rfl rfl hZ hK hw g9 (by decide) rfl rfl hl.1 rfl (Nat.le_of_ble_eq_true rfl) ⟨Nat.zero_le _, Nat.zero_le _⟩ dX7_place_2 (fun H locs hw => ?_)
  refine lv_if_ne (tgt := 14) hx hb dX7_place_5 (by decide) (fun c10 => ?_) (fun c10 => ?_)
  · replace h := if_some_f c10 h
    refine lv_iconst (v := (1 : Int32)) hx hb dX7_place_14 (by decide) ?_
    refine lv_istore_n (lv' := [(2, .int (1 : Int32)), (0, .ref (ad o0)), (1, .int a1)]) hx hb dX7_place_15 rfl hl (by decide) rfl (fun ls hl => ?_)
    refine lv_iconst (v := (0 : Int32)) hx hb dX7_place_16 (by decide) ?_
    refine lv_istore_n (lv' := [(3, .int (0 : Int32)), (2, .int (1 : Int32)), (0, .ref (ad o0)), (1, .int a1)]) hx hb dX7_place_17 rfl hl (by decide) rfl (fun ls hl => ?_)
    exact hb18 1000 _ _ _ _ _ h _ _ _ hw (lv_sub hl [2, 3, 1, 0] rfl)
  · replace h := if_some_t c10 h
    refine lv_aload_n hx hb dX7_place_8 rfl (lv_at hl 0 rfl) ?_
    refine lv_iconst (v := (0 : Int32)) hx hb dX7_place_9 (by decide) ?_
    replace h := bd_some h
    obtain ⟨r11, er11, h⟩ := h
    refine r_callVi (As := [.int (0 : Int32)]) (rest := []) hF (c_X7_finding l D cy ad adK adV r8.1 o0 (0 : Int32) r11 er11) (gW_goodV hcm qw989 qw986 qw988 qw18 qw67) hdX7_finding rfl ⟨Nat.le_of_ble_eq_true rfl, Nat.le_of_ble_eq_true rfl⟩ rfl rfl hZ hK hw g9 (by decide) rfl rfl hl.1 rfl (Nat.le_of_ble_eq_true rfl) ⟨Nat.zero_le _, Nat.zero_le _⟩ dX7_place_10 (fun H locs hw => ?_)
    exact r_iret hx hb hr rfl hlocks hZ hK hw h dX7_place_13
theorem dX7_ends_0 : decode cX7_ends 0 = .ok (.aload_n 0, 1) := by decide +kernel
theorem dX7_ends_1 : decode cX7_ends 1 = .ok (.dup, 1) := by decide +kernel
theorem dX7_ends_2 : decode cX7_ends 2 = .ok (.getfield 248, 3) := by decide +kernel
theorem dX7_ends_5 : decode cX7_ends 5 = .ok (.lload_n 1, 1) := by decide +kernel
theorem dX7_ends_6 : decode cX7_ends 6 = .ok (.lconst 0, 1) := by decide +kernel
theorem dX7_ends_7 : decode cX7_ends 7 = .ok (.lcmp, 1) := by decide +kernel
theorem dX7_ends_8 : decode cX7_ends 8 = .ok (.ifCond .le 7, 3) := by decide +kernel
theorem dX7_ends_11 : decode cX7_ends 11 = .ok (.iconst 1, 1) := by decide +kernel
theorem dX7_ends_12 : decode cX7_ends 12 = .ok (.goto 4, 3) := by decide +kernel
theorem dX7_ends_15 : decode cX7_ends 15 = .ok (.iconst 0, 1) := by decide +kernel
theorem dX7_ends_16 : decode cX7_ends 16 = .ok (.iadd, 1) := by decide +kernel
theorem dX7_ends_17 : decode cX7_ends 17 = .ok (.putfield 248, 3) := by decide +kernel
theorem dX7_ends_20 : decode cX7_ends 20 = .ok (.iconst 0, 1) := by decide +kernel
theorem dX7_ends_21 : decode cX7_ends 21 = .ok (.istore_n 3, 1) := by decide +kernel
theorem dX7_ends_22 : decode cX7_ends 22 = .ok (.iload_n 3, 1) := by decide +kernel
theorem dX7_ends_23 : decode cX7_ends 23 = .ok (.aload_n 0, 1) := by decide +kernel
theorem dX7_ends_24 : decode cX7_ends 24 = .ok (.getfield 7, 3) := by decide +kernel
theorem dX7_ends_27 : decode cX7_ends 27 = .ok (.iconst 1, 1) := by decide +kernel
theorem dX7_ends_28 : decode cX7_ends 28 = .ok (.iaload, 1) := by decide +kernel
theorem dX7_ends_29 : decode cX7_ends 29 = .ok (.if_icmp .ge 58, 3) := by decide +kernel
theorem dX7_ends_32 : decode cX7_ends 32 = .ok (.aload_n 0, 1) := by decide +kernel
theorem dX7_ends_33 : decode cX7_ends 33 = .ok (.getfield 29, 3) := by decide +kernel
theorem dX7_ends_36 : decode cX7_ends 36 = .ok (.bipush 6, 2) := by decide +kernel
theorem dX7_ends_38 : decode cX7_ends 38 = .ok (.iload_n 3, 1) := by decide +kernel
theorem dX7_ends_39 : decode cX7_ends 39 = .ok (.imul, 1) := by decide +kernel
theorem dX7_ends_40 : decode cX7_ends 40 = .ok (.aload_n 0, 1) := by decide +kernel
theorem dX7_ends_41 : decode cX7_ends 41 = .ok (.iload_n 3, 1) := by decide +kernel
theorem dX7_ends_42 : decode cX7_ends 42 = .ok (.iconst 4, 1) := by decide +kernel
theorem dX7_ends_43 : decode cX7_ends 43 = .ok (.invokevirtual 71, 3) := by decide +kernel
theorem dX7_ends_46 : decode cX7_ends 46 = .ok (.iadd, 1) := by decide +kernel
theorem dX7_ends_47 : decode cX7_ends 47 = .ok (.dup2, 1) := by decide +kernel
theorem dX7_ends_48 : decode cX7_ends 48 = .ok (.laload, 1) := by decide +kernel
theorem dX7_ends_49 : decode cX7_ends 49 = .ok (.lload_n 1, 1) := by decide +kernel
theorem dX7_ends_50 : decode cX7_ends 50 = .ok (.ladd, 1) := by decide +kernel
theorem dX7_ends_51 : decode cX7_ends 51 = .ok (.lastore, 1) := by decide +kernel
theorem dX7_ends_52 : decode cX7_ends 52 = .ok (.aload_n 0, 1) := by decide +kernel
theorem dX7_ends_53 : decode cX7_ends 53 = .ok (.getfield 33, 3) := by decide +kernel
theorem dX7_ends_56 : decode cX7_ends 56 = .ok (.iload_n 3, 1) := by decide +kernel
theorem dX7_ends_57 : decode cX7_ends 57 = .ok (.dup2, 1) := by decide +kernel
theorem dX7_ends_58 : decode cX7_ends 58 = .ok (.laload, 1) := by decide +kernel
theorem dX7_ends_59 : decode cX7_ends 59 = .ok (.aload_n 0, 1) := by decide +kernel
theorem dX7_ends_60 : decode cX7_ends 60 = .ok (.iload_n 3, 1) := by decide +kernel
theorem dX7_ends_61 : decode cX7_ends 61 = .ok (.iconst 4, 1) := by decide +kernel
theorem dX7_ends_62 : decode cX7_ends 62 = .ok (.invokevirtual 71, 3) := by decide +kernel
theorem dX7_ends_65 : decode cX7_ends 65 = .ok (.aload_n 0, 1) := by decide +kernel
theorem dX7_ends_66 : decode cX7_ends 66 = .ok (.iload_n 3, 1) := by decide +kernel
theorem dX7_ends_67 : decode cX7_ends 67 = .ok (.iconst 3, 1) := by decide +kernel
theorem dX7_ends_68 : decode cX7_ends 68 = .ok (.invokevirtual 71, 3) := by decide +kernel
theorem dX7_ends_71 : decode cX7_ends 71 = .ok (.if_icmp .ne 7, 3) := by decide +kernel
theorem dX7_ends_74 : decode cX7_ends 74 = .ok (.lconst 0, 1) := by decide +kernel
theorem dX7_ends_75 : decode cX7_ends 75 = .ok (.goto 4, 3) := by decide +kernel
theorem dX7_ends_78 : decode cX7_ends 78 = .ok (.lload_n 1, 1) := by decide +kernel
theorem dX7_ends_79 : decode cX7_ends 79 = .ok (.ladd, 1) := by decide +kernel
theorem dX7_ends_80 : decode cX7_ends 80 = .ok (.lastore, 1) := by decide +kernel
theorem dX7_ends_81 : decode cX7_ends 81 = .ok (.iinc 3 1, 3) := by decide +kernel
theorem dX7_ends_84 : decode cX7_ends 84 = .ok (.goto (-62), 3) := by decide +kernel
theorem dX7_ends_87 : decode cX7_ends 87 = .ok (.iconst 0, 1) := by decide +kernel
theorem dX7_ends_88 : decode cX7_ends 88 = .ok (.istore_n 3, 1) := by decide +kernel
theorem dX7_ends_89 : decode cX7_ends 89 = .ok (.iload_n 3, 1) := by decide +kernel
theorem dX7_ends_90 : decode cX7_ends 90 = .ok (.aload_n 0, 1) := by decide +kernel
theorem dX7_ends_91 : decode cX7_ends 91 = .ok (.getfield 7, 3) := by decide +kernel
theorem dX7_ends_94 : decode cX7_ends 94 = .ok (.iconst 0, 1) := by decide +kernel
theorem dX7_ends_95 : decode cX7_ends 95 = .ok (.iaload, 1) := by decide +kernel
theorem dX7_ends_96 : decode cX7_ends 96 = .ok (.if_icmp .ge 81, 3) := by decide +kernel
theorem dX7_ends_99 : decode cX7_ends 99 = .ok (.aload_n 0, 1) := by decide +kernel
theorem dX7_ends_100 : decode cX7_ends 100 = .ok (.iload_n 3, 1) := by decide +kernel
theorem dX7_ends_101 : decode cX7_ends 101 = .ok (.invokevirtual 101, 3) := by decide +kernel
theorem dX7_ends_104 : decode cX7_ends 104 = .ok (.istore 4, 2) := by decide +kernel
theorem dX7_ends_106 : decode cX7_ends 106 = .ok (.aload_n 0, 1) := by decide +kernel
theorem dX7_ends_107 : decode cX7_ends 107 = .ok (.getfield 39, 3) := by decide +kernel
theorem dX7_ends_110 : decode cX7_ends 110 = .ok (.iload_n 3, 1) := by decide +kernel
theorem dX7_ends_111 : decode cX7_ends 111 = .ok (.dup2, 1) := by decide +kernel
theorem dX7_ends_112 : decode cX7_ends 112 = .ok (.laload, 1) := by decide +kernel
theorem dX7_ends_113 : decode cX7_ends 113 = .ok (.iload 4, 2) := by decide +kernel
theorem dX7_ends_115 : decode cX7_ends 115 = .ok (.i2l, 1) := by decide +kernel
theorem dX7_ends_116 : decode cX7_ends 116 = .ok (.lload_n 1, 1) := by decide +kernel
theorem dX7_ends_117 : decode cX7_ends 117 = .ok (.lmul, 1) := by decide +kernel
theorem dX7_ends_118 : decode cX7_ends 118 = .ok (.ladd, 1) := by decide +kernel
theorem dX7_ends_119 : decode cX7_ends 119 = .ok (.lastore, 1) := by decide +kernel
theorem dX7_ends_120 : decode cX7_ends 120 = .ok (.aload_n 0, 1) := by decide +kernel
theorem dX7_ends_121 : decode cX7_ends 121 = .ok (.getfield 42, 3) := by decide +kernel
theorem dX7_ends_124 : decode cX7_ends 124 = .ok (.iload_n 3, 1) := by decide +kernel
theorem dX7_ends_125 : decode cX7_ends 125 = .ok (.iload 4, 2) := by decide +kernel
theorem dX7_ends_127 : decode cX7_ends 127 = .ok (.aload_n 0, 1) := by decide +kernel
theorem dX7_ends_128 : decode cX7_ends 128 = .ok (.getfield 42, 3) := by decide +kernel
theorem dX7_ends_131 : decode cX7_ends 131 = .ok (.iload_n 3, 1) := by decide +kernel
theorem dX7_ends_132 : decode cX7_ends 132 = .ok (.iaload, 1) := by decide +kernel
theorem dX7_ends_133 : decode cX7_ends 133 = .ok (.if_icmp .le 8, 3) := by decide +kernel
theorem dX7_ends_136 : decode cX7_ends 136 = .ok (.iload 4, 2) := by decide +kernel
theorem dX7_ends_138 : decode cX7_ends 138 = .ok (.goto 9, 3) := by decide +kernel
theorem dX7_ends_141 : decode cX7_ends 141 = .ok (.aload_n 0, 1) := by decide +kernel
theorem dX7_ends_142 : decode cX7_ends 142 = .ok (.getfield 42, 3) := by decide +kernel
theorem dX7_ends_145 : decode cX7_ends 145 = .ok (.iload_n 3, 1) := by decide +kernel
theorem dX7_ends_146 : decode cX7_ends 146 = .ok (.iaload, 1) := by decide +kernel
theorem dX7_ends_147 : decode cX7_ends 147 = .ok (.iastore, 1) := by decide +kernel
theorem dX7_ends_148 : decode cX7_ends 148 = .ok (.aload_n 0, 1) := by decide +kernel
theorem dX7_ends_149 : decode cX7_ends 149 = .ok (.getfield 45, 3) := by decide +kernel
theorem dX7_ends_152 : decode cX7_ends 152 = .ok (.iload_n 3, 1) := by decide +kernel
theorem dX7_ends_153 : decode cX7_ends 153 = .ok (.dup2, 1) := by decide +kernel
theorem dX7_ends_154 : decode cX7_ends 154 = .ok (.laload, 1) := by decide +kernel
theorem dX7_ends_155 : decode cX7_ends 155 = .ok (.iload 4, 2) := by decide +kernel
theorem dX7_ends_157 : decode cX7_ends 157 = .ok (.aload_n 0, 1) := by decide +kernel
theorem dX7_ends_158 : decode cX7_ends 158 = .ok (.getfield 251, 3) := by decide +kernel
theorem dX7_ends_161 : decode cX7_ends 161 = .ok (.if_icmp .lt 7, 3) := by decide +kernel
theorem dX7_ends_164 : decode cX7_ends 164 = .ok (.lload_n 1, 1) := by decide +kernel
theorem dX7_ends_165 : decode cX7_ends 165 = .ok (.goto 4, 3) := by decide +kernel
theorem dX7_ends_168 : decode cX7_ends 168 = .ok (.lconst 0, 1) := by decide +kernel
theorem dX7_ends_169 : decode cX7_ends 169 = .ok (.ladd, 1) := by decide +kernel
theorem dX7_ends_170 : decode cX7_ends 170 = .ok (.lastore, 1) := by decide +kernel
theorem dX7_ends_171 : decode cX7_ends 171 = .ok (.iinc 3 1, 3) := by decide +kernel
theorem dX7_ends_174 : decode cX7_ends 174 = .ok (.goto (-85), 3) := by decide +kernel
theorem dX7_ends_177 : decode cX7_ends 177 = .ok (.aload_n 0, 1) := by decide +kernel
theorem dX7_ends_178 : decode cX7_ends 178 = .ok (.getfield 36, 3) := by decide +kernel
theorem dX7_ends_181 : decode cX7_ends 181 = .ok (.aload_n 0, 1) := by decide +kernel
theorem dX7_ends_182 : decode cX7_ends 182 = .ok (.invokevirtual 245, 3) := by decide +kernel
theorem dX7_ends_185 : decode cX7_ends 185 = .ok (.dup2, 1) := by decide +kernel
theorem dX7_ends_186 : decode cX7_ends 186 = .ok (.laload, 1) := by decide +kernel
theorem dX7_ends_187 : decode cX7_ends 187 = .ok (.lload_n 1, 1) := by decide +kernel
theorem dX7_ends_188 : decode cX7_ends 188 = .ok (.ladd, 1) := by decide +kernel
theorem dX7_ends_189 : decode cX7_ends 189 = .ok (.lastore, 1) := by decide +kernel
theorem dX7_ends_190 : decode cX7_ends 190 = .ok (.return_, 1) := by decide +kernel
set_option maxHeartbeats 4000000 in
set_option maxRecDepth 100000 in
theorem c_X7_ends (l : Launch) (D : va_G) (cy : Nat → ClassId) (ad adK adV : Nat → Nat) (M : Mm) (o0 : Nat) (a1 : Int64) (res : Mm × Unit) (h : f_X7_ends M o0 a1 = some res) : Met l yX7_ends (wU yX7_ends cX7_ends 5 none) rmX7_ends (va_Pc [.ref (ad o0), .long a1] (Pre D cy shM ad nM adK adV M)) (va_Qv (fun (M2 : Mm) => M2 = res.1) (Pre D cy shM ad nM adK adV) (Aw ad nM)) 0 0 (Aw ad nM) := by
  refine Met.ofW (cc := cX7_ends) (maxL := 5) (ret := none) (by decide) rfl ?_
  intro p e s m args below meth c s₁ B hml hv
  obtain ⟨hargs, hPre⟩ := hv
  have hx := B.exec
  have hb := B.bytes
  have hr := B.returns
  have hts := atoms_spec (ws := wU yX7_ends cX7_ends 5 none) B.pre
  have hq : ∀ w ∈ gW, w.before args s = true := fun w hw => hts w (List.mem_cons_of_mem _ hw)
  have hcm : ∀ w ∈ gW, w ∈ wU yX7_ends cX7_ends 5 none := fun w hw => List.mem_cons_of_mem _ hw
  have hown : s.vm.findClass RX7 = some m.cls := findClass_of_methodNamed B.named
  have hlocks := B.notSynchronized
  have hF : CallFix p m c cX7_ends 5 s args (wU yX7_ends cX7_ends 5 none) RX7 := ⟨hx, hb, hml, hown, hts⟩
  have hK := hPre.2.1
  have hZ := hPre.2.2.2
  have hw : Wd D cy shM ad nM (Aw ad nM) s.heap M s.heap [] := ⟨hPre.1, hPre.2.2.1, va_S.rf⟩
  have iw7 : ∀ w ∈ u_ws RX7 TX7 30, w ∈ wU yX7_ends cX7_ends 5 none := fun w hw => List.mem_cons_of_mem _ (iX7 w hw)
  rw [show entryFrame m args 5 = entryFrame m ([.ref (ad o0), .long a1] : List Value).toArray 5 from by rw [hargs]]
  have hl := lv_entry ([.ref (ad o0), .long a1]) (n := 5) (Nat.le_of_ble_eq_true rfl)
  rw [lg_entry_eq]
  generalize (lg_sl ([.ref (ad o0), .long a1]) ++ List.replicate (5 - (lg_sl ([.ref (ad o0), .long a1])).length) Slot.unset).toArray = ls at hl ⊢
  have hl : lv_has ls 5 [(0, .ref (ad o0)), (1, .long a1)] := hl
  have hb169 : ∀ (k89 : Mm → Nat → Int64 → Int32 → Option (Mm × Unit)) (hk89 : ∀ (M : Mm) (x0 : Nat) (x1 : Int64) (x3 : Int32), k89 M x0 x1 x3 = some res → ∀ (H : Heap) (locs : List Loc) (ls : Array Slot), Wd D cy shM ad nM (Aw ad nM) s.heap M H locs → lv_has ls 5 [(0, .ref (ad x0)), (1, .long x1), (3, .int x3)] → W p l e (headSpec (wU yX7_ends cX7_ends 5 none) rmX7_ends).room s m args below meth c H locs 0 0 (QV D cy shM ad nM adK adV below args s res) (F0 m 89 ls [])), ∀ (M : Mm) (x0 : Nat) (x1 : Int64) (x3 : Int32) (t0 : Nat) (t1 : Int32) (t2 : Int64) (t3 : Int64), f_X7_ends_b169 k89 M x0 x1 x3 t0 t1 t2 t3 = some res → ∀ (H : Heap) (locs : List Loc) (ls : Array Slot), Wd D cy shM ad nM (Aw ad nM) s.heap M H locs → lv_has ls 5 [(0, .ref (ad x0)), (1, .long x1), (3, .int x3)] → W p l e (headSpec (wU yX7_ends cX7_ends 5 none) rmX7_ends).room s m args below meth c H locs 0 0 (QV D cy shM ad nM adK adV below args s res) (F0 m 169 ls [.long t3, .long t2, .int t1, .ref (ad t0)]) := by
    intro k89 hk89
    intro M x0 x1 x3 t0 t1 t2 t3 h H locs ls hw hl
    unfold f_X7_ends_b169 at h
    refine lv_ladd hx hb dX7_ends_169 ?_
    replace h := gd_some h
    obtain ⟨g1, h⟩ := h
    refine r_last hx hb hK hw t0 g1 dX7_ends_170 (fun H locs hw => ?_)
    replace h := lt_some h
    obtain ⟨M2, eM2, h⟩ := h
    rw [← eM2] at hw
    refine lv_iinc (v := x3 + (1 : Int32)) (lv' := [(3, .int (x3 + (1 : Int32))), (0, .ref (ad x0)), (1, .long x1)]) hx hb dX7_ends_171 hl (k := 2) rfl (congrArg (fun z => x3 + z) (by decide)) (by decide) rfl (fun ls hl => ?_)
    refine lv_goto (tgt := 89) hx hb dX7_ends_174 (by decide) ?_
    exact hk89 _ _ _ _ h _ _ _ hw (lv_sub hl [1, 2, 0] rfl)
  have hb147 : ∀ (k89 : Mm → Nat → Int64 → Int32 → Option (Mm × Unit)) (hk89 : ∀ (M : Mm) (x0 : Nat) (x1 : Int64) (x3 : Int32), k89 M x0 x1 x3 = some res → ∀ (H : Heap) (locs : List Loc) (ls : Array Slot), Wd D cy shM ad nM (Aw ad nM) s.heap M H locs → lv_has ls 5 [(0, .ref (ad x0)), (1, .long x1), (3, .int x3)] → W p l e (headSpec (wU yX7_ends cX7_ends 5 none) rmX7_ends).room s m args below meth c H locs 0 0 (QV D cy shM ad nM adK adV below args s res) (F0 m 89 ls [])), ∀ (M : Mm) (x0 : Nat) (x1 : Int64) (x3 : Int32) (x4 : Int32) (t0 : Nat) (t1 : Int32) (t2 : Int32), f_X7_ends_b147 k89 M x0 x1 x3 x4 t0 t1 t2 = some res → ∀ (H : Heap) (locs : List Loc) (ls : Array Slot), Wd D cy shM ad nM (Aw ad nM) s.heap M H locs → lv_has ls 5 [(0, .ref (ad x0)), (1, .long x1), (3, .int x3), (4, .int x4)] → W p l e (headSpec (wU yX7_ends cX7_ends 5 none) rmX7_ends).room s m args below meth c H locs 0 0 (QV D cy shM ad nM adK adV below args s res) (F0 m 147 ls [.int t2, .int t1, .ref (ad t0)]) := by
    intro k89 hk89
    intro M x0 x1 x3 x4 t0 t1 t2 h H locs ls hw hl
    unfold f_X7_ends_b147 at h
    replace h := gd_some h
    obtain ⟨g3, h⟩ := h
    refine r_iast hx hb hK hw t0 g3 dX7_ends_147 (fun H locs hw => ?_)
    replace h := lt_some h
    obtain ⟨M4, eM4, h⟩ := h
    rw [← eM4] at hw
    refine lv_aload_n hx hb dX7_ends_148 rfl (lv_at hl 0 rfl) ?_
    replace h := gd_some h
    obtain ⟨g5, h⟩ := h
    replace h := bd_some h
    obtain ⟨q6, eq6, h⟩ := h
    refine r_getR hx hb hts iw7 hown hK hw x0 22 g5 (by decide) rfl (by decide) rfl (hq _ qw910) (fun _ h9 => h9) dX7_ends_149 eq6 ?_
    refine lv_iload_n hx hb dX7_ends_152 rfl (lv_at hl 2 rfl) ?_
    refine lv_dup2_11 hx hb dX7_ends_153 rfl rfl ?_
    replace h := gd_some h
    obtain ⟨g7, h⟩ := h
    refine r_lald hx hb hK hw q6 g7 dX7_ends_154 ?_
    refine lv_iload hx hb dX7_ends_155 (lv_at hl 3 rfl) ?_
    refine lv_aload_n hx hb dX7_ends_157 rfl (lv_at hl 0 rfl) ?_
    refine r_getI hx hb hts iw7 hown hK hw x0 21 g5 (by decide) rfl (by decide) rfl (hq _ qw909) (fun _ h9 => h9) dX7_ends_158 ?_
    refine lv_icmp_lt (tgt := 168) hx hb dX7_ends_161 (by decide) (fun c8 => ?_) (fun c8 => ?_)
    · replace h := if_some_t c8 h
      refine lv_lconst (v := (0 : Int64)) hx hb dX7_ends_168 (by decide) ?_
      exact hb169 _ hk89 _ _ _ _ _ _ _ _ h _ _ _ hw (lv_sub hl [0, 1, 2] rfl)
    · replace h := if_some_f c8 h
      refine lv_lload_n hx hb dX7_ends_164 rfl (lv_at hl 1 rfl) ?_
      refine lv_goto (tgt := 169) hx hb dX7_ends_165 (by decide) ?_
      exact hb169 _ hk89 _ _ _ _ _ _ _ _ h _ _ _ hw (lv_sub hl [0, 1, 2] rfl)
  have hb89 : ∀ (nn : Nat), ∀ (M : Mm) (x0 : Nat) (x1 : Int64) (x3 : Int32), f_X7_ends_b89 nn M x0 x1 x3 = some res → ∀ (H : Heap) (locs : List Loc) (ls : Array Slot), Wd D cy shM ad nM (Aw ad nM) s.heap M H locs → lv_has ls 5 [(0, .ref (ad x0)), (1, .long x1), (3, .int x3)] → W p l e (headSpec (wU yX7_ends cX7_ends 5 none) rmX7_ends).room s m args below meth c H locs 0 0 (QV D cy shM ad nM adK adV below args s res) (F0 m 89 ls []) := by
    intro nn
    induction nn with
    | zero => intro M x0 x1 x3 h; simp [f_X7_ends_b89] at h
    | succ nn ih =>
      intro M x0 x1 x3 h H locs ls hw hl
      unfold f_X7_ends_b89 at h
      refine lv_iload_n hx hb dX7_ends_89 rfl (lv_at hl 2 rfl) ?_
      refine lv_aload_n hx hb dX7_ends_90 rfl (lv_at hl 0 rfl) ?_
      replace h := gd_some h
      obtain ⟨g9, h⟩ := h
      replace h := bd_some h
      obtain ⟨q10, eq10, h⟩ := h
      refine r_getR hx hb hts iw7 hown hK hw x0 0 g9 (by decide) rfl (by decide) rfl (hq _ qw888) (fun _ h9 => h9) dX7_ends_91 eq10 ?_
      refine lv_iconst (v := (0 : Int32)) hx hb dX7_ends_94 (by decide) ?_
      replace h := gd_some h
      obtain ⟨g11, h⟩ := h
      refine r_iald hx hb hK hw q10 g11 dX7_ends_95 ?_
      refine lv_icmp_ge (tgt := 177) hx hb dX7_ends_96 (by decide) (fun c12 => ?_) (fun c12 => ?_)
      · replace h := if_some_t c12 h
        refine lv_aload_n hx hb dX7_ends_177 rfl (lv_at hl 0 rfl) ?_
        replace h := bd_some h
        obtain ⟨q13, eq13, h⟩ := h
        refine r_getR hx hb hts iw7 hown hK hw x0 18 g9 (by decide) rfl (by decide) rfl (hq _ qw906) (fun _ h9 => h9) dX7_ends_178 eq13 ?_
        refine lv_aload_n hx hb dX7_ends_181 rfl (lv_at hl 0 rfl) ?_
        replace h := bd_some h
        obtain ⟨r14, er14, h⟩ := h
        refine r_callVi (As := []) (rest := [.ref (ad q13)]) hF (c_X7_leader l D cy ad adK adV M x0 r14 er14) (gW_goodV hcm qw1195 qw1192 qw1194 qw51 qw67) hdX7_leader rfl ⟨Nat.le_of_ble_eq_true rfl, Nat.le_of_ble_eq_true rfl⟩ rfl rfl hZ hK hw g9 (by decide) rfl rfl hl.1 rfl (Nat.le_of_ble_eq_true rfl) ⟨Nat.zero_le _, Nat.zero_le _⟩ dX7_ends_182 (fun H locs hw => ?_)
        refine lv_dup2_11 hx hb dX7_ends_185 rfl rfl ?_
        replace h := gd_some h
        obtain ⟨g15, h⟩ := h
        refine r_lald hx hb hK hw q13 g15 dX7_ends_186 ?_
        refine lv_lload_n hx hb dX7_ends_187 rfl (lv_at hl 1 rfl) ?_
        refine lv_ladd hx hb dX7_ends_188 ?_
        replace h := gd_some h
        obtain ⟨g16, h⟩ := h
        refine r_last hx hb hK hw q13 g16 dX7_ends_189 (fun H locs hw => ?_)
        replace h := lt_some h
        obtain ⟨M17, eM17, h⟩ := h
        rw [← eM17] at hw
        exact r_vret hx hb hr hlocks hZ hK hw h dX7_ends_190
      · replace h := if_some_f c12 h
        refine lv_aload_n hx hb dX7_ends_99 rfl (lv_at hl 0 rfl) ?_
        refine lv_iload_n hx hb dX7_ends_100 rfl (lv_at hl 2 rfl) ?_
        replace h := bd_some h
        obtain ⟨r18, er18, h⟩ := h
        refine r_callVi (As := [.int x3]) (rest := []) hF (c_X7_points l D cy ad adK adV M x0 x3 r18 er18) (gW_goodV hcm qw1006 qw1003 qw1005 qw21 qw67) hdX7_points rfl ⟨Nat.le_of_ble_eq_true rfl, Nat.le_of_ble_eq_true rfl⟩ rfl rfl hZ hK hw g9 (by decide) rfl rfl hl.1 rfl (Nat.le_of_ble_eq_true rfl) ⟨Nat.zero_le _, Nat.zero_le _⟩ dX7_ends_101 (fun H locs hw => ?_)
        refine lv_istore (lv' := [(4, .int r18.2), (0, .ref (ad x0)), (1, .long x1), (3, .int x3)]) hx hb dX7_ends_104 hl (by decide) rfl (fun ls hl => ?_)
        refine lv_aload_n hx hb dX7_ends_106 rfl (lv_at hl 1 rfl) ?_
        replace h := bd_some h
        obtain ⟨q19, eq19, h⟩ := h
        refine r_getR hx hb hts iw7 hown hK hw x0 19 g9 (by decide) rfl (by decide) rfl (hq _ qw907) (fun _ h9 => h9) dX7_ends_107 eq19 ?_
        refine lv_iload_n hx hb dX7_ends_110 rfl (lv_at hl 3 rfl) ?_
        refine lv_dup2_11 hx hb dX7_ends_111 rfl rfl ?_
        replace h := gd_some h
        obtain ⟨g20, h⟩ := h
        refine r_lald hx hb hK hw q19 g20 dX7_ends_112 ?_
        refine lv_iload hx hb dX7_ends_113 (lv_at hl 0 rfl) ?_
        refine lv_i2l (v := r18.2.toInt64) hx hb dX7_ends_115 rfl ?_
        refine lv_lload_n hx hb dX7_ends_116 rfl (lv_at hl 2 rfl) ?_
        refine lv_lmul hx hb dX7_ends_117 ?_
        refine lv_ladd hx hb dX7_ends_118 ?_
        replace h := gd_some h
        obtain ⟨g21, h⟩ := h
        refine r_last hx hb hK hw q19 g21 dX7_ends_119 (fun H locs hw => ?_)
        replace h := lt_some h
        obtain ⟨M22, eM22, h⟩ := h
        rw [← eM22] at hw
        refine lv_aload_n hx hb dX7_ends_120 rfl (lv_at hl 1 rfl) ?_
        replace h := bd_some h
        obtain ⟨q23, eq23, h⟩ := h
        refine r_getR hx hb hts iw7 hown hK hw x0 20 g9 (by decide) rfl (by decide) rfl (hq _ qw908) (fun _ h9 => h9) dX7_ends_121 eq23 ?_
        refine lv_iload_n hx hb dX7_ends_124 rfl (lv_at hl 3 rfl) ?_
        refine lv_iload hx hb dX7_ends_125 (lv_at hl 0 rfl) ?_
        refine lv_aload_n hx hb dX7_ends_127 rfl (lv_at hl 1 rfl) ?_
        replace h := bd_some h
        obtain ⟨q24, eq24, h⟩ := h
        refine r_getR hx hb hts iw7 hown hK hw x0 20 g9 (by decide) rfl (by decide) rfl (hq _ qw908) (fun _ h9 => h9) dX7_ends_128 eq24 ?_
        refine lv_iload_n hx hb dX7_ends_131 rfl (lv_at hl 3 rfl) ?_
        replace h := gd_some h
        obtain ⟨g25, h⟩ := h
        refine r_iald hx hb hK hw q24 g25 dX7_ends_132 ?_
        refine lv_icmp_le (tgt := 141) hx hb dX7_ends_133 (by decide) (fun c26 => ?_) (fun c26 => ?_)
        · replace h := if_some_t c26 h
          refine lv_aload_n hx hb dX7_ends_141 rfl (lv_at hl 1 rfl) ?_
          replace h := bd_some h
          obtain ⟨q27, eq27, h⟩ := h
          refine r_getR hx hb hts iw7 hown hK hw x0 20 g9 (by decide) rfl (by decide) rfl (hq _ qw908) (fun _ h9 => h9) dX7_ends_142 eq27 ?_
          refine lv_iload_n hx hb dX7_ends_145 rfl (lv_at hl 3 rfl) ?_
          replace h := gd_some h
          obtain ⟨g28, h⟩ := h
          refine r_iald hx hb hK hw q27 g28 dX7_ends_146 ?_
          exact hb147 _ ih _ _ _ _ _ _ _ _ h _ _ _ hw (lv_sub hl [1, 2, 3, 0] rfl)
        · replace h := if_some_f c26 h
          refine lv_iload hx hb dX7_ends_136 (lv_at hl 0 rfl) ?_
          refine lv_goto (tgt := 147) hx hb dX7_ends_138 (by decide) ?_
          exact hb147 _ ih _ _ _ _ _ _ _ _ h _ _ _ hw (lv_sub hl [1, 2, 3, 0] rfl)
  have hb79 : ∀ (k22 : Mm → Nat → Int64 → Int32 → Option (Mm × Unit)) (hk22 : ∀ (M : Mm) (x0 : Nat) (x1 : Int64) (x3 : Int32), k22 M x0 x1 x3 = some res → ∀ (H : Heap) (locs : List Loc) (ls : Array Slot), Wd D cy shM ad nM (Aw ad nM) s.heap M H locs → lv_has ls 5 [(0, .ref (ad x0)), (1, .long x1), (3, .int x3)] → W p l e (headSpec (wU yX7_ends cX7_ends 5 none) rmX7_ends).room s m args below meth c H locs 0 0 (QV D cy shM ad nM adK adV below args s res) (F0 m 22 ls [])), ∀ (M : Mm) (x0 : Nat) (x1 : Int64) (x3 : Int32) (t0 : Nat) (t1 : Int32) (t2 : Int64) (t3 : Int64), f_X7_ends_b79 k22 M x0 x1 x3 t0 t1 t2 t3 = some res → ∀ (H : Heap) (locs : List Loc) (ls : Array Slot), Wd D cy shM ad nM (Aw ad nM) s.heap M H locs → lv_has ls 5 [(0, .ref (ad x0)), (1, .long x1), (3, .int x3)] → W p l e (headSpec (wU yX7_ends cX7_ends 5 none) rmX7_ends).room s m args below meth c H locs 0 0 (QV D cy shM ad nM adK adV below args s res) (F0 m 79 ls [.long t3, .long t2, .int t1, .ref (ad t0)]) := by
    intro k22 hk22
    intro M x0 x1 x3 t0 t1 t2 t3 h H locs ls hw hl
    unfold f_X7_ends_b79 at h
    refine lv_ladd hx hb dX7_ends_79 ?_
    replace h := gd_some h
    obtain ⟨g29, h⟩ := h
    refine r_last hx hb hK hw t0 g29 dX7_ends_80 (fun H locs hw => ?_)
    replace h := lt_some h
    obtain ⟨M30, eM30, h⟩ := h
    rw [← eM30] at hw
    refine lv_iinc (v := x3 + (1 : Int32)) (lv' := [(3, .int (x3 + (1 : Int32))), (0, .ref (ad x0)), (1, .long x1)]) hx hb dX7_ends_81 hl (k := 2) rfl (congrArg (fun z => x3 + z) (by decide)) (by decide) rfl (fun ls hl => ?_)
    refine lv_goto (tgt := 22) hx hb dX7_ends_84 (by decide) ?_
    exact hk22 _ _ _ _ h _ _ _ hw (lv_sub hl [1, 2, 0] rfl)
  have hb22 : ∀ (nn : Nat), ∀ (M : Mm) (x0 : Nat) (x1 : Int64) (x3 : Int32), f_X7_ends_b22 nn M x0 x1 x3 = some res → ∀ (H : Heap) (locs : List Loc) (ls : Array Slot), Wd D cy shM ad nM (Aw ad nM) s.heap M H locs → lv_has ls 5 [(0, .ref (ad x0)), (1, .long x1), (3, .int x3)] → W p l e (headSpec (wU yX7_ends cX7_ends 5 none) rmX7_ends).room s m args below meth c H locs 0 0 (QV D cy shM ad nM adK adV below args s res) (F0 m 22 ls []) := by
    intro nn
    induction nn with
    | zero => intro M x0 x1 x3 h; simp [f_X7_ends_b22] at h
    | succ nn ih =>
      intro M x0 x1 x3 h H locs ls hw hl
      unfold f_X7_ends_b22 at h
      refine lv_iload_n hx hb dX7_ends_22 rfl (lv_at hl 2 rfl) ?_
      refine lv_aload_n hx hb dX7_ends_23 rfl (lv_at hl 0 rfl) ?_
      replace h := gd_some h
      obtain ⟨g31, h⟩ := h
      replace h := bd_some h
      obtain ⟨q32, eq32, h⟩ := h
      refine r_getR hx hb hts iw7 hown hK hw x0 0 g31 (by decide) rfl (by decide) rfl (hq _ qw888) (fun _ h9 => h9) dX7_ends_24 eq32 ?_
      refine lv_iconst (v := (1 : Int32)) hx hb dX7_ends_27 (by decide) ?_
      replace h := gd_some h
      obtain ⟨g33, h⟩ := h
      refine r_iald hx hb hK hw q32 g33 dX7_ends_28 ?_
      refine lv_icmp_ge (tgt := 87) hx hb dX7_ends_29 (by decide) (fun c34 => ?_) (fun c34 => ?_)
      · replace h := if_some_t c34 h
        refine lv_iconst (v := (0 : Int32)) hx hb dX7_ends_87 (by decide) ?_
        refine lv_istore_n (lv' := [(3, .int (0 : Int32)), (0, .ref (ad x0)), (1, .long x1)]) hx hb dX7_ends_88 rfl hl (by decide) rfl (fun ls hl => ?_)
        exact hb89 1000 _ _ _ _ h _ _ _ hw (lv_sub hl [1, 2, 0] rfl)
      · replace h := if_some_f c34 h
        refine lv_aload_n hx hb dX7_ends_32 rfl (lv_at hl 0 rfl) ?_
        replace h := bd_some h
        obtain ⟨q35, eq35, h⟩ := h
        refine r_getR hx hb hts iw7 hown hK hw x0 16 g31 (by decide) rfl (by decide) rfl (hq _ qw904) (fun _ h9 => h9) dX7_ends_33 eq35 ?_
        refine lv_bipush (v := (6 : Int32)) hx hb dX7_ends_36 (by decide) ?_
        refine lv_iload_n hx hb dX7_ends_38 rfl (lv_at hl 2 rfl) ?_
        refine lv_imul hx hb dX7_ends_39 ?_
        refine lv_aload_n hx hb dX7_ends_40 rfl (lv_at hl 0 rfl) ?_
        refine lv_iload_n hx hb dX7_ends_41 rfl (lv_at hl 2 rfl) ?_
        refine lv_iconst (v := (4 : Int32)) hx hb dX7_ends_42 (by decide) ?_
        replace h := bd_some h
        obtain ⟨r36, er36, h⟩ := h
        refine r_callVi (As := [.int x3, .int (4 : Int32)]) (rest := [.int ((6 : Int32) * x3), .ref (ad q35)]) hF (c_X7_of l D cy ad adK adV M x0 x3 (4 : Int32) r36 er36) (gW_goodV hcm qw1010 qw1007 qw1009 qw22 qw67) hdX7_of rfl ⟨Nat.le_of_ble_eq_true rfl, Nat.le_of_ble_eq_true rfl⟩ rfl rfl hZ hK hw g31 (by decide) rfl rfl hl.1 rfl (Nat.le_of_ble_eq_true rfl) ⟨Nat.zero_le _, Nat.zero_le _⟩ dX7_ends_43 (fun H locs hw => ?_)
        refine lv_iadd hx hb dX7_ends_46 ?_
        refine lv_dup2_11 hx hb dX7_ends_47 rfl rfl ?_
        replace h := gd_some h
        obtain ⟨g37, h⟩ := h
        refine r_lald hx hb hK hw q35 g37 dX7_ends_48 ?_
        refine lv_lload_n hx hb dX7_ends_49 rfl (lv_at hl 1 rfl) ?_
        refine lv_ladd hx hb dX7_ends_50 ?_
        replace h := gd_some h
        obtain ⟨g38, h⟩ := h
        refine r_last hx hb hK hw q35 g38 dX7_ends_51 (fun H locs hw => ?_)
        replace h := lt_some h
        obtain ⟨M39, eM39, h⟩ := h
        rw [← eM39] at hw
        refine lv_aload_n hx hb dX7_ends_52 rfl (lv_at hl 0 rfl) ?_
        replace h := bd_some h
        obtain ⟨q40, eq40, h⟩ := h
        refine r_getR hx hb hts iw7 hown hK hw x0 17 g31 (by decide) rfl (by decide) rfl (hq _ qw905) (fun _ h9 => h9) dX7_ends_53 eq40 ?_
        refine lv_iload_n hx hb dX7_ends_56 rfl (lv_at hl 2 rfl) ?_
        refine lv_dup2_11 hx hb dX7_ends_57 rfl rfl ?_
        replace h := gd_some h
        obtain ⟨g41, h⟩ := h
        refine r_lald hx hb hK hw q40 g41 dX7_ends_58 ?_
        refine lv_aload_n hx hb dX7_ends_59 rfl (lv_at hl 0 rfl) ?_
        refine lv_iload_n hx hb dX7_ends_60 rfl (lv_at hl 2 rfl) ?_
        refine lv_iconst (v := (4 : Int32)) hx hb dX7_ends_61 (by decide) ?_
        replace h := bd_some h
        obtain ⟨r42, er42, h⟩ := h
        refine r_callVi (As := [.int x3, .int (4 : Int32)]) (rest := [.long (M39.2.1 q40 x3.toNatClampNeg), .int x3, .ref (ad q40)]) hF (c_X7_of l D cy ad adK adV M39 x0 x3 (4 : Int32) r42 er42) (gW_goodV hcm qw1010 qw1007 qw1009 qw22 qw67) hdX7_of rfl ⟨Nat.le_of_ble_eq_true rfl, Nat.le_of_ble_eq_true rfl⟩ rfl rfl hZ hK hw g31 (by decide) rfl rfl hl.1 rfl (Nat.le_of_ble_eq_true rfl) ⟨Nat.zero_le _, Nat.zero_le _⟩ dX7_ends_62 (fun H locs hw => ?_)
        refine lv_aload_n hx hb dX7_ends_65 rfl (lv_at hl 0 rfl) ?_
        refine lv_iload_n hx hb dX7_ends_66 rfl (lv_at hl 2 rfl) ?_
        refine lv_iconst (v := (3 : Int32)) hx hb dX7_ends_67 (by decide) ?_
        replace h := bd_some h
        obtain ⟨r43, er43, h⟩ := h
        refine r_callVi (As := [.int x3, .int (3 : Int32)]) (rest := [.int r42.2, .long (M39.2.1 q40 x3.toNatClampNeg), .int x3, .ref (ad q40)]) hF (c_X7_of l D cy ad adK adV r42.1 x0 x3 (3 : Int32) r43 er43) (gW_goodV hcm qw1010 qw1007 qw1009 qw22 qw67) hdX7_of rfl ⟨Nat.le_of_ble_eq_true rfl, Nat.le_of_ble_eq_true rfl⟩ rfl rfl hZ hK hw g31 (by decide) rfl rfl hl.1 rfl (Nat.le_of_ble_eq_true rfl) ⟨Nat.zero_le _, Nat.zero_le _⟩ dX7_ends_68 (fun H locs hw => ?_)
        refine lv_icmp_ne (tgt := 78) hx hb dX7_ends_71 (by decide) (fun c44 => ?_) (fun c44 => ?_)
        · replace h := if_some_f c44 h
          refine lv_lload_n hx hb dX7_ends_78 rfl (lv_at hl 1 rfl) ?_
          exact hb79 _ ih _ _ _ _ _ _ _ _ h _ _ _ hw (lv_sub hl [0, 1, 2] rfl)
        · replace h := if_some_t c44 h
          refine lv_lconst (v := (0 : Int64)) hx hb dX7_ends_74 (by decide) ?_
          refine lv_goto (tgt := 79) hx hb dX7_ends_75 (by decide) ?_
          exact hb79 _ ih _ _ _ _ _ _ _ _ h _ _ _ hw (lv_sub hl [0, 1, 2] rfl)
  have hb16 : ∀ (M : Mm) (x0 : Nat) (x1 : Int64) (t0 : Nat) (t1 : Int32) (t2 : Int32), f_X7_ends_b16 M x0 x1 t0 t1 t2 = some res → ∀ (H : Heap) (locs : List Loc) (ls : Array Slot), Wd D cy shM ad nM (Aw ad nM) s.heap M H locs → lv_has ls 5 [(0, .ref (ad x0)), (1, .long x1)] → W p l e (headSpec (wU yX7_ends cX7_ends 5 none) rmX7_ends).room s m args below meth c H locs 0 0 (QV D cy shM ad nM adK adV below args s res) (F0 m 16 ls [.int t2, .int t1, .ref (ad t0)]) := by
    intro M x0 x1 t0 t1 t2 h H locs ls hw hl
    unfold f_X7_ends_b16 at h
    refine lv_iadd hx hb dX7_ends_16 ?_
    replace h := gd_some h
    obtain ⟨g45, h⟩ := h
    refine r_putI hx hb hts iw7 tyX7 tyX7_ok nmX7 hown hK hw t0 23 g45 (by decide) rfl (by decide) rfl (hq _ qw911) (fun _ h9 => h9) rfl rfl rfl dX7_ends_17 (fun H locs hw => ?_)
    replace h := lt_some h
    obtain ⟨M46, eM46, h⟩ := h
    rw [← eM46] at hw
    refine lv_iconst (v := (0 : Int32)) hx hb dX7_ends_20 (by decide) ?_
    refine lv_istore_n (lv' := [(3, .int (0 : Int32)), (0, .ref (ad x0)), (1, .long x1)]) hx hb dX7_ends_21 rfl hl (by decide) rfl (fun ls hl => ?_)
    exact hb22 1000 _ _ _ _ h _ _ _ hw (lv_sub hl [1, 2, 0] rfl)
  unfold f_X7_ends at h
  refine lv_aload_n hx hb dX7_ends_0 rfl (lv_at hl 0 rfl) ?_
  refine lv_dup hx hb dX7_ends_1 rfl ?_
  replace h := gd_some h
  obtain ⟨g47, h⟩ := h
  refine r_getI hx hb hts iw7 hown hK hw o0 23 g47 (by decide) rfl (by decide) rfl (hq _ qw911) (fun _ h9 => h9) dX7_ends_2 ?_
  refine lv_lload_n hx hb dX7_ends_5 rfl (lv_at hl 1 rfl) ?_
  refine lv_lconst (v := (0 : Int64)) hx hb dX7_ends_6 (by decide) ?_
  refine W.lcmp hx hb dX7_ends_7 ?_
  refine lv_if_le (tgt := 15) hx hb dX7_ends_8 (by decide) (fun c48 => ?_) (fun c48 => ?_)
  · replace h := if_some_t c48 h
    refine lv_iconst (v := (0 : Int32)) hx hb dX7_ends_15 (by decide) ?_
    exact hb16 _ _ _ _ _ _ h _ _ _ hw (lv_sub hl [0, 1] rfl)
  · replace h := if_some_f c48 h
    refine lv_iconst (v := (1 : Int32)) hx hb dX7_ends_11 (by decide) ?_
    refine lv_goto (tgt := 16) hx hb dX7_ends_12 (by decide) ?_
    exact hb16 _ _ _ _ _ _ h _ _ _ hw (lv_sub hl [0, 1] rfl)
theorem dX7_goesOn_0 : decode cX7_goesOn 0 = .ok (.aload_n 0, 1) := by decide +kernel
theorem dX7_goesOn_1 : decode cX7_goesOn 1 = .ok (.invokevirtual 227, 3) := by decide +kernel
theorem dX7_goesOn_4 : decode cX7_goesOn 4 = .ok (.ifCond .eq 9, 3) := by decide +kernel
theorem dX7_goesOn_7 : decode cX7_goesOn 7 = .ok (.aload_n 0, 1) := by decide +kernel
theorem dX7_goesOn_8 : decode cX7_goesOn 8 = .ok (.lload_n 1, 1) := by decide +kernel
theorem dX7_goesOn_9 : decode cX7_goesOn 9 = .ok (.invokevirtual 254, 3) := by decide +kernel
theorem dX7_goesOn_12 : decode cX7_goesOn 12 = .ok (.return_, 1) := by decide +kernel
theorem dX7_goesOn_13 : decode cX7_goesOn 13 = .ok (.aload_n 0, 1) := by decide +kernel
theorem dX7_goesOn_14 : decode cX7_goesOn 14 = .ok (.getfield 7, 3) := by decide +kernel
theorem dX7_goesOn_17 : decode cX7_goesOn 17 = .ok (.iconst 2, 1) := by decide +kernel
theorem dX7_goesOn_18 : decode cX7_goesOn 18 = .ok (.iaload, 1) := by decide +kernel
theorem dX7_goesOn_19 : decode cX7_goesOn 19 = .ok (.istore_n 3, 1) := by decide +kernel
theorem dX7_goesOn_20 : decode cX7_goesOn 20 = .ok (.aload_n 0, 1) := by decide +kernel
theorem dX7_goesOn_21 : decode cX7_goesOn 21 = .ok (.aload_n 0, 1) := by decide +kernel
theorem dX7_goesOn_22 : decode cX7_goesOn 22 = .ok (.iload_n 3, 1) := by decide +kernel
theorem dX7_goesOn_23 : decode cX7_goesOn 23 = .ok (.iconst 0, 1) := by decide +kernel
theorem dX7_goesOn_24 : decode cX7_goesOn 24 = .ok (.invokevirtual 71, 3) := by decide +kernel
theorem dX7_goesOn_27 : decode cX7_goesOn 27 = .ok (.iload_n 3, 1) := by decide +kernel
theorem dX7_goesOn_28 : decode cX7_goesOn 28 = .ok (.invokevirtual 108, 3) := by decide +kernel
theorem dX7_goesOn_31 : decode cX7_goesOn 31 = .ok (.istore 4, 2) := by decide +kernel
theorem dX7_goesOn_33 : decode cX7_goesOn 33 = .ok (.aload_n 0, 1) := by decide +kernel
theorem dX7_goesOn_34 : decode cX7_goesOn 34 = .ok (.aload_n 0, 1) := by decide +kernel
theorem dX7_goesOn_35 : decode cX7_goesOn 35 = .ok (.iload_n 3, 1) := by decide +kernel
theorem dX7_goesOn_36 : decode cX7_goesOn 36 = .ok (.iconst 1, 1) := by decide +kernel
theorem dX7_goesOn_37 : decode cX7_goesOn 37 = .ok (.invokevirtual 71, 3) := by decide +kernel
theorem dX7_goesOn_40 : decode cX7_goesOn 40 = .ok (.iload_n 3, 1) := by decide +kernel
theorem dX7_goesOn_41 : decode cX7_goesOn 41 = .ok (.invokevirtual 108, 3) := by decide +kernel
theorem dX7_goesOn_44 : decode cX7_goesOn 44 = .ok (.istore 5, 2) := by decide +kernel
theorem dX7_goesOn_46 : decode cX7_goesOn 46 = .ok (.aload_n 0, 1) := by decide +kernel
theorem dX7_goesOn_47 : decode cX7_goesOn 47 = .ok (.iload_n 3, 1) := by decide +kernel
theorem dX7_goesOn_48 : decode cX7_goesOn 48 = .ok (.iload 4, 2) := by decide +kernel
theorem dX7_goesOn_50 : decode cX7_goesOn 50 = .ok (.iload 5, 2) := by decide +kernel
theorem dX7_goesOn_52 : decode cX7_goesOn 52 = .ok (.invokevirtual 230, 3) := by decide +kernel
theorem dX7_goesOn_55 : decode cX7_goesOn 55 = .ok (.istore 6, 2) := by decide +kernel
theorem dX7_goesOn_57 : decode cX7_goesOn 57 = .ok (.aload_n 0, 1) := by decide +kernel
theorem dX7_goesOn_58 : decode cX7_goesOn 58 = .ok (.aload_n 0, 1) := by decide +kernel
theorem dX7_goesOn_59 : decode cX7_goesOn 59 = .ok (.iload_n 3, 1) := by decide +kernel
theorem dX7_goesOn_60 : decode cX7_goesOn 60 = .ok (.iconst 0, 1) := by decide +kernel
theorem dX7_goesOn_61 : decode cX7_goesOn 61 = .ok (.invokevirtual 71, 3) := by decide +kernel
theorem dX7_goesOn_64 : decode cX7_goesOn 64 = .ok (.iload 4, 2) := by decide +kernel
theorem dX7_goesOn_66 : decode cX7_goesOn 66 = .ok (.iload 5, 2) := by decide +kernel
theorem dX7_goesOn_68 : decode cX7_goesOn 68 = .ok (.invokevirtual 111, 3) := by decide +kernel
theorem dX7_goesOn_71 : decode cX7_goesOn 71 = .ok (.aload_n 0, 1) := by decide +kernel
theorem dX7_goesOn_72 : decode cX7_goesOn 72 = .ok (.lload_n 1, 1) := by decide +kernel
theorem dX7_goesOn_73 : decode cX7_goesOn 73 = .ok (.iload 6, 2) := by decide +kernel
theorem dX7_goesOn_75 : decode cX7_goesOn 75 = .ok (.i2l, 1) := by decide +kernel
theorem dX7_goesOn_76 : decode cX7_goesOn 76 = .ok (.lmul, 1) := by decide +kernel
theorem dX7_goesOn_77 : decode cX7_goesOn 77 = .ok (.invokevirtual 258, 3) := by decide +kernel
theorem dX7_goesOn_80 : decode cX7_goesOn 80 = .ok (.aload_n 0, 1) := by decide +kernel
theorem dX7_goesOn_81 : decode cX7_goesOn 81 = .ok (.getfield 7, 3) := by decide +kernel
theorem dX7_goesOn_84 : decode cX7_goesOn 84 = .ok (.iconst 2, 1) := by decide +kernel
theorem dX7_goesOn_85 : decode cX7_goesOn 85 = .ok (.dup2, 1) := by decide +kernel
theorem dX7_goesOn_86 : decode cX7_goesOn 86 = .ok (.iaload, 1) := by decide +kernel
theorem dX7_goesOn_87 : decode cX7_goesOn 87 = .ok (.iconst 1, 1) := by decide +kernel
theorem dX7_goesOn_88 : decode cX7_goesOn 88 = .ok (.isub, 1) := by decide +kernel
theorem dX7_goesOn_89 : decode cX7_goesOn 89 = .ok (.iastore, 1) := by decide +kernel
theorem dX7_goesOn_90 : decode cX7_goesOn 90 = .ok (.aload_n 0, 1) := by decide +kernel
theorem dX7_goesOn_91 : decode cX7_goesOn 91 = .ok (.aload_n 0, 1) := by decide +kernel
theorem dX7_goesOn_92 : decode cX7_goesOn 92 = .ok (.iload_n 3, 1) := by decide +kernel
theorem dX7_goesOn_93 : decode cX7_goesOn 93 = .ok (.iconst 1, 1) := by decide +kernel
theorem dX7_goesOn_94 : decode cX7_goesOn 94 = .ok (.invokevirtual 71, 3) := by decide +kernel
theorem dX7_goesOn_97 : decode cX7_goesOn 97 = .ok (.iload 4, 2) := by decide +kernel
theorem dX7_goesOn_99 : decode cX7_goesOn 99 = .ok (.iload 5, 2) := by decide +kernel
theorem dX7_goesOn_101 : decode cX7_goesOn 101 = .ok (.invokevirtual 111, 3) := by decide +kernel
theorem dX7_goesOn_104 : decode cX7_goesOn 104 = .ok (.aload_n 0, 1) := by decide +kernel
theorem dX7_goesOn_105 : decode cX7_goesOn 105 = .ok (.lload_n 1, 1) := by decide +kernel
theorem dX7_goesOn_106 : decode cX7_goesOn 106 = .ok (.bipush 10, 2) := by decide +kernel
theorem dX7_goesOn_108 : decode cX7_goesOn 108 = .ok (.iload 6, 2) := by decide +kernel
theorem dX7_goesOn_110 : decode cX7_goesOn 110 = .ok (.isub, 1) := by decide +kernel
theorem dX7_goesOn_111 : decode cX7_goesOn 111 = .ok (.i2l, 1) := by decide +kernel
theorem dX7_goesOn_112 : decode cX7_goesOn 112 = .ok (.lmul, 1) := by decide +kernel
theorem dX7_goesOn_113 : decode cX7_goesOn 113 = .ok (.invokevirtual 258, 3) := by decide +kernel
theorem dX7_goesOn_116 : decode cX7_goesOn 116 = .ok (.aload_n 0, 1) := by decide +kernel
theorem dX7_goesOn_117 : decode cX7_goesOn 117 = .ok (.getfield 7, 3) := by decide +kernel
theorem dX7_goesOn_120 : decode cX7_goesOn 120 = .ok (.iconst 2, 1) := by decide +kernel
theorem dX7_goesOn_121 : decode cX7_goesOn 121 = .ok (.dup2, 1) := by decide +kernel
theorem dX7_goesOn_122 : decode cX7_goesOn 122 = .ok (.iaload, 1) := by decide +kernel
theorem dX7_goesOn_123 : decode cX7_goesOn 123 = .ok (.iconst 1, 1) := by decide +kernel
theorem dX7_goesOn_124 : decode cX7_goesOn 124 = .ok (.isub, 1) := by decide +kernel
theorem dX7_goesOn_125 : decode cX7_goesOn 125 = .ok (.iastore, 1) := by decide +kernel
theorem dX7_goesOn_126 : decode cX7_goesOn 126 = .ok (.return_, 1) := by decide +kernel
set_option maxHeartbeats 4000000 in
set_option maxRecDepth 100000 in
theorem c_X7_goesOn (l : Launch) (D : va_G) (cy : Nat → ClassId) (ad adK adV : Nat → Nat) : ∀ (nd : Nat) (M : Mm) (o0 : Nat) (a1 : Int64) (res : Mm × Unit) (h : f_X7_goesOn nd M o0 a1 = some res), Met l yX7_goesOn (wU yX7_goesOn cX7_goesOn 7 none) (rmX7_goesOn nd) (va_Pc [.ref (ad o0), .long a1] (Pre D cy shM ad nM adK adV M)) (va_Qv (fun (M2 : Mm) => M2 = res.1) (Pre D cy shM ad nM adK adV) (Aw ad nM)) 0 0 (Aw ad nM) := by
  intro nd
  induction nd with
  | zero => intro M o0 a1 res h; simp [f_X7_goesOn] at h
  | succ nd hfr =>
  intro M o0 a1 res h
  refine Met.ofW (cc := cX7_goesOn) (maxL := 7) (ret := none) (by decide) rfl ?_
  intro p e s m args below meth c s₁ B hml hv
  obtain ⟨hargs, hPre⟩ := hv
  have hx := B.exec
  have hb := B.bytes
  have hr := B.returns
  have hts := atoms_spec (ws := wU yX7_goesOn cX7_goesOn 7 none) B.pre
  have hq : ∀ w ∈ gW, w.before args s = true := fun w hw => hts w (List.mem_cons_of_mem _ hw)
  have hcm : ∀ w ∈ gW, w ∈ wU yX7_goesOn cX7_goesOn 7 none := fun w hw => List.mem_cons_of_mem _ hw
  have hown : s.vm.findClass RX7 = some m.cls := findClass_of_methodNamed B.named
  have hlocks := B.notSynchronized
  have hF : CallFix p m c cX7_goesOn 7 s args (wU yX7_goesOn cX7_goesOn 7 none) RX7 := ⟨hx, hb, hml, hown, hts⟩
  have hK := hPre.2.1
  have hZ := hPre.2.2.2
  have hw : Wd D cy shM ad nM (Aw ad nM) s.heap M s.heap [] := ⟨hPre.1, hPre.2.2.1, va_S.rf⟩
  have iw7 : ∀ w ∈ u_ws RX7 TX7 30, w ∈ wU yX7_goesOn cX7_goesOn 7 none := fun w hw => List.mem_cons_of_mem _ (iX7 w hw)
  rw [show entryFrame m args 7 = entryFrame m ([.ref (ad o0), .long a1] : List Value).toArray 7 from by rw [hargs]]
  have hl := lv_entry ([.ref (ad o0), .long a1]) (n := 7) (Nat.le_of_ble_eq_true rfl)
  rw [lg_entry_eq]
  generalize (lg_sl ([.ref (ad o0), .long a1]) ++ List.replicate (7 - (lg_sl ([.ref (ad o0), .long a1])).length) Slot.unset).toArray = ls at hl ⊢
  have hl : lv_has ls 7 [(0, .ref (ad o0)), (1, .long a1)] := hl
  unfold f_X7_goesOn at h
  refine lv_aload_n hx hb dX7_goesOn_0 rfl (lv_at hl 0 rfl) ?_
  replace h := gd_some h
  obtain ⟨g2, h⟩ := h
  replace h := bd_some h
  obtain ⟨r1, er1, h⟩ := h
  refine r_callVi (As := []) (rest := []) hF (c_X7_isOver l D cy ad adK adV M o0 r1 er1) (gW_goodV hcm qw1138 qw1135 qw1137 qw41 qw67) hdX7_isOver rfl ⟨by simp only [headSpec, rmX7_isOver, rmX7_goesOn]; omega, by simp only [headSpec, rmX7_isOver, rmX7_goesOn]; omega⟩ rfl rfl hZ hK hw g2 (by decide) rfl rfl hl.1 rfl (Nat.le_of_ble_eq_true rfl) ⟨Nat.zero_le _, Nat.zero_le _⟩ dX7_goesOn_1 (fun H locs hw => ?_)
  refine lv_if_eq (tgt := 13) hx hb dX7_goesOn_4 (by decide) (fun c3 => ?_) (fun c3 => ?_)
  · replace h := if_some_t c3 h
    refine lv_aload_n hx hb dX7_goesOn_13 rfl (lv_at hl 0 rfl) ?_
    replace h := bd_some h
    obtain ⟨q4, eq4, h⟩ := h
    refine r_getR hx hb hts iw7 hown hK hw o0 0 g2 (by decide) rfl (by decide) rfl (hq _ qw888) (fun _ h9 => h9) dX7_goesOn_14 eq4 ?_
    refine lv_iconst (v := (2 : Int32)) hx hb dX7_goesOn_17 (by decide) ?_
    replace h := gd_some h
    obtain ⟨g5, h⟩ := h
    refine r_iald hx hb hK hw q4 g5 dX7_goesOn_18 ?_
    refine lv_istore_n (lv' := [(3, .int (r1.1.1 q4 (2 : Int32).toNatClampNeg)), (0, .ref (ad o0)), (1, .long a1)]) hx hb dX7_goesOn_19 rfl hl (by decide) rfl (fun ls hl => ?_)
    refine lv_aload_n hx hb dX7_goesOn_20 rfl (lv_at hl 1 rfl) ?_
    refine lv_aload_n hx hb dX7_goesOn_21 rfl (lv_at hl 1 rfl) ?_
    refine lv_iload_n hx hb dX7_goesOn_22 rfl (lv_at hl 0 rfl) ?_
    refine lv_iconst (v := (0 : Int32)) hx hb dX7_goesOn_23 (by decide) ?_
    replace h := bd_some h
    obtain ⟨r6, er6, h⟩ := h
    refine r_callVi (As := [.int (r1.1.1 q4 (2 : Int32).toNatClampNeg), .int (0 : Int32)]) (rest := [.ref (ad o0)]) hF (c_X7_of l D cy ad adK adV r1.1 o0 (r1.1.1 q4 (2 : Int32).toNatClampNeg) (0 : Int32) r6 er6) (gW_goodV hcm qw1010 qw1007 qw1009 qw22 qw67) hdX7_of rfl ⟨by simp only [headSpec, rmX7_of, rmX7_goesOn]; omega, by simp only [headSpec, rmX7_of, rmX7_goesOn]; omega⟩ rfl rfl hZ hK hw g2 (by decide) rfl rfl hl.1 rfl (Nat.le_of_ble_eq_true rfl) ⟨Nat.zero_le _, Nat.zero_le _⟩ dX7_goesOn_24 (fun H locs hw => ?_)
    refine lv_iload_n hx hb dX7_goesOn_27 rfl (lv_at hl 0 rfl) ?_
    replace h := bd_some h
    obtain ⟨r7, er7, h⟩ := h
    refine r_callVi (As := [.int r6.2, .int (r1.1.1 q4 (2 : Int32).toNatClampNeg)]) (rest := []) hF (c_X7_effort l D cy ad adK adV r6.1 o0 r6.2 (r1.1.1 q4 (2 : Int32).toNatClampNeg) r7 er7) (gW_goodV hcm qw1142 qw1139 qw1141 qw42 qw67) hdX7_effort rfl ⟨by simp only [headSpec, rmX7_effort, rmX7_goesOn]; omega, by simp only [headSpec, rmX7_effort, rmX7_goesOn]; omega⟩ rfl rfl hZ hK hw g2 (by decide) rfl rfl hl.1 rfl (Nat.le_of_ble_eq_true rfl) ⟨Nat.zero_le _, Nat.zero_le _⟩ dX7_goesOn_28 (fun H locs hw => ?_)
    refine lv_istore (lv' := [(4, .int r7.2), (3, .int (r1.1.1 q4 (2 : Int32).toNatClampNeg)), (0, .ref (ad o0)), (1, .long a1)]) hx hb dX7_goesOn_31 hl (by decide) rfl (fun ls hl => ?_)
    refine lv_aload_n hx hb dX7_goesOn_33 rfl (lv_at hl 2 rfl) ?_
    refine lv_aload_n hx hb dX7_goesOn_34 rfl (lv_at hl 2 rfl) ?_
    refine lv_iload_n hx hb dX7_goesOn_35 rfl (lv_at hl 1 rfl) ?_
    refine lv_iconst (v := (1 : Int32)) hx hb dX7_goesOn_36 (by decide) ?_
    replace h := bd_some h
    obtain ⟨r8, er8, h⟩ := h
    refine r_callVi (As := [.int (r1.1.1 q4 (2 : Int32).toNatClampNeg), .int (1 : Int32)]) (rest := [.ref (ad o0)]) hF (c_X7_of l D cy ad adK adV r7.1 o0 (r1.1.1 q4 (2 : Int32).toNatClampNeg) (1 : Int32) r8 er8) (gW_goodV hcm qw1010 qw1007 qw1009 qw22 qw67) hdX7_of rfl ⟨by simp only [headSpec, rmX7_of, rmX7_goesOn]; omega, by simp only [headSpec, rmX7_of, rmX7_goesOn]; omega⟩ rfl rfl hZ hK hw g2 (by decide) rfl rfl hl.1 rfl (Nat.le_of_ble_eq_true rfl) ⟨Nat.zero_le _, Nat.zero_le _⟩ dX7_goesOn_37 (fun H locs hw => ?_)
    refine lv_iload_n hx hb dX7_goesOn_40 rfl (lv_at hl 1 rfl) ?_
    replace h := bd_some h
    obtain ⟨r9, er9, h⟩ := h
    refine r_callVi (As := [.int r8.2, .int (r1.1.1 q4 (2 : Int32).toNatClampNeg)]) (rest := []) hF (c_X7_effort l D cy ad adK adV r8.1 o0 r8.2 (r1.1.1 q4 (2 : Int32).toNatClampNeg) r9 er9) (gW_goodV hcm qw1142 qw1139 qw1141 qw42 qw67) hdX7_effort rfl ⟨by simp only [headSpec, rmX7_effort, rmX7_goesOn]; omega, by simp only [headSpec, rmX7_effort, rmX7_goesOn]; omega⟩ rfl rfl hZ hK hw g2 (by decide) rfl rfl hl.1 rfl (Nat.le_of_ble_eq_true rfl) ⟨Nat.zero_le _, Nat.zero_le _⟩ dX7_goesOn_41 (fun H locs hw => ?_)
    refine lv_istore (lv' := [(5, .int r9.2), (4, .int r7.2), (3, .int (r1.1.1 q4 (2 : Int32).toNatClampNeg)), (0, .ref (ad o0)), (1, .long a1)]) hx hb dX7_goesOn_44 hl (by decide) rfl (fun ls hl => ?_)
    refine lv_aload_n hx hb dX7_goesOn_46 rfl (lv_at hl 3 rfl) ?_
    refine lv_iload_n hx hb dX7_goesOn_47 rfl (lv_at hl 2 rfl) ?_
    refine lv_iload hx hb dX7_goesOn_48 (lv_at hl 1 rfl) ?_
    refine lv_iload hx hb dX7_goesOn_50 (lv_at hl 0 rfl) ?_
    replace h := bd_some h
    obtain ⟨r10, er10, h⟩ := h
    refine r_callVi (As := [.int (r1.1.1 q4 (2 : Int32).toNatClampNeg), .int r7.2, .int r9.2]) (rest := []) hF (c_X7_chance l D cy ad adK adV r9.1 o0 (r1.1.1 q4 (2 : Int32).toNatClampNeg) r7.2 r9.2 r10 er10) (gW_goodV hcm qw1150 qw1147 qw1149 qw44 qw67) hdX7_chance rfl ⟨by simp only [headSpec, rmX7_chance, rmX7_goesOn]; omega, by simp only [headSpec, rmX7_chance, rmX7_goesOn]; omega⟩ rfl rfl hZ hK hw g2 (by decide) rfl rfl hl.1 rfl (Nat.le_of_ble_eq_true rfl) ⟨Nat.zero_le _, Nat.zero_le _⟩ dX7_goesOn_52 (fun H locs hw => ?_)
    refine lv_istore (lv' := [(6, .int r10.2), (5, .int r9.2), (4, .int r7.2), (3, .int (r1.1.1 q4 (2 : Int32).toNatClampNeg)), (0, .ref (ad o0)), (1, .long a1)]) hx hb dX7_goesOn_55 hl (by decide) rfl (fun ls hl => ?_)
    refine lv_aload_n hx hb dX7_goesOn_57 rfl (lv_at hl 4 rfl) ?_
    refine lv_aload_n hx hb dX7_goesOn_58 rfl (lv_at hl 4 rfl) ?_
    refine lv_iload_n hx hb dX7_goesOn_59 rfl (lv_at hl 3 rfl) ?_
    refine lv_iconst (v := (0 : Int32)) hx hb dX7_goesOn_60 (by decide) ?_
    replace h := bd_some h
    obtain ⟨r11, er11, h⟩ := h
    refine r_callVi (As := [.int (r1.1.1 q4 (2 : Int32).toNatClampNeg), .int (0 : Int32)]) (rest := [.ref (ad o0)]) hF (c_X7_of l D cy ad adK adV r10.1 o0 (r1.1.1 q4 (2 : Int32).toNatClampNeg) (0 : Int32) r11 er11) (gW_goodV hcm qw1010 qw1007 qw1009 qw22 qw67) hdX7_of rfl ⟨by simp only [headSpec, rmX7_of, rmX7_goesOn]; omega, by simp only [headSpec, rmX7_of, rmX7_goesOn]; omega⟩ rfl rfl hZ hK hw g2 (by decide) rfl rfl hl.1 rfl (Nat.le_of_ble_eq_true rfl) ⟨Nat.zero_le _, Nat.zero_le _⟩ dX7_goesOn_61 (fun H locs hw => ?_)
    refine lv_iload hx hb dX7_goesOn_64 (lv_at hl 2 rfl) ?_
    refine lv_iload hx hb dX7_goesOn_66 (lv_at hl 1 rfl) ?_
    replace h := bd_some h
    obtain ⟨r12, er12, h⟩ := h
    refine r_callVv (As := [.int r11.2, .int r7.2, .int r9.2]) (rest := []) hF (c_X7_wins l D cy ad adK adV r11.1 o0 r11.2 r7.2 r9.2 r12 er12) (gW_goodV hcm qw1166 qw1163 qw1165 qw47 qw67) hdX7_wins rfl ⟨by simp only [headSpec, rmX7_wins, rmX7_goesOn]; omega, by simp only [headSpec, rmX7_wins, rmX7_goesOn]; omega⟩ rfl rfl hZ hK hw g2 (by decide) rfl rfl hl.1 rfl (Nat.le_of_ble_eq_true rfl) ⟨Nat.zero_le _, Nat.zero_le _⟩ dX7_goesOn_68 (fun H locs hw => ?_)
    refine lv_aload_n hx hb dX7_goesOn_71 rfl (lv_at hl 4 rfl) ?_
    refine lv_lload_n hx hb dX7_goesOn_72 rfl (lv_at hl 5 rfl) ?_
    refine lv_iload hx hb dX7_goesOn_73 (lv_at hl 0 rfl) ?_
    refine lv_i2l (v := r10.2.toInt64) hx hb dX7_goesOn_75 rfl ?_
    refine lv_lmul hx hb dX7_goesOn_76 ?_
    replace h := bd_some h
    obtain ⟨r13, er13, h⟩ := h
    refine r_callVv (As := [.long (a1 * r10.2.toInt64)]) (rest := []) hF (hfr _ _ _ _ er13) (gW_goodV hcm qw1214 qw1211 qw1213 qw53 qw67) hdX7_goesOn rfl ⟨by simp only [headSpec, rmX7_goesOn]; omega, by simp only [headSpec, rmX7_goesOn]; omega⟩ rfl rfl hZ hK hw g2 (by decide) rfl rfl hl.1 rfl (Nat.le_of_ble_eq_true rfl) ⟨Nat.zero_le _, Nat.zero_le _⟩ dX7_goesOn_77 (fun H locs hw => ?_)
    refine lv_aload_n hx hb dX7_goesOn_80 rfl (lv_at hl 4 rfl) ?_
    replace h := bd_some h
    obtain ⟨q14, eq14, h⟩ := h
    refine r_getR hx hb hts iw7 hown hK hw o0 0 g2 (by decide) rfl (by decide) rfl (hq _ qw888) (fun _ h9 => h9) dX7_goesOn_81 eq14 ?_
    refine lv_iconst (v := (2 : Int32)) hx hb dX7_goesOn_84 (by decide) ?_
    refine lv_dup2_11 hx hb dX7_goesOn_85 rfl rfl ?_
    replace h := gd_some h
    obtain ⟨g15, h⟩ := h
    refine r_iald hx hb hK hw q14 g15 dX7_goesOn_86 ?_
    refine lv_iconst (v := (1 : Int32)) hx hb dX7_goesOn_87 (by decide) ?_
    refine lv_isub hx hb dX7_goesOn_88 ?_
    replace h := gd_some h
    obtain ⟨g16, h⟩ := h
    refine r_iast hx hb hK hw q14 g16 dX7_goesOn_89 (fun H locs hw => ?_)
    replace h := lt_some h
    obtain ⟨M17, eM17, h⟩ := h
    rw [← eM17] at hw
    refine lv_aload_n hx hb dX7_goesOn_90 rfl (lv_at hl 4 rfl) ?_
    refine lv_aload_n hx hb dX7_goesOn_91 rfl (lv_at hl 4 rfl) ?_
    refine lv_iload_n hx hb dX7_goesOn_92 rfl (lv_at hl 3 rfl) ?_
    refine lv_iconst (v := (1 : Int32)) hx hb dX7_goesOn_93 (by decide) ?_
    replace h := bd_some h
    obtain ⟨r18, er18, h⟩ := h
    refine r_callVi (As := [.int (r1.1.1 q4 (2 : Int32).toNatClampNeg), .int (1 : Int32)]) (rest := [.ref (ad o0)]) hF (c_X7_of l D cy ad adK adV M17 o0 (r1.1.1 q4 (2 : Int32).toNatClampNeg) (1 : Int32) r18 er18) (gW_goodV hcm qw1010 qw1007 qw1009 qw22 qw67) hdX7_of rfl ⟨by simp only [headSpec, rmX7_of, rmX7_goesOn]; omega, by simp only [headSpec, rmX7_of, rmX7_goesOn]; omega⟩ rfl rfl hZ hK hw g2 (by decide) rfl rfl hl.1 rfl (Nat.le_of_ble_eq_true rfl) ⟨Nat.zero_le _, Nat.zero_le _⟩ dX7_goesOn_94 (fun H locs hw => ?_)
    refine lv_iload hx hb dX7_goesOn_97 (lv_at hl 2 rfl) ?_
    refine lv_iload hx hb dX7_goesOn_99 (lv_at hl 1 rfl) ?_
    replace h := bd_some h
    obtain ⟨r19, er19, h⟩ := h
    refine r_callVv (As := [.int r18.2, .int r7.2, .int r9.2]) (rest := []) hF (c_X7_wins l D cy ad adK adV r18.1 o0 r18.2 r7.2 r9.2 r19 er19) (gW_goodV hcm qw1166 qw1163 qw1165 qw47 qw67) hdX7_wins rfl ⟨by simp only [headSpec, rmX7_wins, rmX7_goesOn]; omega, by simp only [headSpec, rmX7_wins, rmX7_goesOn]; omega⟩ rfl rfl hZ hK hw g2 (by decide) rfl rfl hl.1 rfl (Nat.le_of_ble_eq_true rfl) ⟨Nat.zero_le _, Nat.zero_le _⟩ dX7_goesOn_101 (fun H locs hw => ?_)
    refine lv_aload_n hx hb dX7_goesOn_104 rfl (lv_at hl 4 rfl) ?_
    refine lv_lload_n hx hb dX7_goesOn_105 rfl (lv_at hl 5 rfl) ?_
    refine lv_bipush (v := (10 : Int32)) hx hb dX7_goesOn_106 (by decide) ?_
    refine lv_iload hx hb dX7_goesOn_108 (lv_at hl 0 rfl) ?_
    refine lv_isub hx hb dX7_goesOn_110 ?_
    refine lv_i2l (v := ((10 : Int32) - r10.2).toInt64) hx hb dX7_goesOn_111 rfl ?_
    refine lv_lmul hx hb dX7_goesOn_112 ?_
    replace h := bd_some h
    obtain ⟨r20, er20, h⟩ := h
    refine r_callVv (As := [.long (a1 * (((10 : Int32) - r10.2).toInt64))]) (rest := []) hF (hfr _ _ _ _ er20) (gW_goodV hcm qw1214 qw1211 qw1213 qw53 qw67) hdX7_goesOn rfl ⟨by simp only [headSpec, rmX7_goesOn]; omega, by simp only [headSpec, rmX7_goesOn]; omega⟩ rfl rfl hZ hK hw g2 (by decide) rfl rfl hl.1 rfl (Nat.le_of_ble_eq_true rfl) ⟨Nat.zero_le _, Nat.zero_le _⟩ dX7_goesOn_113 (fun H locs hw => ?_)
    refine lv_aload_n hx hb dX7_goesOn_116 rfl (lv_at hl 4 rfl) ?_
    replace h := bd_some h
    obtain ⟨q21, eq21, h⟩ := h
    refine r_getR hx hb hts iw7 hown hK hw o0 0 g2 (by decide) rfl (by decide) rfl (hq _ qw888) (fun _ h9 => h9) dX7_goesOn_117 eq21 ?_
    refine lv_iconst (v := (2 : Int32)) hx hb dX7_goesOn_120 (by decide) ?_
    refine lv_dup2_11 hx hb dX7_goesOn_121 rfl rfl ?_
    replace h := gd_some h
    obtain ⟨g22, h⟩ := h
    refine r_iald hx hb hK hw q21 g22 dX7_goesOn_122 ?_
    refine lv_iconst (v := (1 : Int32)) hx hb dX7_goesOn_123 (by decide) ?_
    refine lv_isub hx hb dX7_goesOn_124 ?_
    replace h := gd_some h
    obtain ⟨g23, h⟩ := h
    refine r_iast hx hb hK hw q21 g23 dX7_goesOn_125 (fun H locs hw => ?_)
    replace h := lt_some h
    obtain ⟨M24, eM24, h⟩ := h
    rw [← eM24] at hw
    exact r_vret hx hb hr hlocks hZ hK hw h dX7_goesOn_126
  · replace h := if_some_f c3 h
    refine lv_aload_n hx hb dX7_goesOn_7 rfl (lv_at hl 0 rfl) ?_
    refine lv_lload_n hx hb dX7_goesOn_8 rfl (lv_at hl 1 rfl) ?_
    replace h := bd_some h
    obtain ⟨r25, er25, h⟩ := h
    refine r_callVv (As := [.long a1]) (rest := []) hF (c_X7_ends l D cy ad adK adV r1.1 o0 a1 r25 er25) (gW_goodV hcm qw1218 qw1215 qw1217 qw54 qw67) hdX7_ends rfl ⟨by simp only [headSpec, rmX7_ends, rmX7_goesOn]; omega, by simp only [headSpec, rmX7_ends, rmX7_goesOn]; omega⟩ rfl rfl hZ hK hw g2 (by decide) rfl rfl hl.1 rfl (Nat.le_of_ble_eq_true rfl) ⟨Nat.zero_le _, Nat.zero_le _⟩ dX7_goesOn_9 (fun H locs hw => ?_)
    exact r_vret hx hb hr hlocks hZ hK hw h dX7_goesOn_12
theorem dX7_findWays_0 : decode cX7_findWays 0 = .ok (.iconst 0, 1) := by decide +kernel
theorem dX7_findWays_1 : decode cX7_findWays 1 = .ok (.istore_n 1, 1) := by decide +kernel
theorem dX7_findWays_2 : decode cX7_findWays 2 = .ok (.iload_n 1, 1) := by decide +kernel
theorem dX7_findWays_3 : decode cX7_findWays 3 = .ok (.bipush 48, 2) := by decide +kernel
theorem dX7_findWays_5 : decode cX7_findWays 5 = .ok (.if_icmp .ge 16, 3) := by decide +kernel
theorem dX7_findWays_8 : decode cX7_findWays 8 = .ok (.aload_n 0, 1) := by decide +kernel
theorem dX7_findWays_9 : decode cX7_findWays 9 = .ok (.getfield 29, 3) := by decide +kernel
theorem dX7_findWays_12 : decode cX7_findWays 12 = .ok (.iload_n 1, 1) := by decide +kernel
theorem dX7_findWays_13 : decode cX7_findWays 13 = .ok (.lconst 0, 1) := by decide +kernel
theorem dX7_findWays_14 : decode cX7_findWays 14 = .ok (.lastore, 1) := by decide +kernel
theorem dX7_findWays_15 : decode cX7_findWays 15 = .ok (.iinc 1 1, 3) := by decide +kernel
theorem dX7_findWays_18 : decode cX7_findWays 18 = .ok (.goto (-16), 3) := by decide +kernel
theorem dX7_findWays_21 : decode cX7_findWays 21 = .ok (.iconst 0, 1) := by decide +kernel
theorem dX7_findWays_22 : decode cX7_findWays 22 = .ok (.istore_n 1, 1) := by decide +kernel
theorem dX7_findWays_23 : decode cX7_findWays 23 = .ok (.iload_n 1, 1) := by decide +kernel
theorem dX7_findWays_24 : decode cX7_findWays 24 = .ok (.bipush 8, 2) := by decide +kernel
theorem dX7_findWays_26 : decode cX7_findWays 26 = .ok (.if_icmp .ge 16, 3) := by decide +kernel
theorem dX7_findWays_29 : decode cX7_findWays 29 = .ok (.aload_n 0, 1) := by decide +kernel
theorem dX7_findWays_30 : decode cX7_findWays 30 = .ok (.getfield 33, 3) := by decide +kernel
theorem dX7_findWays_33 : decode cX7_findWays 33 = .ok (.iload_n 1, 1) := by decide +kernel
theorem dX7_findWays_34 : decode cX7_findWays 34 = .ok (.lconst 0, 1) := by decide +kernel
theorem dX7_findWays_35 : decode cX7_findWays 35 = .ok (.lastore, 1) := by decide +kernel
theorem dX7_findWays_36 : decode cX7_findWays 36 = .ok (.iinc 1 1, 3) := by decide +kernel
theorem dX7_findWays_39 : decode cX7_findWays 39 = .ok (.goto (-16), 3) := by decide +kernel
theorem dX7_findWays_42 : decode cX7_findWays 42 = .ok (.iconst 0, 1) := by decide +kernel
theorem dX7_findWays_43 : decode cX7_findWays 43 = .ok (.istore_n 1, 1) := by decide +kernel
theorem dX7_findWays_44 : decode cX7_findWays 44 = .ok (.iload_n 1, 1) := by decide +kernel
theorem dX7_findWays_45 : decode cX7_findWays 45 = .ok (.bipush 6, 2) := by decide +kernel
theorem dX7_findWays_47 : decode cX7_findWays 47 = .ok (.if_icmp .ge 37, 3) := by decide +kernel
theorem dX7_findWays_50 : decode cX7_findWays 50 = .ok (.aload_n 0, 1) := by decide +kernel
theorem dX7_findWays_51 : decode cX7_findWays 51 = .ok (.getfield 36, 3) := by decide +kernel
theorem dX7_findWays_54 : decode cX7_findWays 54 = .ok (.iload_n 1, 1) := by decide +kernel
theorem dX7_findWays_55 : decode cX7_findWays 55 = .ok (.lconst 0, 1) := by decide +kernel
theorem dX7_findWays_56 : decode cX7_findWays 56 = .ok (.lastore, 1) := by decide +kernel
theorem dX7_findWays_57 : decode cX7_findWays 57 = .ok (.aload_n 0, 1) := by decide +kernel
theorem dX7_findWays_58 : decode cX7_findWays 58 = .ok (.getfield 39, 3) := by decide +kernel
theorem dX7_findWays_61 : decode cX7_findWays 61 = .ok (.iload_n 1, 1) := by decide +kernel
theorem dX7_findWays_62 : decode cX7_findWays 62 = .ok (.lconst 0, 1) := by decide +kernel
theorem dX7_findWays_63 : decode cX7_findWays 63 = .ok (.lastore, 1) := by decide +kernel
theorem dX7_findWays_64 : decode cX7_findWays 64 = .ok (.aload_n 0, 1) := by decide +kernel
theorem dX7_findWays_65 : decode cX7_findWays 65 = .ok (.getfield 42, 3) := by decide +kernel
theorem dX7_findWays_68 : decode cX7_findWays 68 = .ok (.iload_n 1, 1) := by decide +kernel
theorem dX7_findWays_69 : decode cX7_findWays 69 = .ok (.iconst 0, 1) := by decide +kernel
theorem dX7_findWays_70 : decode cX7_findWays 70 = .ok (.iastore, 1) := by decide +kernel
theorem dX7_findWays_71 : decode cX7_findWays 71 = .ok (.aload_n 0, 1) := by decide +kernel
theorem dX7_findWays_72 : decode cX7_findWays 72 = .ok (.getfield 45, 3) := by decide +kernel
theorem dX7_findWays_75 : decode cX7_findWays 75 = .ok (.iload_n 1, 1) := by decide +kernel
theorem dX7_findWays_76 : decode cX7_findWays 76 = .ok (.lconst 0, 1) := by decide +kernel
theorem dX7_findWays_77 : decode cX7_findWays 77 = .ok (.lastore, 1) := by decide +kernel
theorem dX7_findWays_78 : decode cX7_findWays 78 = .ok (.iinc 1 1, 3) := by decide +kernel
theorem dX7_findWays_81 : decode cX7_findWays 81 = .ok (.goto (-37), 3) := by decide +kernel
theorem dX7_findWays_84 : decode cX7_findWays 84 = .ok (.aload_n 0, 1) := by decide +kernel
theorem dX7_findWays_85 : decode cX7_findWays 85 = .ok (.iconst 0, 1) := by decide +kernel
theorem dX7_findWays_86 : decode cX7_findWays 86 = .ok (.putfield 248, 3) := by decide +kernel
theorem dX7_findWays_89 : decode cX7_findWays 89 = .ok (.aload_n 0, 1) := by decide +kernel
theorem dX7_findWays_90 : decode cX7_findWays 90 = .ok (.lconst 1, 1) := by decide +kernel
theorem dX7_findWays_91 : decode cX7_findWays 91 = .ok (.invokevirtual 258, 3) := by decide +kernel
theorem dX7_findWays_94 : decode cX7_findWays 94 = .ok (.lconst 1, 1) := by decide +kernel
theorem dX7_findWays_95 : decode cX7_findWays 95 = .ok (.lstore_n 1, 1) := by decide +kernel
theorem dX7_findWays_96 : decode cX7_findWays 96 = .ok (.aload_n 0, 1) := by decide +kernel
theorem dX7_findWays_97 : decode cX7_findWays 97 = .ok (.getfield 7, 3) := by decide +kernel
theorem dX7_findWays_100 : decode cX7_findWays 100 = .ok (.iconst 2, 1) := by decide +kernel
theorem dX7_findWays_101 : decode cX7_findWays 101 = .ok (.iaload, 1) := by decide +kernel
theorem dX7_findWays_102 : decode cX7_findWays 102 = .ok (.istore_n 3, 1) := by decide +kernel
theorem dX7_findWays_103 : decode cX7_findWays 103 = .ok (.iload_n 3, 1) := by decide +kernel
theorem dX7_findWays_104 : decode cX7_findWays 104 = .ok (.aload_n 0, 1) := by decide +kernel
theorem dX7_findWays_105 : decode cX7_findWays 105 = .ok (.getfield 7, 3) := by decide +kernel
theorem dX7_findWays_108 : decode cX7_findWays 108 = .ok (.iconst 1, 1) := by decide +kernel
theorem dX7_findWays_109 : decode cX7_findWays 109 = .ok (.iaload, 1) := by decide +kernel
theorem dX7_findWays_110 : decode cX7_findWays 110 = .ok (.if_icmp .ge 15, 3) := by decide +kernel
theorem dX7_findWays_113 : decode cX7_findWays 113 = .ok (.lload_n 1, 1) := by decide +kernel
theorem dX7_findWays_114 : decode cX7_findWays 114 = .ok (.ldc2_w 261, 3) := by decide +kernel
theorem dX7_findWays_117 : decode cX7_findWays 117 = .ok (.lmul, 1) := by decide +kernel
theorem dX7_findWays_118 : decode cX7_findWays 118 = .ok (.lstore_n 1, 1) := by decide +kernel
theorem dX7_findWays_119 : decode cX7_findWays 119 = .ok (.iinc 3 1, 3) := by decide +kernel
theorem dX7_findWays_122 : decode cX7_findWays 122 = .ok (.goto (-19), 3) := by decide +kernel
theorem dX7_findWays_125 : decode cX7_findWays 125 = .ok (.lload_n 1, 1) := by decide +kernel
theorem dX7_findWays_126 : decode cX7_findWays 126 = .ok (.lreturn, 1) := by decide +kernel
set_option maxHeartbeats 4000000 in
set_option maxRecDepth 100000 in
theorem c_X7_findWays (l : Launch) (D : va_G) (cy : Nat → ClassId) (ad adK adV : Nat → Nat) (M : Mm) (o0 : Nat) (res : Mm × Int64) (h : f_X7_findWays M o0 = some res) : Met l yX7_findWays (wU yX7_findWays cX7_findWays 4 (some .long)) rmX7_findWays (va_Pc [.ref (ad o0)] (Pre D cy shM ad nM adK adV M)) (va_Ql (fun r (M2 : Mm) => r = res.2 ∧ M2 = res.1) (Pre D cy shM ad nM adK adV) (Aw ad nM)) 0 0 (Aw ad nM) := by
  refine Met.ofW (cc := cX7_findWays) (maxL := 4) (ret := (some .long)) (by decide) rfl ?_
  intro p e s m args below meth c s₁ B hml hv
  obtain ⟨hargs, hPre⟩ := hv
  have hx := B.exec
  have hb := B.bytes
  have hr := B.returns
  have hts := atoms_spec (ws := wU yX7_findWays cX7_findWays 4 (some .long)) B.pre
  have hq : ∀ w ∈ gW, w.before args s = true := fun w hw => hts w (List.mem_cons_of_mem _ hw)
  have hcm : ∀ w ∈ gW, w ∈ wU yX7_findWays cX7_findWays 4 (some .long) := fun w hw => List.mem_cons_of_mem _ hw
  have hown : s.vm.findClass RX7 = some m.cls := findClass_of_methodNamed B.named
  have hlocks := B.notSynchronized
  have hF : CallFix p m c cX7_findWays 4 s args (wU yX7_findWays cX7_findWays 4 (some .long)) RX7 := ⟨hx, hb, hml, hown, hts⟩
  have hK := hPre.2.1
  have hZ := hPre.2.2.2
  have hw : Wd D cy shM ad nM (Aw ad nM) s.heap M s.heap [] := ⟨hPre.1, hPre.2.2.1, va_S.rf⟩
  have iw7 : ∀ w ∈ u_ws RX7 TX7 30, w ∈ wU yX7_findWays cX7_findWays 4 (some .long) := fun w hw => List.mem_cons_of_mem _ (iX7 w hw)
  rw [show entryFrame m args 4 = entryFrame m ([.ref (ad o0)] : List Value).toArray 4 from by rw [hargs]]
  have hl := lv_entry ([.ref (ad o0)]) (n := 4) (Nat.le_of_ble_eq_true rfl)
  rw [lg_entry_eq]
  generalize (lg_sl ([.ref (ad o0)]) ++ List.replicate (4 - (lg_sl ([.ref (ad o0)])).length) Slot.unset).toArray = ls at hl ⊢
  have hl : lv_has ls 4 [(0, .ref (ad o0))] := hl
  have hb103 : ∀ (nn : Nat), ∀ (M : Mm) (x0 : Nat) (x1 : Int64) (x3 : Int32), f_X7_findWays_b103 nn M x0 x1 x3 = some res → ∀ (H : Heap) (locs : List Loc) (ls : Array Slot), Wd D cy shM ad nM (Aw ad nM) s.heap M H locs → lv_has ls 4 [(0, .ref (ad x0)), (1, .long x1), (3, .int x3)] → W p l e (headSpec (wU yX7_findWays cX7_findWays 4 (some .long)) rmX7_findWays).room s m args below meth c H locs 0 0 (QL D cy shM ad nM adK adV below args s res) (F0 m 103 ls []) := by
    intro nn
    induction nn with
    | zero => intro M x0 x1 x3 h; simp [f_X7_findWays_b103] at h
    | succ nn ih =>
      intro M x0 x1 x3 h H locs ls hw hl
      unfold f_X7_findWays_b103 at h
      refine lv_iload_n hx hb dX7_findWays_103 rfl (lv_at hl 2 rfl) ?_
      refine lv_aload_n hx hb dX7_findWays_104 rfl (lv_at hl 0 rfl) ?_
      replace h := gd_some h
      obtain ⟨g1, h⟩ := h
      replace h := bd_some h
      obtain ⟨q2, eq2, h⟩ := h
      refine r_getR hx hb hts iw7 hown hK hw x0 0 g1 (by decide) rfl (by decide) rfl (hq _ qw888) (fun _ h9 => h9) dX7_findWays_105 eq2 ?_
      refine lv_iconst (v := (1 : Int32)) hx hb dX7_findWays_108 (by decide) ?_
      replace h := gd_some h
      obtain ⟨g3, h⟩ := h
      refine r_iald hx hb hK hw q2 g3 dX7_findWays_109 ?_
      refine lv_icmp_ge (tgt := 125) hx hb dX7_findWays_110 (by decide) (fun c4 => ?_) (fun c4 => ?_)
      · replace h := if_some_t c4 h
        refine lv_lload_n hx hb dX7_findWays_125 rfl (lv_at hl 1 rfl) ?_
        exact r_lret hx hb hr hlocks hZ hK hw h dX7_findWays_126
      · replace h := if_some_f c4 h
        refine lv_lload_n hx hb dX7_findWays_113 rfl (lv_at hl 1 rfl) ?_
        refine lv_ldc2 (v := (10 : Int64)) hx hb hown (hq _ qw1219) dX7_findWays_114 ?_
        refine lv_lmul hx hb dX7_findWays_117 ?_
        refine lv_lstore_n (lv' := [(1, .long (x1 * (10 : Int64))), (0, .ref (ad x0)), (3, .int x3)]) hx hb dX7_findWays_118 rfl hl (by decide) rfl (fun ls hl => ?_)
        refine lv_iinc (v := x3 + (1 : Int32)) (lv' := [(3, .int (x3 + (1 : Int32))), (1, .long (x1 * (10 : Int64))), (0, .ref (ad x0))]) hx hb dX7_findWays_119 hl (k := 2) rfl (congrArg (fun z => x3 + z) (by decide)) (by decide) rfl (fun ls hl => ?_)
        refine lv_goto (tgt := 103) hx hb dX7_findWays_122 (by decide) ?_
        exact ih _ _ _ _ h _ _ _ hw (lv_sub hl [2, 1, 0] rfl)
  have hb44 : ∀ (nn : Nat), ∀ (M : Mm) (x0 : Nat) (x1 : Int32), f_X7_findWays_b44 nn M x0 x1 = some res → ∀ (H : Heap) (locs : List Loc) (ls : Array Slot), Wd D cy shM ad nM (Aw ad nM) s.heap M H locs → lv_has ls 4 [(0, .ref (ad x0)), (1, .int x1)] → W p l e (headSpec (wU yX7_findWays cX7_findWays 4 (some .long)) rmX7_findWays).room s m args below meth c H locs 0 0 (QL D cy shM ad nM adK adV below args s res) (F0 m 44 ls []) := by
    intro nn
    induction nn with
    | zero => intro M x0 x1 h; simp [f_X7_findWays_b44] at h
    | succ nn ih =>
      intro M x0 x1 h H locs ls hw hl
      unfold f_X7_findWays_b44 at h
      refine lv_iload_n hx hb dX7_findWays_44 rfl (lv_at hl 1 rfl) ?_
      refine lv_bipush (v := (6 : Int32)) hx hb dX7_findWays_45 (by decide) ?_
      refine lv_icmp_ge (tgt := 84) hx hb dX7_findWays_47 (by decide) (fun c5 => ?_) (fun c5 => ?_)
      · replace h := if_some_t c5 h
        refine lv_aload_n hx hb dX7_findWays_84 rfl (lv_at hl 0 rfl) ?_
        refine lv_iconst (v := (0 : Int32)) hx hb dX7_findWays_85 (by decide) ?_
        replace h := gd_some h
        obtain ⟨g6, h⟩ := h
        refine r_putI hx hb hts iw7 tyX7 tyX7_ok nmX7 hown hK hw x0 23 g6 (by decide) rfl (by decide) rfl (hq _ qw911) (fun _ h9 => h9) rfl rfl rfl dX7_findWays_86 (fun H locs hw => ?_)
        replace h := lt_some h
        obtain ⟨M7, eM7, h⟩ := h
        rw [← eM7] at hw
        refine lv_aload_n hx hb dX7_findWays_89 rfl (lv_at hl 0 rfl) ?_
        refine lv_lconst (v := (1 : Int64)) hx hb dX7_findWays_90 (by decide) ?_
        replace h := bd_some h
        obtain ⟨r8, er8, h⟩ := h
        refine r_callVv (As := [.long (1 : Int64)]) (rest := []) hF (c_X7_goesOn l D cy ad adK adV 10 M7 x0 (1 : Int64) r8 er8) (gW_goodV hcm qw1214 qw1211 qw1213 qw53 qw67) hdX7_goesOn rfl ⟨Nat.le_of_ble_eq_true rfl, Nat.le_of_ble_eq_true rfl⟩ rfl rfl hZ hK hw g6 (by decide) rfl rfl hl.1 rfl (Nat.le_of_ble_eq_true rfl) ⟨Nat.zero_le _, Nat.zero_le _⟩ dX7_findWays_91 (fun H locs hw => ?_)
        refine lv_lconst (v := (1 : Int64)) hx hb dX7_findWays_94 (by decide) ?_
        refine lv_lstore_n (lv' := [(1, .long (1 : Int64)), (0, .ref (ad x0))]) hx hb dX7_findWays_95 rfl hl (by decide) rfl (fun ls hl => ?_)
        refine lv_aload_n hx hb dX7_findWays_96 rfl (lv_at hl 1 rfl) ?_
        replace h := bd_some h
        obtain ⟨q9, eq9, h⟩ := h
        refine r_getR hx hb hts iw7 hown hK hw x0 0 g6 (by decide) rfl (by decide) rfl (hq _ qw888) (fun _ h9 => h9) dX7_findWays_97 eq9 ?_
        refine lv_iconst (v := (2 : Int32)) hx hb dX7_findWays_100 (by decide) ?_
        replace h := gd_some h
        obtain ⟨g10, h⟩ := h
        refine r_iald hx hb hK hw q9 g10 dX7_findWays_101 ?_
        refine lv_istore_n (lv' := [(3, .int (r8.1.1 q9 (2 : Int32).toNatClampNeg)), (1, .long (1 : Int64)), (0, .ref (ad x0))]) hx hb dX7_findWays_102 rfl hl (by decide) rfl (fun ls hl => ?_)
        exact hb103 1000 _ _ _ _ h _ _ _ hw (lv_sub hl [2, 1, 0] rfl)
      · replace h := if_some_f c5 h
        refine lv_aload_n hx hb dX7_findWays_50 rfl (lv_at hl 0 rfl) ?_
        replace h := gd_some h
        obtain ⟨g11, h⟩ := h
        replace h := bd_some h
        obtain ⟨q12, eq12, h⟩ := h
        refine r_getR hx hb hts iw7 hown hK hw x0 18 g11 (by decide) rfl (by decide) rfl (hq _ qw906) (fun _ h9 => h9) dX7_findWays_51 eq12 ?_
        refine lv_iload_n hx hb dX7_findWays_54 rfl (lv_at hl 1 rfl) ?_
        refine lv_lconst (v := (0 : Int64)) hx hb dX7_findWays_55 (by decide) ?_
        replace h := gd_some h
        obtain ⟨g13, h⟩ := h
        refine r_last hx hb hK hw q12 g13 dX7_findWays_56 (fun H locs hw => ?_)
        replace h := lt_some h
        obtain ⟨M14, eM14, h⟩ := h
        rw [← eM14] at hw
        refine lv_aload_n hx hb dX7_findWays_57 rfl (lv_at hl 0 rfl) ?_
        replace h := bd_some h
        obtain ⟨q15, eq15, h⟩ := h
        refine r_getR hx hb hts iw7 hown hK hw x0 19 g11 (by decide) rfl (by decide) rfl (hq _ qw907) (fun _ h9 => h9) dX7_findWays_58 eq15 ?_
        refine lv_iload_n hx hb dX7_findWays_61 rfl (lv_at hl 1 rfl) ?_
        refine lv_lconst (v := (0 : Int64)) hx hb dX7_findWays_62 (by decide) ?_
        replace h := gd_some h
        obtain ⟨g16, h⟩ := h
        refine r_last hx hb hK hw q15 g16 dX7_findWays_63 (fun H locs hw => ?_)
        replace h := lt_some h
        obtain ⟨M17, eM17, h⟩ := h
        rw [← eM17] at hw
        refine lv_aload_n hx hb dX7_findWays_64 rfl (lv_at hl 0 rfl) ?_
        replace h := bd_some h
        obtain ⟨q18, eq18, h⟩ := h
        refine r_getR hx hb hts iw7 hown hK hw x0 20 g11 (by decide) rfl (by decide) rfl (hq _ qw908) (fun _ h9 => h9) dX7_findWays_65 eq18 ?_
        refine lv_iload_n hx hb dX7_findWays_68 rfl (lv_at hl 1 rfl) ?_
        refine lv_iconst (v := (0 : Int32)) hx hb dX7_findWays_69 (by decide) ?_
        replace h := gd_some h
        obtain ⟨g19, h⟩ := h
        refine r_iast hx hb hK hw q18 g19 dX7_findWays_70 (fun H locs hw => ?_)
        replace h := lt_some h
        obtain ⟨M20, eM20, h⟩ := h
        rw [← eM20] at hw
        refine lv_aload_n hx hb dX7_findWays_71 rfl (lv_at hl 0 rfl) ?_
        replace h := bd_some h
        obtain ⟨q21, eq21, h⟩ := h
        refine r_getR hx hb hts iw7 hown hK hw x0 22 g11 (by decide) rfl (by decide) rfl (hq _ qw910) (fun _ h9 => h9) dX7_findWays_72 eq21 ?_
        refine lv_iload_n hx hb dX7_findWays_75 rfl (lv_at hl 1 rfl) ?_
        refine lv_lconst (v := (0 : Int64)) hx hb dX7_findWays_76 (by decide) ?_
        replace h := gd_some h
        obtain ⟨g22, h⟩ := h
        refine r_last hx hb hK hw q21 g22 dX7_findWays_77 (fun H locs hw => ?_)
        replace h := lt_some h
        obtain ⟨M23, eM23, h⟩ := h
        rw [← eM23] at hw
        refine lv_iinc (v := x1 + (1 : Int32)) (lv' := [(1, .int (x1 + (1 : Int32))), (0, .ref (ad x0))]) hx hb dX7_findWays_78 hl (k := 1) rfl (congrArg (fun z => x1 + z) (by decide)) (by decide) rfl (fun ls hl => ?_)
        refine lv_goto (tgt := 44) hx hb dX7_findWays_81 (by decide) ?_
        exact ih _ _ _ h _ _ _ hw (lv_sub hl [1, 0] rfl)
  have hb23 : ∀ (nn : Nat), ∀ (M : Mm) (x0 : Nat) (x1 : Int32), f_X7_findWays_b23 nn M x0 x1 = some res → ∀ (H : Heap) (locs : List Loc) (ls : Array Slot), Wd D cy shM ad nM (Aw ad nM) s.heap M H locs → lv_has ls 4 [(0, .ref (ad x0)), (1, .int x1)] → W p l e (headSpec (wU yX7_findWays cX7_findWays 4 (some .long)) rmX7_findWays).room s m args below meth c H locs 0 0 (QL D cy shM ad nM adK adV below args s res) (F0 m 23 ls []) := by
    intro nn
    induction nn with
    | zero => intro M x0 x1 h; simp [f_X7_findWays_b23] at h
    | succ nn ih =>
      intro M x0 x1 h H locs ls hw hl
      unfold f_X7_findWays_b23 at h
      refine lv_iload_n hx hb dX7_findWays_23 rfl (lv_at hl 1 rfl) ?_
      refine lv_bipush (v := (8 : Int32)) hx hb dX7_findWays_24 (by decide) ?_
      refine lv_icmp_ge (tgt := 42) hx hb dX7_findWays_26 (by decide) (fun c24 => ?_) (fun c24 => ?_)
      · replace h := if_some_t c24 h
        refine lv_iconst (v := (0 : Int32)) hx hb dX7_findWays_42 (by decide) ?_
        refine lv_istore_n (lv' := [(1, .int (0 : Int32)), (0, .ref (ad x0))]) hx hb dX7_findWays_43 rfl hl (by decide) rfl (fun ls hl => ?_)
        exact hb44 1000 _ _ _ h _ _ _ hw (lv_sub hl [1, 0] rfl)
      · replace h := if_some_f c24 h
        refine lv_aload_n hx hb dX7_findWays_29 rfl (lv_at hl 0 rfl) ?_
        replace h := gd_some h
        obtain ⟨g25, h⟩ := h
        replace h := bd_some h
        obtain ⟨q26, eq26, h⟩ := h
        refine r_getR hx hb hts iw7 hown hK hw x0 17 g25 (by decide) rfl (by decide) rfl (hq _ qw905) (fun _ h9 => h9) dX7_findWays_30 eq26 ?_
        refine lv_iload_n hx hb dX7_findWays_33 rfl (lv_at hl 1 rfl) ?_
        refine lv_lconst (v := (0 : Int64)) hx hb dX7_findWays_34 (by decide) ?_
        replace h := gd_some h
        obtain ⟨g27, h⟩ := h
        refine r_last hx hb hK hw q26 g27 dX7_findWays_35 (fun H locs hw => ?_)
        replace h := lt_some h
        obtain ⟨M28, eM28, h⟩ := h
        rw [← eM28] at hw
        refine lv_iinc (v := x1 + (1 : Int32)) (lv' := [(1, .int (x1 + (1 : Int32))), (0, .ref (ad x0))]) hx hb dX7_findWays_36 hl (k := 1) rfl (congrArg (fun z => x1 + z) (by decide)) (by decide) rfl (fun ls hl => ?_)
        refine lv_goto (tgt := 23) hx hb dX7_findWays_39 (by decide) ?_
        exact ih _ _ _ h _ _ _ hw (lv_sub hl [1, 0] rfl)
  have hb2 : ∀ (nn : Nat), ∀ (M : Mm) (x0 : Nat) (x1 : Int32), f_X7_findWays_b2 nn M x0 x1 = some res → ∀ (H : Heap) (locs : List Loc) (ls : Array Slot), Wd D cy shM ad nM (Aw ad nM) s.heap M H locs → lv_has ls 4 [(0, .ref (ad x0)), (1, .int x1)] → W p l e (headSpec (wU yX7_findWays cX7_findWays 4 (some .long)) rmX7_findWays).room s m args below meth c H locs 0 0 (QL D cy shM ad nM adK adV below args s res) (F0 m 2 ls []) := by
    intro nn
    induction nn with
    | zero => intro M x0 x1 h; simp [f_X7_findWays_b2] at h
    | succ nn ih =>
      intro M x0 x1 h H locs ls hw hl
      unfold f_X7_findWays_b2 at h
      refine lv_iload_n hx hb dX7_findWays_2 rfl (lv_at hl 1 rfl) ?_
      refine lv_bipush (v := (48 : Int32)) hx hb dX7_findWays_3 (by decide) ?_
      refine lv_icmp_ge (tgt := 21) hx hb dX7_findWays_5 (by decide) (fun c29 => ?_) (fun c29 => ?_)
      · replace h := if_some_t c29 h
        refine lv_iconst (v := (0 : Int32)) hx hb dX7_findWays_21 (by decide) ?_
        refine lv_istore_n (lv' := [(1, .int (0 : Int32)), (0, .ref (ad x0))]) hx hb dX7_findWays_22 rfl hl (by decide) rfl (fun ls hl => ?_)
        exact hb23 1000 _ _ _ h _ _ _ hw (lv_sub hl [1, 0] rfl)
      · replace h := if_some_f c29 h
        refine lv_aload_n hx hb dX7_findWays_8 rfl (lv_at hl 0 rfl) ?_
        replace h := gd_some h
        obtain ⟨g30, h⟩ := h
        replace h := bd_some h
        obtain ⟨q31, eq31, h⟩ := h
        refine r_getR hx hb hts iw7 hown hK hw x0 16 g30 (by decide) rfl (by decide) rfl (hq _ qw904) (fun _ h9 => h9) dX7_findWays_9 eq31 ?_
        refine lv_iload_n hx hb dX7_findWays_12 rfl (lv_at hl 1 rfl) ?_
        refine lv_lconst (v := (0 : Int64)) hx hb dX7_findWays_13 (by decide) ?_
        replace h := gd_some h
        obtain ⟨g32, h⟩ := h
        refine r_last hx hb hK hw q31 g32 dX7_findWays_14 (fun H locs hw => ?_)
        replace h := lt_some h
        obtain ⟨M33, eM33, h⟩ := h
        rw [← eM33] at hw
        refine lv_iinc (v := x1 + (1 : Int32)) (lv' := [(1, .int (x1 + (1 : Int32))), (0, .ref (ad x0))]) hx hb dX7_findWays_15 hl (k := 1) rfl (congrArg (fun z => x1 + z) (by decide)) (by decide) rfl (fun ls hl => ?_)
        refine lv_goto (tgt := 2) hx hb dX7_findWays_18 (by decide) ?_
        exact ih _ _ _ h _ _ _ hw (lv_sub hl [1, 0] rfl)
  unfold f_X7_findWays at h
  refine lv_iconst (v := (0 : Int32)) hx hb dX7_findWays_0 (by decide) ?_
  refine lv_istore_n (lv' := [(1, .int (0 : Int32)), (0, .ref (ad o0))]) hx hb dX7_findWays_1 rfl hl (by decide) rfl (fun ls hl => ?_)
  exact hb2 1000 _ _ _ h _ _ _ hw (lv_sub hl [1, 0] rfl)
theorem dX7_told_0 : decode cX7_told 0 = .ok (.lload_n 0, 1) := by decide +kernel
theorem dX7_told_1 : decode cX7_told 1 = .ok (.lstore 5, 2) := by decide +kernel
theorem dX7_told_3 : decode cX7_told 3 = .ok (.lload_n 2, 1) := by decide +kernel
theorem dX7_told_4 : decode cX7_told 4 = .ok (.lstore 7, 2) := by decide +kernel
theorem dX7_told_6 : decode cX7_told 6 = .ok (.lload 7, 2) := by decide +kernel
theorem dX7_told_8 : decode cX7_told 8 = .ok (.lconst 0, 1) := by decide +kernel
theorem dX7_told_9 : decode cX7_told 9 = .ok (.lcmp, 1) := by decide +kernel
theorem dX7_told_10 : decode cX7_told 10 = .ok (.ifCond .eq 21, 3) := by decide +kernel
theorem dX7_told_13 : decode cX7_told 13 = .ok (.lload 5, 2) := by decide +kernel
theorem dX7_told_15 : decode cX7_told 15 = .ok (.lload 7, 2) := by decide +kernel
theorem dX7_told_17 : decode cX7_told 17 = .ok (.lrem, 1) := by decide +kernel
theorem dX7_told_18 : decode cX7_told 18 = .ok (.lstore 9, 2) := by decide +kernel
theorem dX7_told_20 : decode cX7_told 20 = .ok (.lload 7, 2) := by decide +kernel
theorem dX7_told_22 : decode cX7_told 22 = .ok (.lstore 5, 2) := by decide +kernel
theorem dX7_told_24 : decode cX7_told 24 = .ok (.lload 9, 2) := by decide +kernel
theorem dX7_told_26 : decode cX7_told 26 = .ok (.lstore 7, 2) := by decide +kernel
theorem dX7_told_28 : decode cX7_told 28 = .ok (.goto (-22), 3) := by decide +kernel
theorem dX7_told_31 : decode cX7_told 31 = .ok (.iload 4, 2) := by decide +kernel
theorem dX7_told_33 : decode cX7_told 33 = .ok (.ifCond .ne 10, 3) := by decide +kernel
theorem dX7_told_36 : decode cX7_told 36 = .ok (.lload_n 0, 1) := by decide +kernel
theorem dX7_told_37 : decode cX7_told 37 = .ok (.lload 5, 2) := by decide +kernel
theorem dX7_told_39 : decode cX7_told 39 = .ok (.ldiv, 1) := by decide +kernel
theorem dX7_told_40 : decode cX7_told 40 = .ok (.goto 7, 3) := by decide +kernel
theorem dX7_told_43 : decode cX7_told 43 = .ok (.lload_n 2, 1) := by decide +kernel
theorem dX7_told_44 : decode cX7_told 44 = .ok (.lload 5, 2) := by decide +kernel
theorem dX7_told_46 : decode cX7_told 46 = .ok (.ldiv, 1) := by decide +kernel
theorem dX7_told_47 : decode cX7_told 47 = .ok (.lreturn, 1) := by decide +kernel
set_option maxHeartbeats 4000000 in
set_option maxRecDepth 100000 in
theorem c_X7_told (l : Launch) (D : va_G) (cy : Nat → ClassId) (ad adK adV : Nat → Nat) (M : Mm) (a0 : Int64) (a2 : Int64) (a4 : Int32) (res : Mm × Int64) (h : f_X7_told M a0 a2 a4 = some res) : Met l yX7_told (wU yX7_told cX7_told 11 (some .long)) rmX7_told (va_Pc [.long a0, .long a2, .int a4] (Pre D cy shM ad nM adK adV M)) (va_Ql (fun r (M2 : Mm) => r = res.2 ∧ M2 = res.1) (Pre D cy shM ad nM adK adV) (Aw ad nM)) 0 0 (Aw ad nM) := by
  refine Met.ofW (cc := cX7_told) (maxL := 11) (ret := (some .long)) (by decide) rfl ?_
  intro p e s m args below meth c s₁ B hml hv
  obtain ⟨hargs, hPre⟩ := hv
  have hx := B.exec
  have hb := B.bytes
  have hr := B.returns
  have hts := atoms_spec (ws := wU yX7_told cX7_told 11 (some .long)) B.pre
  have hq : ∀ w ∈ gW, w.before args s = true := fun w hw => hts w (List.mem_cons_of_mem _ hw)
  have hcm : ∀ w ∈ gW, w ∈ wU yX7_told cX7_told 11 (some .long) := fun w hw => List.mem_cons_of_mem _ hw
  have hown : s.vm.findClass RX7 = some m.cls := findClass_of_methodNamed B.named
  have hlocks := B.notSynchronized
  have hF : CallFix p m c cX7_told 11 s args (wU yX7_told cX7_told 11 (some .long)) RX7 := ⟨hx, hb, hml, hown, hts⟩
  have hK := hPre.2.1
  have hZ := hPre.2.2.2
  have hw : Wd D cy shM ad nM (Aw ad nM) s.heap M s.heap [] := ⟨hPre.1, hPre.2.2.1, va_S.rf⟩
  rw [show entryFrame m args 11 = entryFrame m ([.long a0, .long a2, .int a4] : List Value).toArray 11 from by rw [hargs]]
  have hl := lv_entry ([.long a0, .long a2, .int a4]) (n := 11) (Nat.le_of_ble_eq_true rfl)
  rw [lg_entry_eq]
  generalize (lg_sl ([.long a0, .long a2, .int a4]) ++ List.replicate (11 - (lg_sl ([.long a0, .long a2, .int a4])).length) Slot.unset).toArray = ls at hl ⊢
  have hl : lv_has ls 11 [(0, .long a0), (2, .long a2), (4, .int a4)] := hl
  have hb6 : ∀ (nn : Nat), ∀ (M : Mm) (x0 : Int64) (x2 : Int64) (x4 : Int32) (x5 : Int64) (x7 : Int64), f_X7_told_b6 nn M x0 x2 x4 x5 x7 = some res → ∀ (H : Heap) (locs : List Loc) (ls : Array Slot), Wd D cy shM ad nM (Aw ad nM) s.heap M H locs → lv_has ls 11 [(0, .long x0), (2, .long x2), (4, .int x4), (5, .long x5), (7, .long x7)] → W p l e (headSpec (wU yX7_told cX7_told 11 (some .long)) rmX7_told).room s m args below meth c H locs 0 0 (QL D cy shM ad nM adK adV below args s res) (F0 m 6 ls []) := by
    intro nn
    induction nn with
    | zero => intro M x0 x2 x4 x5 x7 h; simp [f_X7_told_b6] at h
    | succ nn ih =>
      intro M x0 x2 x4 x5 x7 h H locs ls hw hl
      unfold f_X7_told_b6 at h
      refine lv_lload hx hb dX7_told_6 (lv_at hl 4 rfl) ?_
      refine lv_lconst (v := (0 : Int64)) hx hb dX7_told_8 (by decide) ?_
      refine W.lcmp hx hb dX7_told_9 ?_
      refine lv_if_eq (tgt := 31) hx hb dX7_told_10 (by decide) (fun c1 => ?_) (fun c1 => ?_)
      · replace h := if_some_t c1 h
        refine lv_iload hx hb dX7_told_31 (lv_at hl 2 rfl) ?_
        refine lv_if_ne (tgt := 43) hx hb dX7_told_33 (by decide) (fun c2 => ?_) (fun c2 => ?_)
        · replace h := if_some_f c2 h
          refine lv_lload_n hx hb dX7_told_43 rfl (lv_at hl 1 rfl) ?_
          refine lv_lload hx hb dX7_told_44 (lv_at hl 3 rfl) ?_
          replace h := gd_some h
          obtain ⟨g3, h⟩ := h
          refine lv_ldiv hx hb dX7_told_46 g3 ?_
          exact r_lret hx hb hr hlocks hZ hK hw h dX7_told_47
        · replace h := if_some_t c2 h
          refine lv_lload_n hx hb dX7_told_36 rfl (lv_at hl 0 rfl) ?_
          refine lv_lload hx hb dX7_told_37 (lv_at hl 3 rfl) ?_
          replace h := gd_some h
          obtain ⟨g4, h⟩ := h
          refine lv_ldiv hx hb dX7_told_39 g4 ?_
          refine lv_goto (tgt := 47) hx hb dX7_told_40 (by decide) ?_
          exact r_lret hx hb hr hlocks hZ hK hw h dX7_told_47
      · replace h := if_some_f c1 h
        refine lv_lload hx hb dX7_told_13 (lv_at hl 3 rfl) ?_
        refine lv_lload hx hb dX7_told_15 (lv_at hl 4 rfl) ?_
        replace h := gd_some h
        obtain ⟨g5, h⟩ := h
        refine lv_lrem hx hb dX7_told_17 g5 ?_
        refine lv_lstore (lv' := [(9, .long (x5 - x5 / x7 * x7)), (0, .long x0), (2, .long x2), (4, .int x4), (5, .long x5), (7, .long x7)]) hx hb dX7_told_18 hl (by decide) rfl (fun ls hl => ?_)
        refine lv_lload hx hb dX7_told_20 (lv_at hl 5 rfl) ?_
        refine lv_lstore (lv' := [(5, .long x7), (9, .long (x5 - x5 / x7 * x7)), (0, .long x0), (2, .long x2), (4, .int x4), (7, .long x7)]) hx hb dX7_told_22 hl (by decide) rfl (fun ls hl => ?_)
        refine lv_lload hx hb dX7_told_24 (lv_at hl 1 rfl) ?_
        refine lv_lstore (lv' := [(7, .long (x5 - x5 / x7 * x7)), (5, .long x7), (9, .long (x5 - x5 / x7 * x7)), (0, .long x0), (2, .long x2), (4, .int x4)]) hx hb dX7_told_26 hl (by decide) rfl (fun ls hl => ?_)
        refine lv_goto (tgt := 6) hx hb dX7_told_28 (by decide) ?_
        exact ih _ _ _ _ _ _ h _ _ _ hw (lv_sub hl [3, 4, 5, 1, 0] rfl)
  unfold f_X7_told at h
  refine lv_lload_n hx hb dX7_told_0 rfl (lv_at hl 0 rfl) ?_
  refine lv_lstore (lv' := [(5, .long a0), (0, .long a0), (2, .long a2), (4, .int a4)]) hx hb dX7_told_1 hl (by decide) rfl (fun ls hl => ?_)
  refine lv_lload_n hx hb dX7_told_3 rfl (lv_at hl 2 rfl) ?_
  refine lv_lstore (lv' := [(7, .long a2), (5, .long a0), (0, .long a0), (2, .long a2), (4, .int a4)]) hx hb dX7_told_4 hl (by decide) rfl (fun ls hl => ?_)
  exact hb6 1000 _ _ _ _ _ _ h _ _ _ hw (lv_sub hl [2, 3, 4, 1, 0] rfl)
theorem dX7_isPart_0 : decode cX7_isPart 0 = .ok (.iload_n 0, 1) := by decide +kernel
theorem dX7_isPart_1 : decode cX7_isPart 1 = .ok (.iconst 0, 1) := by decide +kernel
theorem dX7_isPart_2 : decode cX7_isPart 2 = .ok (.iconst 1, 1) := by decide +kernel
theorem dX7_isPart_3 : decode cX7_isPart 3 = .ok (.invokestatic 67, 3) := by decide +kernel
theorem dX7_isPart_6 : decode cX7_isPart 6 = .ok (.ireturn, 1) := by decide +kernel
set_option maxHeartbeats 4000000 in
set_option maxRecDepth 100000 in
theorem c_X7_isPart (l : Launch) (D : va_G) (cy : Nat → ClassId) (ad adK adV : Nat → Nat) (M : Mm) (a0 : Int32) (res : Mm × Int32) (h : f_X7_isPart M a0 = some res) : Met l yX7_isPart (wU yX7_isPart cX7_isPart 1 (some .boolean)) rmX7_isPart (va_Pc [.int a0] (Pre D cy shM ad nM adK adV M)) (va_Qi (fun r (M2 : Mm) => r = res.2 ∧ M2 = res.1) (Pre D cy shM ad nM adK adV) (Aw ad nM)) 0 0 (Aw ad nM) := by
  refine Met.ofW (cc := cX7_isPart) (maxL := 1) (ret := (some .boolean)) (by decide) rfl ?_
  intro p e s m args below meth c s₁ B hml hv
  obtain ⟨hargs, hPre⟩ := hv
  have hx := B.exec
  have hb := B.bytes
  have hr := B.returns
  have hts := atoms_spec (ws := wU yX7_isPart cX7_isPart 1 (some .boolean)) B.pre
  have hq : ∀ w ∈ gW, w.before args s = true := fun w hw => hts w (List.mem_cons_of_mem _ hw)
  have hcm : ∀ w ∈ gW, w ∈ wU yX7_isPart cX7_isPart 1 (some .boolean) := fun w hw => List.mem_cons_of_mem _ hw
  have hown : s.vm.findClass RX7 = some m.cls := findClass_of_methodNamed B.named
  have hlocks := B.notSynchronized
  have hF : CallFix p m c cX7_isPart 1 s args (wU yX7_isPart cX7_isPart 1 (some .boolean)) RX7 := ⟨hx, hb, hml, hown, hts⟩
  have hK := hPre.2.1
  have hZ := hPre.2.2.2
  have hw : Wd D cy shM ad nM (Aw ad nM) s.heap M s.heap [] := ⟨hPre.1, hPre.2.2.1, va_S.rf⟩
  rw [show entryFrame m args 1 = entryFrame m ([.int a0] : List Value).toArray 1 from by rw [hargs]]
  have hl := lv_entry ([.int a0]) (n := 1) (Nat.le_of_ble_eq_true rfl)
  rw [lg_entry_eq]
  generalize (lg_sl ([.int a0]) ++ List.replicate (1 - (lg_sl ([.int a0])).length) Slot.unset).toArray = ls at hl ⊢
  have hl : lv_has ls 1 [(0, .int a0)] := hl
  unfold f_X7_isPart at h
  refine lv_iload_n hx hb dX7_isPart_0 rfl (lv_at hl 0 rfl) ?_
  refine lv_iconst (v := (0 : Int32)) hx hb dX7_isPart_1 (by decide) ?_
  refine lv_iconst (v := (1 : Int32)) hx hb dX7_isPart_2 (by decide) ?_
  replace h := bd_some h
  obtain ⟨r1, er1, h⟩ := h
  refine r_callSi (As := [.int a0, .int (0 : Int32), .int (1 : Int32)]) (rest := []) hF (c_X7_in l D cy ad adK adV M a0 (0 : Int32) (1 : Int32) r1 er1) (gW_goodS hcm qw985 qw983 qw984 qw67) hdX7_in ⟨Nat.le_of_ble_eq_true rfl, Nat.le_of_ble_eq_true rfl⟩ rfl rfl hZ hK hw rfl hl.1 rfl (Nat.le_of_ble_eq_true rfl) ⟨Nat.zero_le _, Nat.zero_le _⟩ dX7_isPart_3 (fun H locs hw => ?_)
  replace h := gd_some h
  obtain ⟨z2, h⟩ := h
  exact r_iret hx hb hr (nar_bz z2) hlocks hZ hK hw h dX7_isPart_6
theorem dX7_gets_0 : decode cX7_gets 0 = .ok (.aload_n 0, 1) := by decide +kernel
theorem dX7_gets_1 : decode cX7_gets 1 = .ok (.iload_n 1, 1) := by decide +kernel
theorem dX7_gets_2 : decode cX7_gets 2 = .ok (.invokevirtual 131, 3) := by decide +kernel
theorem dX7_gets_5 : decode cX7_gets 5 = .ok (.ifCond .eq 18, 3) := by decide +kernel
theorem dX7_gets_8 : decode cX7_gets 8 = .ok (.aload_n 0, 1) := by decide +kernel
theorem dX7_gets_9 : decode cX7_gets 9 = .ok (.iload_n 2, 1) := by decide +kernel
theorem dX7_gets_10 : decode cX7_gets 10 = .ok (.invokevirtual 121, 3) := by decide +kernel
theorem dX7_gets_13 : decode cX7_gets 13 = .ok (.ifCond .eq 10, 3) := by decide +kernel
theorem dX7_gets_16 : decode cX7_gets 16 = .ok (.iload_n 3, 1) := by decide +kernel
theorem dX7_gets_17 : decode cX7_gets 17 = .ok (.invokestatic 263, 3) := by decide +kernel
theorem dX7_gets_20 : decode cX7_gets 20 = .ok (.ifCond .ne 10, 3) := by decide +kernel
theorem dX7_gets_23 : decode cX7_gets 23 = .ok (.aload_n 0, 1) := by decide +kernel
theorem dX7_gets_24 : decode cX7_gets 24 = .ok (.iconst 0, 1) := by decide +kernel
theorem dX7_gets_25 : decode cX7_gets 25 = .ok (.invokevirtual 115, 3) := by decide +kernel
theorem dX7_gets_28 : decode cX7_gets 28 = .ok (.i2l, 1) := by decide +kernel
theorem dX7_gets_29 : decode cX7_gets 29 = .ok (.lreturn, 1) := by decide +kernel
theorem dX7_gets_30 : decode cX7_gets 30 = .ok (.aload_n 0, 1) := by decide +kernel
theorem dX7_gets_31 : decode cX7_gets 31 = .ok (.invokevirtual 266, 3) := by decide +kernel
theorem dX7_gets_34 : decode cX7_gets 34 = .ok (.lstore 4, 2) := by decide +kernel
theorem dX7_gets_36 : decode cX7_gets 36 = .ok (.aload_n 0, 1) := by decide +kernel
theorem dX7_gets_37 : decode cX7_gets 37 = .ok (.getfield 29, 3) := by decide +kernel
theorem dX7_gets_40 : decode cX7_gets 40 = .ok (.bipush 6, 2) := by decide +kernel
theorem dX7_gets_42 : decode cX7_gets 42 = .ok (.iload_n 1, 1) := by decide +kernel
theorem dX7_gets_43 : decode cX7_gets 43 = .ok (.imul, 1) := by decide +kernel
theorem dX7_gets_44 : decode cX7_gets 44 = .ok (.iload_n 2, 1) := by decide +kernel
theorem dX7_gets_45 : decode cX7_gets 45 = .ok (.iadd, 1) := by decide +kernel
theorem dX7_gets_46 : decode cX7_gets 46 = .ok (.laload, 1) := by decide +kernel
theorem dX7_gets_47 : decode cX7_gets 47 = .ok (.lload 4, 2) := by decide +kernel
theorem dX7_gets_49 : decode cX7_gets 49 = .ok (.iload_n 3, 1) := by decide +kernel
theorem dX7_gets_50 : decode cX7_gets 50 = .ok (.invokestatic 270, 3) := by decide +kernel
theorem dX7_gets_53 : decode cX7_gets 53 = .ok (.lreturn, 1) := by decide +kernel
set_option maxHeartbeats 4000000 in
set_option maxRecDepth 100000 in
theorem c_X7_gets (l : Launch) (D : va_G) (cy : Nat → ClassId) (ad adK adV : Nat → Nat) (M : Mm) (o0 : Nat) (a1 : Int32) (a2 : Int32) (a3 : Int32) (res : Mm × Int64) (h : f_X7_gets M o0 a1 a2 a3 = some res) : Met l yX7_gets (wU yX7_gets cX7_gets 6 (some .long)) rmX7_gets (va_Pc [.ref (ad o0), .int a1, .int a2, .int a3] (Pre D cy shM ad nM adK adV M)) (va_Ql (fun r (M2 : Mm) => r = res.2 ∧ M2 = res.1) (Pre D cy shM ad nM adK adV) (Aw ad nM)) 0 0 (Aw ad nM) := by
  refine Met.ofW (cc := cX7_gets) (maxL := 6) (ret := (some .long)) (by decide) rfl ?_
  intro p e s m args below meth c s₁ B hml hv
  obtain ⟨hargs, hPre⟩ := hv
  have hx := B.exec
  have hb := B.bytes
  have hr := B.returns
  have hts := atoms_spec (ws := wU yX7_gets cX7_gets 6 (some .long)) B.pre
  have hq : ∀ w ∈ gW, w.before args s = true := fun w hw => hts w (List.mem_cons_of_mem _ hw)
  have hcm : ∀ w ∈ gW, w ∈ wU yX7_gets cX7_gets 6 (some .long) := fun w hw => List.mem_cons_of_mem _ hw
  have hown : s.vm.findClass RX7 = some m.cls := findClass_of_methodNamed B.named
  have hlocks := B.notSynchronized
  have hF : CallFix p m c cX7_gets 6 s args (wU yX7_gets cX7_gets 6 (some .long)) RX7 := ⟨hx, hb, hml, hown, hts⟩
  have hK := hPre.2.1
  have hZ := hPre.2.2.2
  have hw : Wd D cy shM ad nM (Aw ad nM) s.heap M s.heap [] := ⟨hPre.1, hPre.2.2.1, va_S.rf⟩
  have iw7 : ∀ w ∈ u_ws RX7 TX7 30, w ∈ wU yX7_gets cX7_gets 6 (some .long) := fun w hw => List.mem_cons_of_mem _ (iX7 w hw)
  rw [show entryFrame m args 6 = entryFrame m ([.ref (ad o0), .int a1, .int a2, .int a3] : List Value).toArray 6 from by rw [hargs]]
  have hl := lv_entry ([.ref (ad o0), .int a1, .int a2, .int a3]) (n := 6) (Nat.le_of_ble_eq_true rfl)
  rw [lg_entry_eq]
  generalize (lg_sl ([.ref (ad o0), .int a1, .int a2, .int a3]) ++ List.replicate (6 - (lg_sl ([.ref (ad o0), .int a1, .int a2, .int a3])).length) Slot.unset).toArray = ls at hl ⊢
  have hl : lv_has ls 6 [(0, .ref (ad o0)), (1, .int a1), (2, .int a2), (3, .int a3)] := hl
  have hb23 : ∀ (M : Mm) (x0 : Nat), f_X7_gets_b23 M x0 = some res → ∀ (H : Heap) (locs : List Loc) (ls : Array Slot), Wd D cy shM ad nM (Aw ad nM) s.heap M H locs → lv_has ls 6 [(0, .ref (ad x0))] → W p l e (headSpec (wU yX7_gets cX7_gets 6 (some .long)) rmX7_gets).room s m args below meth c H locs 0 0 (QL D cy shM ad nM adK adV below args s res) (F0 m 23 ls []) := by
    intro M x0 h H locs ls hw hl
    unfold f_X7_gets_b23 at h
    refine lv_aload_n hx hb dX7_gets_23 rfl (lv_at hl 0 rfl) ?_
    refine lv_iconst (v := (0 : Int32)) hx hb dX7_gets_24 (by decide) ?_
    replace h := gd_some h
    obtain ⟨g2, h⟩ := h
    replace h := bd_some h
    obtain ⟨r1, er1, h⟩ := h
    refine r_callVi (As := [.int (0 : Int32)]) (rest := []) hF (c_X7_finding l D cy ad adK adV M x0 (0 : Int32) r1 er1) (gW_goodV hcm qw989 qw986 qw988 qw18 qw67) hdX7_finding rfl ⟨Nat.le_of_ble_eq_true rfl, Nat.le_of_ble_eq_true rfl⟩ rfl rfl hZ hK hw g2 (by decide) rfl rfl hl.1 rfl (Nat.le_of_ble_eq_true rfl) ⟨Nat.zero_le _, Nat.zero_le _⟩ dX7_gets_25 (fun H locs hw => ?_)
    refine lv_i2l (v := r1.2.toInt64) hx hb dX7_gets_28 rfl ?_
    exact r_lret hx hb hr hlocks hZ hK hw h dX7_gets_29
  unfold f_X7_gets at h
  refine lv_aload_n hx hb dX7_gets_0 rfl (lv_at hl 0 rfl) ?_
  refine lv_iload_n hx hb dX7_gets_1 rfl (lv_at hl 1 rfl) ?_
  replace h := gd_some h
  obtain ⟨g4, h⟩ := h
  replace h := bd_some h
  obtain ⟨r3, er3, h⟩ := h
  refine r_callVi (As := [.int a1]) (rest := []) hF (c_X7_isGame l D cy ad adK adV M o0 a1 r3 er3) (gW_goodV hcm qw1050 qw1047 qw1049 qw29 qw67) hdX7_isGame rfl ⟨Nat.le_of_ble_eq_true rfl, Nat.le_of_ble_eq_true rfl⟩ rfl rfl hZ hK hw g4 (by decide) rfl rfl hl.1 rfl (Nat.le_of_ble_eq_true rfl) ⟨Nat.zero_le _, Nat.zero_le _⟩ dX7_gets_2 (fun H locs hw => ?_)
  refine lv_if_eq (tgt := 23) hx hb dX7_gets_5 (by decide) (fun c5 => ?_) (fun c5 => ?_)
  · replace h := if_some_t c5 h
    exact hb23 _ _ h _ _ _ hw (lv_sub hl [0] rfl)
  · replace h := if_some_f c5 h
    refine lv_aload_n hx hb dX7_gets_8 rfl (lv_at hl 0 rfl) ?_
    refine lv_iload_n hx hb dX7_gets_9 rfl (lv_at hl 2 rfl) ?_
    replace h := bd_some h
    obtain ⟨r6, er6, h⟩ := h
    refine r_callVi (As := [.int a2]) (rest := []) hF (c_X7_isSide l D cy ad adK adV r3.1 o0 a2 r6 er6) (gW_goodV hcm qw1002 qw999 qw1001 qw20 qw67) hdX7_isSide rfl ⟨Nat.le_of_ble_eq_true rfl, Nat.le_of_ble_eq_true rfl⟩ rfl rfl hZ hK hw g4 (by decide) rfl rfl hl.1 rfl (Nat.le_of_ble_eq_true rfl) ⟨Nat.zero_le _, Nat.zero_le _⟩ dX7_gets_10 (fun H locs hw => ?_)
    refine lv_if_eq (tgt := 23) hx hb dX7_gets_13 (by decide) (fun c7 => ?_) (fun c7 => ?_)
    · replace h := if_some_t c7 h
      exact hb23 _ _ h _ _ _ hw (lv_sub hl [0] rfl)
    · replace h := if_some_f c7 h
      refine lv_iload_n hx hb dX7_gets_16 rfl (lv_at hl 3 rfl) ?_
      replace h := bd_some h
      obtain ⟨r8, er8, h⟩ := h
      refine r_callSi (As := [.int a3]) (rest := []) hF (c_X7_isPart l D cy ad adK adV r6.1 a3 r8 er8) (gW_goodS hcm qw1206 qw1204 qw1205 qw67) hdX7_isPart ⟨Nat.le_of_ble_eq_true rfl, Nat.le_of_ble_eq_true rfl⟩ rfl rfl hZ hK hw rfl hl.1 rfl (Nat.le_of_ble_eq_true rfl) ⟨Nat.zero_le _, Nat.zero_le _⟩ dX7_gets_17 (fun H locs hw => ?_)
      refine lv_if_ne (tgt := 30) hx hb dX7_gets_20 (by decide) (fun c9 => ?_) (fun c9 => ?_)
      · replace h := if_some_f c9 h
        refine lv_aload_n hx hb dX7_gets_30 rfl (lv_at hl 0 rfl) ?_
        replace h := bd_some h
        obtain ⟨r10, er10, h⟩ := h
        refine r_callVl (As := []) (rest := []) hF (c_X7_findWays l D cy ad adK adV r8.1 o0 r10 er10) (gW_goodV hcm qw1210 qw1207 qw1209 qw52 qw67) hdX7_findWays rfl ⟨Nat.le_of_ble_eq_true rfl, Nat.le_of_ble_eq_true rfl⟩ rfl rfl hZ hK hw g4 (by decide) rfl rfl hl.1 rfl (Nat.le_of_ble_eq_true rfl) ⟨Nat.zero_le _, Nat.zero_le _⟩ dX7_gets_31 (fun H locs hw => ?_)
        refine lv_lstore (lv' := [(4, .long r10.2), (0, .ref (ad o0)), (1, .int a1), (2, .int a2), (3, .int a3)]) hx hb dX7_gets_34 hl (by decide) rfl (fun ls hl => ?_)
        refine lv_aload_n hx hb dX7_gets_36 rfl (lv_at hl 1 rfl) ?_
        replace h := bd_some h
        obtain ⟨q11, eq11, h⟩ := h
        refine r_getR hx hb hts iw7 hown hK hw o0 16 g4 (by decide) rfl (by decide) rfl (hq _ qw904) (fun _ h9 => h9) dX7_gets_37 eq11 ?_
        refine lv_bipush (v := (6 : Int32)) hx hb dX7_gets_40 (by decide) ?_
        refine lv_iload_n hx hb dX7_gets_42 rfl (lv_at hl 2 rfl) ?_
        refine lv_imul hx hb dX7_gets_43 ?_
        refine lv_iload_n hx hb dX7_gets_44 rfl (lv_at hl 3 rfl) ?_
        refine lv_iadd hx hb dX7_gets_45 ?_
        replace h := gd_some h
        obtain ⟨g12, h⟩ := h
        refine r_lald hx hb hK hw q11 g12 dX7_gets_46 ?_
        refine lv_lload hx hb dX7_gets_47 (lv_at hl 0 rfl) ?_
        refine lv_iload_n hx hb dX7_gets_49 rfl (lv_at hl 4 rfl) ?_
        replace h := bd_some h
        obtain ⟨r13, er13, h⟩ := h
        refine r_callSl (As := [.long (r10.1.2.1 q11 (((6 : Int32) * a1) + a2).toNatClampNeg), .long r10.2, .int a3]) (rest := []) hF (c_X7_told l D cy ad adK adV r10.1 (r10.1.2.1 q11 (((6 : Int32) * a1) + a2).toNatClampNeg) r10.2 a3 r13 er13) (gW_goodS hcm qw1222 qw1220 qw1221 qw67) hdX7_told ⟨Nat.le_of_ble_eq_true rfl, Nat.le_of_ble_eq_true rfl⟩ rfl rfl hZ hK hw rfl hl.1 rfl (Nat.le_of_ble_eq_true rfl) ⟨Nat.zero_le _, Nat.zero_le _⟩ dX7_gets_50 (fun H locs hw => ?_)
        exact r_lret hx hb hr hlocks hZ hK hw h dX7_gets_53
      · replace h := if_some_t c9 h
        exact hb23 _ _ h _ _ _ hw (lv_sub hl [0] rfl)
theorem dX7_first_0 : decode cX7_first 0 = .ok (.aload_n 0, 1) := by decide +kernel
theorem dX7_first_1 : decode cX7_first 1 = .ok (.iload_n 1, 1) := by decide +kernel
theorem dX7_first_2 : decode cX7_first 2 = .ok (.invokevirtual 121, 3) := by decide +kernel
theorem dX7_first_5 : decode cX7_first 5 = .ok (.ifCond .eq 10, 3) := by decide +kernel
theorem dX7_first_8 : decode cX7_first 8 = .ok (.iload_n 2, 1) := by decide +kernel
theorem dX7_first_9 : decode cX7_first 9 = .ok (.invokestatic 263, 3) := by decide +kernel
theorem dX7_first_12 : decode cX7_first 12 = .ok (.ifCond .ne 10, 3) := by decide +kernel
theorem dX7_first_15 : decode cX7_first 15 = .ok (.aload_n 0, 1) := by decide +kernel
theorem dX7_first_16 : decode cX7_first 16 = .ok (.iconst 0, 1) := by decide +kernel
theorem dX7_first_17 : decode cX7_first 17 = .ok (.invokevirtual 115, 3) := by decide +kernel
theorem dX7_first_20 : decode cX7_first 20 = .ok (.i2l, 1) := by decide +kernel
theorem dX7_first_21 : decode cX7_first 21 = .ok (.lreturn, 1) := by decide +kernel
theorem dX7_first_22 : decode cX7_first 22 = .ok (.aload_n 0, 1) := by decide +kernel
theorem dX7_first_23 : decode cX7_first 23 = .ok (.invokevirtual 266, 3) := by decide +kernel
theorem dX7_first_26 : decode cX7_first 26 = .ok (.lstore_n 3, 1) := by decide +kernel
theorem dX7_first_27 : decode cX7_first 27 = .ok (.aload_n 0, 1) := by decide +kernel
theorem dX7_first_28 : decode cX7_first 28 = .ok (.getfield 36, 3) := by decide +kernel
theorem dX7_first_31 : decode cX7_first 31 = .ok (.iload_n 1, 1) := by decide +kernel
theorem dX7_first_32 : decode cX7_first 32 = .ok (.laload, 1) := by decide +kernel
theorem dX7_first_33 : decode cX7_first 33 = .ok (.lload_n 3, 1) := by decide +kernel
theorem dX7_first_34 : decode cX7_first 34 = .ok (.iload_n 2, 1) := by decide +kernel
theorem dX7_first_35 : decode cX7_first 35 = .ok (.invokestatic 270, 3) := by decide +kernel
theorem dX7_first_38 : decode cX7_first 38 = .ok (.lreturn, 1) := by decide +kernel
set_option maxHeartbeats 4000000 in
set_option maxRecDepth 100000 in
theorem c_X7_first (l : Launch) (D : va_G) (cy : Nat → ClassId) (ad adK adV : Nat → Nat) (M : Mm) (o0 : Nat) (a1 : Int32) (a2 : Int32) (res : Mm × Int64) (h : f_X7_first M o0 a1 a2 = some res) : Met l yX7_first (wU yX7_first cX7_first 5 (some .long)) rmX7_first (va_Pc [.ref (ad o0), .int a1, .int a2] (Pre D cy shM ad nM adK adV M)) (va_Ql (fun r (M2 : Mm) => r = res.2 ∧ M2 = res.1) (Pre D cy shM ad nM adK adV) (Aw ad nM)) 0 0 (Aw ad nM) := by
  refine Met.ofW (cc := cX7_first) (maxL := 5) (ret := (some .long)) (by decide) rfl ?_
  intro p e s m args below meth c s₁ B hml hv
  obtain ⟨hargs, hPre⟩ := hv
  have hx := B.exec
  have hb := B.bytes
  have hr := B.returns
  have hts := atoms_spec (ws := wU yX7_first cX7_first 5 (some .long)) B.pre
  have hq : ∀ w ∈ gW, w.before args s = true := fun w hw => hts w (List.mem_cons_of_mem _ hw)
  have hcm : ∀ w ∈ gW, w ∈ wU yX7_first cX7_first 5 (some .long) := fun w hw => List.mem_cons_of_mem _ hw
  have hown : s.vm.findClass RX7 = some m.cls := findClass_of_methodNamed B.named
  have hlocks := B.notSynchronized
  have hF : CallFix p m c cX7_first 5 s args (wU yX7_first cX7_first 5 (some .long)) RX7 := ⟨hx, hb, hml, hown, hts⟩
  have hK := hPre.2.1
  have hZ := hPre.2.2.2
  have hw : Wd D cy shM ad nM (Aw ad nM) s.heap M s.heap [] := ⟨hPre.1, hPre.2.2.1, va_S.rf⟩
  have iw7 : ∀ w ∈ u_ws RX7 TX7 30, w ∈ wU yX7_first cX7_first 5 (some .long) := fun w hw => List.mem_cons_of_mem _ (iX7 w hw)
  rw [show entryFrame m args 5 = entryFrame m ([.ref (ad o0), .int a1, .int a2] : List Value).toArray 5 from by rw [hargs]]
  have hl := lv_entry ([.ref (ad o0), .int a1, .int a2]) (n := 5) (Nat.le_of_ble_eq_true rfl)
  rw [lg_entry_eq]
  generalize (lg_sl ([.ref (ad o0), .int a1, .int a2]) ++ List.replicate (5 - (lg_sl ([.ref (ad o0), .int a1, .int a2])).length) Slot.unset).toArray = ls at hl ⊢
  have hl : lv_has ls 5 [(0, .ref (ad o0)), (1, .int a1), (2, .int a2)] := hl
  have hb15 : ∀ (M : Mm) (x0 : Nat), f_X7_first_b15 M x0 = some res → ∀ (H : Heap) (locs : List Loc) (ls : Array Slot), Wd D cy shM ad nM (Aw ad nM) s.heap M H locs → lv_has ls 5 [(0, .ref (ad x0))] → W p l e (headSpec (wU yX7_first cX7_first 5 (some .long)) rmX7_first).room s m args below meth c H locs 0 0 (QL D cy shM ad nM adK adV below args s res) (F0 m 15 ls []) := by
    intro M x0 h H locs ls hw hl
    unfold f_X7_first_b15 at h
    refine lv_aload_n hx hb dX7_first_15 rfl (lv_at hl 0 rfl) ?_
    refine lv_iconst (v := (0 : Int32)) hx hb dX7_first_16 (by decide) ?_
    replace h := gd_some h
    obtain ⟨g2, h⟩ := h
    replace h := bd_some h
    obtain ⟨r1, er1, h⟩ := h
    refine r_callVi (As := [.int (0 : Int32)]) (rest := []) hF (c_X7_finding l D cy ad adK adV M x0 (0 : Int32) r1 er1) (gW_goodV hcm qw989 qw986 qw988 qw18 qw67) hdX7_finding rfl ⟨Nat.le_of_ble_eq_true rfl, Nat.le_of_ble_eq_true rfl⟩ rfl rfl hZ hK hw g2 (by decide) rfl rfl hl.1 rfl (Nat.le_of_ble_eq_true rfl) ⟨Nat.zero_le _, Nat.zero_le _⟩ dX7_first_17 (fun H locs hw => ?_)
    refine lv_i2l (v := r1.2.toInt64) hx hb dX7_first_20 rfl ?_
    exact r_lret hx hb hr hlocks hZ hK hw h dX7_first_21
  unfold f_X7_first at h
  refine lv_aload_n hx hb dX7_first_0 rfl (lv_at hl 0 rfl) ?_
  refine lv_iload_n hx hb dX7_first_1 rfl (lv_at hl 1 rfl) ?_
  replace h := gd_some h
  obtain ⟨g4, h⟩ := h
  replace h := bd_some h
  obtain ⟨r3, er3, h⟩ := h
  refine r_callVi (As := [.int a1]) (rest := []) hF (c_X7_isSide l D cy ad adK adV M o0 a1 r3 er3) (gW_goodV hcm qw1002 qw999 qw1001 qw20 qw67) hdX7_isSide rfl ⟨Nat.le_of_ble_eq_true rfl, Nat.le_of_ble_eq_true rfl⟩ rfl rfl hZ hK hw g4 (by decide) rfl rfl hl.1 rfl (Nat.le_of_ble_eq_true rfl) ⟨Nat.zero_le _, Nat.zero_le _⟩ dX7_first_2 (fun H locs hw => ?_)
  refine lv_if_eq (tgt := 15) hx hb dX7_first_5 (by decide) (fun c5 => ?_) (fun c5 => ?_)
  · replace h := if_some_t c5 h
    exact hb15 _ _ h _ _ _ hw (lv_sub hl [0] rfl)
  · replace h := if_some_f c5 h
    refine lv_iload_n hx hb dX7_first_8 rfl (lv_at hl 2 rfl) ?_
    replace h := bd_some h
    obtain ⟨r6, er6, h⟩ := h
    refine r_callSi (As := [.int a2]) (rest := []) hF (c_X7_isPart l D cy ad adK adV r3.1 a2 r6 er6) (gW_goodS hcm qw1206 qw1204 qw1205 qw67) hdX7_isPart ⟨Nat.le_of_ble_eq_true rfl, Nat.le_of_ble_eq_true rfl⟩ rfl rfl hZ hK hw rfl hl.1 rfl (Nat.le_of_ble_eq_true rfl) ⟨Nat.zero_le _, Nat.zero_le _⟩ dX7_first_9 (fun H locs hw => ?_)
    refine lv_if_ne (tgt := 22) hx hb dX7_first_12 (by decide) (fun c7 => ?_) (fun c7 => ?_)
    · replace h := if_some_f c7 h
      refine lv_aload_n hx hb dX7_first_22 rfl (lv_at hl 0 rfl) ?_
      replace h := bd_some h
      obtain ⟨r8, er8, h⟩ := h
      refine r_callVl (As := []) (rest := []) hF (c_X7_findWays l D cy ad adK adV r6.1 o0 r8 er8) (gW_goodV hcm qw1210 qw1207 qw1209 qw52 qw67) hdX7_findWays rfl ⟨Nat.le_of_ble_eq_true rfl, Nat.le_of_ble_eq_true rfl⟩ rfl rfl hZ hK hw g4 (by decide) rfl rfl hl.1 rfl (Nat.le_of_ble_eq_true rfl) ⟨Nat.zero_le _, Nat.zero_le _⟩ dX7_first_23 (fun H locs hw => ?_)
      refine lv_lstore_n (lv' := [(3, .long r8.2), (0, .ref (ad o0)), (1, .int a1), (2, .int a2)]) hx hb dX7_first_26 rfl hl (by decide) rfl (fun ls hl => ?_)
      refine lv_aload_n hx hb dX7_first_27 rfl (lv_at hl 1 rfl) ?_
      replace h := bd_some h
      obtain ⟨q9, eq9, h⟩ := h
      refine r_getR hx hb hts iw7 hown hK hw o0 18 g4 (by decide) rfl (by decide) rfl (hq _ qw906) (fun _ h9 => h9) dX7_first_28 eq9 ?_
      refine lv_iload_n hx hb dX7_first_31 rfl (lv_at hl 2 rfl) ?_
      replace h := gd_some h
      obtain ⟨g10, h⟩ := h
      refine r_lald hx hb hK hw q9 g10 dX7_first_32 ?_
      refine lv_lload_n hx hb dX7_first_33 rfl (lv_at hl 0 rfl) ?_
      refine lv_iload_n hx hb dX7_first_34 rfl (lv_at hl 3 rfl) ?_
      replace h := bd_some h
      obtain ⟨r11, er11, h⟩ := h
      refine r_callSl (As := [.long (r8.1.2.1 q9 a1.toNatClampNeg), .long r8.2, .int a2]) (rest := []) hF (c_X7_told l D cy ad adK adV r8.1 (r8.1.2.1 q9 a1.toNatClampNeg) r8.2 a2 r11 er11) (gW_goodS hcm qw1222 qw1220 qw1221 qw67) hdX7_told ⟨Nat.le_of_ble_eq_true rfl, Nat.le_of_ble_eq_true rfl⟩ rfl rfl hZ hK hw rfl hl.1 rfl (Nat.le_of_ble_eq_true rfl) ⟨Nat.zero_le _, Nat.zero_le _⟩ dX7_first_35 (fun H locs hw => ?_)
      exact r_lret hx hb hr hlocks hZ hK hw h dX7_first_38
    · replace h := if_some_t c7 h
      exact hb15 _ _ h _ _ _ hw (lv_sub hl [0] rfl)
theorem dX7_mean_0 : decode cX7_mean 0 = .ok (.aload_n 0, 1) := by decide +kernel
theorem dX7_mean_1 : decode cX7_mean 1 = .ok (.iload_n 1, 1) := by decide +kernel
theorem dX7_mean_2 : decode cX7_mean 2 = .ok (.invokevirtual 121, 3) := by decide +kernel
theorem dX7_mean_5 : decode cX7_mean 5 = .ok (.ifCond .eq 10, 3) := by decide +kernel
theorem dX7_mean_8 : decode cX7_mean 8 = .ok (.iload_n 2, 1) := by decide +kernel
theorem dX7_mean_9 : decode cX7_mean 9 = .ok (.invokestatic 263, 3) := by decide +kernel
theorem dX7_mean_12 : decode cX7_mean 12 = .ok (.ifCond .ne 10, 3) := by decide +kernel
theorem dX7_mean_15 : decode cX7_mean 15 = .ok (.aload_n 0, 1) := by decide +kernel
theorem dX7_mean_16 : decode cX7_mean 16 = .ok (.iconst 0, 1) := by decide +kernel
theorem dX7_mean_17 : decode cX7_mean 17 = .ok (.invokevirtual 115, 3) := by decide +kernel
theorem dX7_mean_20 : decode cX7_mean 20 = .ok (.i2l, 1) := by decide +kernel
theorem dX7_mean_21 : decode cX7_mean 21 = .ok (.lreturn, 1) := by decide +kernel
theorem dX7_mean_22 : decode cX7_mean 22 = .ok (.aload_n 0, 1) := by decide +kernel
theorem dX7_mean_23 : decode cX7_mean 23 = .ok (.invokevirtual 266, 3) := by decide +kernel
theorem dX7_mean_26 : decode cX7_mean 26 = .ok (.lstore_n 3, 1) := by decide +kernel
theorem dX7_mean_27 : decode cX7_mean 27 = .ok (.aload_n 0, 1) := by decide +kernel
theorem dX7_mean_28 : decode cX7_mean 28 = .ok (.getfield 39, 3) := by decide +kernel
theorem dX7_mean_31 : decode cX7_mean 31 = .ok (.iload_n 1, 1) := by decide +kernel
theorem dX7_mean_32 : decode cX7_mean 32 = .ok (.laload, 1) := by decide +kernel
theorem dX7_mean_33 : decode cX7_mean 33 = .ok (.lload_n 3, 1) := by decide +kernel
theorem dX7_mean_34 : decode cX7_mean 34 = .ok (.iload_n 2, 1) := by decide +kernel
theorem dX7_mean_35 : decode cX7_mean 35 = .ok (.invokestatic 270, 3) := by decide +kernel
theorem dX7_mean_38 : decode cX7_mean 38 = .ok (.lreturn, 1) := by decide +kernel
set_option maxHeartbeats 4000000 in
set_option maxRecDepth 100000 in
theorem c_X7_mean (l : Launch) (D : va_G) (cy : Nat → ClassId) (ad adK adV : Nat → Nat) (M : Mm) (o0 : Nat) (a1 : Int32) (a2 : Int32) (res : Mm × Int64) (h : f_X7_mean M o0 a1 a2 = some res) : Met l yX7_mean (wU yX7_mean cX7_mean 5 (some .long)) rmX7_mean (va_Pc [.ref (ad o0), .int a1, .int a2] (Pre D cy shM ad nM adK adV M)) (va_Ql (fun r (M2 : Mm) => r = res.2 ∧ M2 = res.1) (Pre D cy shM ad nM adK adV) (Aw ad nM)) 0 0 (Aw ad nM) := by
  refine Met.ofW (cc := cX7_mean) (maxL := 5) (ret := (some .long)) (by decide) rfl ?_
  intro p e s m args below meth c s₁ B hml hv
  obtain ⟨hargs, hPre⟩ := hv
  have hx := B.exec
  have hb := B.bytes
  have hr := B.returns
  have hts := atoms_spec (ws := wU yX7_mean cX7_mean 5 (some .long)) B.pre
  have hq : ∀ w ∈ gW, w.before args s = true := fun w hw => hts w (List.mem_cons_of_mem _ hw)
  have hcm : ∀ w ∈ gW, w ∈ wU yX7_mean cX7_mean 5 (some .long) := fun w hw => List.mem_cons_of_mem _ hw
  have hown : s.vm.findClass RX7 = some m.cls := findClass_of_methodNamed B.named
  have hlocks := B.notSynchronized
  have hF : CallFix p m c cX7_mean 5 s args (wU yX7_mean cX7_mean 5 (some .long)) RX7 := ⟨hx, hb, hml, hown, hts⟩
  have hK := hPre.2.1
  have hZ := hPre.2.2.2
  have hw : Wd D cy shM ad nM (Aw ad nM) s.heap M s.heap [] := ⟨hPre.1, hPre.2.2.1, va_S.rf⟩
  have iw7 : ∀ w ∈ u_ws RX7 TX7 30, w ∈ wU yX7_mean cX7_mean 5 (some .long) := fun w hw => List.mem_cons_of_mem _ (iX7 w hw)
  rw [show entryFrame m args 5 = entryFrame m ([.ref (ad o0), .int a1, .int a2] : List Value).toArray 5 from by rw [hargs]]
  have hl := lv_entry ([.ref (ad o0), .int a1, .int a2]) (n := 5) (Nat.le_of_ble_eq_true rfl)
  rw [lg_entry_eq]
  generalize (lg_sl ([.ref (ad o0), .int a1, .int a2]) ++ List.replicate (5 - (lg_sl ([.ref (ad o0), .int a1, .int a2])).length) Slot.unset).toArray = ls at hl ⊢
  have hl : lv_has ls 5 [(0, .ref (ad o0)), (1, .int a1), (2, .int a2)] := hl
  have hb15 : ∀ (M : Mm) (x0 : Nat), f_X7_mean_b15 M x0 = some res → ∀ (H : Heap) (locs : List Loc) (ls : Array Slot), Wd D cy shM ad nM (Aw ad nM) s.heap M H locs → lv_has ls 5 [(0, .ref (ad x0))] → W p l e (headSpec (wU yX7_mean cX7_mean 5 (some .long)) rmX7_mean).room s m args below meth c H locs 0 0 (QL D cy shM ad nM adK adV below args s res) (F0 m 15 ls []) := by
    intro M x0 h H locs ls hw hl
    unfold f_X7_mean_b15 at h
    refine lv_aload_n hx hb dX7_mean_15 rfl (lv_at hl 0 rfl) ?_
    refine lv_iconst (v := (0 : Int32)) hx hb dX7_mean_16 (by decide) ?_
    replace h := gd_some h
    obtain ⟨g2, h⟩ := h
    replace h := bd_some h
    obtain ⟨r1, er1, h⟩ := h
    refine r_callVi (As := [.int (0 : Int32)]) (rest := []) hF (c_X7_finding l D cy ad adK adV M x0 (0 : Int32) r1 er1) (gW_goodV hcm qw989 qw986 qw988 qw18 qw67) hdX7_finding rfl ⟨Nat.le_of_ble_eq_true rfl, Nat.le_of_ble_eq_true rfl⟩ rfl rfl hZ hK hw g2 (by decide) rfl rfl hl.1 rfl (Nat.le_of_ble_eq_true rfl) ⟨Nat.zero_le _, Nat.zero_le _⟩ dX7_mean_17 (fun H locs hw => ?_)
    refine lv_i2l (v := r1.2.toInt64) hx hb dX7_mean_20 rfl ?_
    exact r_lret hx hb hr hlocks hZ hK hw h dX7_mean_21
  unfold f_X7_mean at h
  refine lv_aload_n hx hb dX7_mean_0 rfl (lv_at hl 0 rfl) ?_
  refine lv_iload_n hx hb dX7_mean_1 rfl (lv_at hl 1 rfl) ?_
  replace h := gd_some h
  obtain ⟨g4, h⟩ := h
  replace h := bd_some h
  obtain ⟨r3, er3, h⟩ := h
  refine r_callVi (As := [.int a1]) (rest := []) hF (c_X7_isSide l D cy ad adK adV M o0 a1 r3 er3) (gW_goodV hcm qw1002 qw999 qw1001 qw20 qw67) hdX7_isSide rfl ⟨Nat.le_of_ble_eq_true rfl, Nat.le_of_ble_eq_true rfl⟩ rfl rfl hZ hK hw g4 (by decide) rfl rfl hl.1 rfl (Nat.le_of_ble_eq_true rfl) ⟨Nat.zero_le _, Nat.zero_le _⟩ dX7_mean_2 (fun H locs hw => ?_)
  refine lv_if_eq (tgt := 15) hx hb dX7_mean_5 (by decide) (fun c5 => ?_) (fun c5 => ?_)
  · replace h := if_some_t c5 h
    exact hb15 _ _ h _ _ _ hw (lv_sub hl [0] rfl)
  · replace h := if_some_f c5 h
    refine lv_iload_n hx hb dX7_mean_8 rfl (lv_at hl 2 rfl) ?_
    replace h := bd_some h
    obtain ⟨r6, er6, h⟩ := h
    refine r_callSi (As := [.int a2]) (rest := []) hF (c_X7_isPart l D cy ad adK adV r3.1 a2 r6 er6) (gW_goodS hcm qw1206 qw1204 qw1205 qw67) hdX7_isPart ⟨Nat.le_of_ble_eq_true rfl, Nat.le_of_ble_eq_true rfl⟩ rfl rfl hZ hK hw rfl hl.1 rfl (Nat.le_of_ble_eq_true rfl) ⟨Nat.zero_le _, Nat.zero_le _⟩ dX7_mean_9 (fun H locs hw => ?_)
    refine lv_if_ne (tgt := 22) hx hb dX7_mean_12 (by decide) (fun c7 => ?_) (fun c7 => ?_)
    · replace h := if_some_f c7 h
      refine lv_aload_n hx hb dX7_mean_22 rfl (lv_at hl 0 rfl) ?_
      replace h := bd_some h
      obtain ⟨r8, er8, h⟩ := h
      refine r_callVl (As := []) (rest := []) hF (c_X7_findWays l D cy ad adK adV r6.1 o0 r8 er8) (gW_goodV hcm qw1210 qw1207 qw1209 qw52 qw67) hdX7_findWays rfl ⟨Nat.le_of_ble_eq_true rfl, Nat.le_of_ble_eq_true rfl⟩ rfl rfl hZ hK hw g4 (by decide) rfl rfl hl.1 rfl (Nat.le_of_ble_eq_true rfl) ⟨Nat.zero_le _, Nat.zero_le _⟩ dX7_mean_23 (fun H locs hw => ?_)
      refine lv_lstore_n (lv' := [(3, .long r8.2), (0, .ref (ad o0)), (1, .int a1), (2, .int a2)]) hx hb dX7_mean_26 rfl hl (by decide) rfl (fun ls hl => ?_)
      refine lv_aload_n hx hb dX7_mean_27 rfl (lv_at hl 1 rfl) ?_
      replace h := bd_some h
      obtain ⟨q9, eq9, h⟩ := h
      refine r_getR hx hb hts iw7 hown hK hw o0 19 g4 (by decide) rfl (by decide) rfl (hq _ qw907) (fun _ h9 => h9) dX7_mean_28 eq9 ?_
      refine lv_iload_n hx hb dX7_mean_31 rfl (lv_at hl 2 rfl) ?_
      replace h := gd_some h
      obtain ⟨g10, h⟩ := h
      refine r_lald hx hb hK hw q9 g10 dX7_mean_32 ?_
      refine lv_lload_n hx hb dX7_mean_33 rfl (lv_at hl 0 rfl) ?_
      refine lv_iload_n hx hb dX7_mean_34 rfl (lv_at hl 3 rfl) ?_
      replace h := bd_some h
      obtain ⟨r11, er11, h⟩ := h
      refine r_callSl (As := [.long (r8.1.2.1 q9 a1.toNatClampNeg), .long r8.2, .int a2]) (rest := []) hF (c_X7_told l D cy ad adK adV r8.1 (r8.1.2.1 q9 a1.toNatClampNeg) r8.2 a2 r11 er11) (gW_goodS hcm qw1222 qw1220 qw1221 qw67) hdX7_told ⟨Nat.le_of_ble_eq_true rfl, Nat.le_of_ble_eq_true rfl⟩ rfl rfl hZ hK hw rfl hl.1 rfl (Nat.le_of_ble_eq_true rfl) ⟨Nat.zero_le _, Nat.zero_le _⟩ dX7_mean_35 (fun H locs hw => ?_)
      exact r_lret hx hb hr hlocks hZ hK hw h dX7_mean_38
    · replace h := if_some_t c7 h
      exact hb15 _ _ h _ _ _ hw (lv_sub hl [0] rfl)
theorem dX7_least_0 : decode cX7_least 0 = .ok (.aload_n 0, 1) := by decide +kernel
theorem dX7_least_1 : decode cX7_least 1 = .ok (.iload_n 1, 1) := by decide +kernel
theorem dX7_least_2 : decode cX7_least 2 = .ok (.invokevirtual 121, 3) := by decide +kernel
theorem dX7_least_5 : decode cX7_least 5 = .ok (.ifCond .eq 20, 3) := by decide +kernel
theorem dX7_least_8 : decode cX7_least 8 = .ok (.iload_n 2, 1) := by decide +kernel
theorem dX7_least_9 : decode cX7_least 9 = .ok (.iconst 0, 1) := by decide +kernel
theorem dX7_least_10 : decode cX7_least 10 = .ok (.bipush 99, 2) := by decide +kernel
theorem dX7_least_12 : decode cX7_least 12 = .ok (.invokestatic 67, 3) := by decide +kernel
theorem dX7_least_15 : decode cX7_least 15 = .ok (.ifCond .eq 10, 3) := by decide +kernel
theorem dX7_least_18 : decode cX7_least 18 = .ok (.iload_n 3, 1) := by decide +kernel
theorem dX7_least_19 : decode cX7_least 19 = .ok (.invokestatic 263, 3) := by decide +kernel
theorem dX7_least_22 : decode cX7_least 22 = .ok (.ifCond .ne 10, 3) := by decide +kernel
theorem dX7_least_25 : decode cX7_least 25 = .ok (.aload_n 0, 1) := by decide +kernel
theorem dX7_least_26 : decode cX7_least 26 = .ok (.iconst 0, 1) := by decide +kernel
theorem dX7_least_27 : decode cX7_least 27 = .ok (.invokevirtual 115, 3) := by decide +kernel
theorem dX7_least_30 : decode cX7_least 30 = .ok (.i2l, 1) := by decide +kernel
theorem dX7_least_31 : decode cX7_least 31 = .ok (.lreturn, 1) := by decide +kernel
theorem dX7_least_32 : decode cX7_least 32 = .ok (.aload_n 0, 1) := by decide +kernel
theorem dX7_least_33 : decode cX7_least 33 = .ok (.iload_n 2, 1) := by decide +kernel
theorem dX7_least_34 : decode cX7_least 34 = .ok (.putfield 251, 3) := by decide +kernel
theorem dX7_least_37 : decode cX7_least 37 = .ok (.aload_n 0, 1) := by decide +kernel
theorem dX7_least_38 : decode cX7_least 38 = .ok (.invokevirtual 266, 3) := by decide +kernel
theorem dX7_least_41 : decode cX7_least 41 = .ok (.lstore 4, 2) := by decide +kernel
theorem dX7_least_43 : decode cX7_least 43 = .ok (.aload_n 0, 1) := by decide +kernel
theorem dX7_least_44 : decode cX7_least 44 = .ok (.getfield 45, 3) := by decide +kernel
theorem dX7_least_47 : decode cX7_least 47 = .ok (.iload_n 1, 1) := by decide +kernel
theorem dX7_least_48 : decode cX7_least 48 = .ok (.laload, 1) := by decide +kernel
theorem dX7_least_49 : decode cX7_least 49 = .ok (.lload 4, 2) := by decide +kernel
theorem dX7_least_51 : decode cX7_least 51 = .ok (.iload_n 3, 1) := by decide +kernel
theorem dX7_least_52 : decode cX7_least 52 = .ok (.invokestatic 270, 3) := by decide +kernel
theorem dX7_least_55 : decode cX7_least 55 = .ok (.lreturn, 1) := by decide +kernel
set_option maxHeartbeats 4000000 in
set_option maxRecDepth 100000 in
theorem c_X7_least (l : Launch) (D : va_G) (cy : Nat → ClassId) (ad adK adV : Nat → Nat) (M : Mm) (o0 : Nat) (a1 : Int32) (a2 : Int32) (a3 : Int32) (res : Mm × Int64) (h : f_X7_least M o0 a1 a2 a3 = some res) : Met l yX7_least (wU yX7_least cX7_least 6 (some .long)) rmX7_least (va_Pc [.ref (ad o0), .int a1, .int a2, .int a3] (Pre D cy shM ad nM adK adV M)) (va_Ql (fun r (M2 : Mm) => r = res.2 ∧ M2 = res.1) (Pre D cy shM ad nM adK adV) (Aw ad nM)) 0 0 (Aw ad nM) := by
  refine Met.ofW (cc := cX7_least) (maxL := 6) (ret := (some .long)) (by decide) rfl ?_
  intro p e s m args below meth c s₁ B hml hv
  obtain ⟨hargs, hPre⟩ := hv
  have hx := B.exec
  have hb := B.bytes
  have hr := B.returns
  have hts := atoms_spec (ws := wU yX7_least cX7_least 6 (some .long)) B.pre
  have hq : ∀ w ∈ gW, w.before args s = true := fun w hw => hts w (List.mem_cons_of_mem _ hw)
  have hcm : ∀ w ∈ gW, w ∈ wU yX7_least cX7_least 6 (some .long) := fun w hw => List.mem_cons_of_mem _ hw
  have hown : s.vm.findClass RX7 = some m.cls := findClass_of_methodNamed B.named
  have hlocks := B.notSynchronized
  have hF : CallFix p m c cX7_least 6 s args (wU yX7_least cX7_least 6 (some .long)) RX7 := ⟨hx, hb, hml, hown, hts⟩
  have hK := hPre.2.1
  have hZ := hPre.2.2.2
  have hw : Wd D cy shM ad nM (Aw ad nM) s.heap M s.heap [] := ⟨hPre.1, hPre.2.2.1, va_S.rf⟩
  have iw7 : ∀ w ∈ u_ws RX7 TX7 30, w ∈ wU yX7_least cX7_least 6 (some .long) := fun w hw => List.mem_cons_of_mem _ (iX7 w hw)
  rw [show entryFrame m args 6 = entryFrame m ([.ref (ad o0), .int a1, .int a2, .int a3] : List Value).toArray 6 from by rw [hargs]]
  have hl := lv_entry ([.ref (ad o0), .int a1, .int a2, .int a3]) (n := 6) (Nat.le_of_ble_eq_true rfl)
  rw [lg_entry_eq]
  generalize (lg_sl ([.ref (ad o0), .int a1, .int a2, .int a3]) ++ List.replicate (6 - (lg_sl ([.ref (ad o0), .int a1, .int a2, .int a3])).length) Slot.unset).toArray = ls at hl ⊢
  have hl : lv_has ls 6 [(0, .ref (ad o0)), (1, .int a1), (2, .int a2), (3, .int a3)] := hl
  have hb25 : ∀ (M : Mm) (x0 : Nat), f_X7_least_b25 M x0 = some res → ∀ (H : Heap) (locs : List Loc) (ls : Array Slot), Wd D cy shM ad nM (Aw ad nM) s.heap M H locs → lv_has ls 6 [(0, .ref (ad x0))] → W p l e (headSpec (wU yX7_least cX7_least 6 (some .long)) rmX7_least).room s m args below meth c H locs 0 0 (QL D cy shM ad nM adK adV below args s res) (F0 m 25 ls []) := by
    intro M x0 h H locs ls hw hl
    unfold f_X7_least_b25 at h
    refine lv_aload_n hx hb dX7_least_25 rfl (lv_at hl 0 rfl) ?_
    refine lv_iconst (v := (0 : Int32)) hx hb dX7_least_26 (by decide) ?_
    replace h := gd_some h
    obtain ⟨g2, h⟩ := h
    replace h := bd_some h
    obtain ⟨r1, er1, h⟩ := h
    refine r_callVi (As := [.int (0 : Int32)]) (rest := []) hF (c_X7_finding l D cy ad adK adV M x0 (0 : Int32) r1 er1) (gW_goodV hcm qw989 qw986 qw988 qw18 qw67) hdX7_finding rfl ⟨Nat.le_of_ble_eq_true rfl, Nat.le_of_ble_eq_true rfl⟩ rfl rfl hZ hK hw g2 (by decide) rfl rfl hl.1 rfl (Nat.le_of_ble_eq_true rfl) ⟨Nat.zero_le _, Nat.zero_le _⟩ dX7_least_27 (fun H locs hw => ?_)
    refine lv_i2l (v := r1.2.toInt64) hx hb dX7_least_30 rfl ?_
    exact r_lret hx hb hr hlocks hZ hK hw h dX7_least_31
  unfold f_X7_least at h
  refine lv_aload_n hx hb dX7_least_0 rfl (lv_at hl 0 rfl) ?_
  refine lv_iload_n hx hb dX7_least_1 rfl (lv_at hl 1 rfl) ?_
  replace h := gd_some h
  obtain ⟨g4, h⟩ := h
  replace h := bd_some h
  obtain ⟨r3, er3, h⟩ := h
  refine r_callVi (As := [.int a1]) (rest := []) hF (c_X7_isSide l D cy ad adK adV M o0 a1 r3 er3) (gW_goodV hcm qw1002 qw999 qw1001 qw20 qw67) hdX7_isSide rfl ⟨Nat.le_of_ble_eq_true rfl, Nat.le_of_ble_eq_true rfl⟩ rfl rfl hZ hK hw g4 (by decide) rfl rfl hl.1 rfl (Nat.le_of_ble_eq_true rfl) ⟨Nat.zero_le _, Nat.zero_le _⟩ dX7_least_2 (fun H locs hw => ?_)
  refine lv_if_eq (tgt := 25) hx hb dX7_least_5 (by decide) (fun c5 => ?_) (fun c5 => ?_)
  · replace h := if_some_t c5 h
    exact hb25 _ _ h _ _ _ hw (lv_sub hl [0] rfl)
  · replace h := if_some_f c5 h
    refine lv_iload_n hx hb dX7_least_8 rfl (lv_at hl 2 rfl) ?_
    refine lv_iconst (v := (0 : Int32)) hx hb dX7_least_9 (by decide) ?_
    refine lv_bipush (v := (99 : Int32)) hx hb dX7_least_10 (by decide) ?_
    replace h := bd_some h
    obtain ⟨r6, er6, h⟩ := h
    refine r_callSi (As := [.int a2, .int (0 : Int32), .int (99 : Int32)]) (rest := []) hF (c_X7_in l D cy ad adK adV r3.1 a2 (0 : Int32) (99 : Int32) r6 er6) (gW_goodS hcm qw985 qw983 qw984 qw67) hdX7_in ⟨Nat.le_of_ble_eq_true rfl, Nat.le_of_ble_eq_true rfl⟩ rfl rfl hZ hK hw rfl hl.1 rfl (Nat.le_of_ble_eq_true rfl) ⟨Nat.zero_le _, Nat.zero_le _⟩ dX7_least_12 (fun H locs hw => ?_)
    refine lv_if_eq (tgt := 25) hx hb dX7_least_15 (by decide) (fun c7 => ?_) (fun c7 => ?_)
    · replace h := if_some_t c7 h
      exact hb25 _ _ h _ _ _ hw (lv_sub hl [0] rfl)
    · replace h := if_some_f c7 h
      refine lv_iload_n hx hb dX7_least_18 rfl (lv_at hl 3 rfl) ?_
      replace h := bd_some h
      obtain ⟨r8, er8, h⟩ := h
      refine r_callSi (As := [.int a3]) (rest := []) hF (c_X7_isPart l D cy ad adK adV r6.1 a3 r8 er8) (gW_goodS hcm qw1206 qw1204 qw1205 qw67) hdX7_isPart ⟨Nat.le_of_ble_eq_true rfl, Nat.le_of_ble_eq_true rfl⟩ rfl rfl hZ hK hw rfl hl.1 rfl (Nat.le_of_ble_eq_true rfl) ⟨Nat.zero_le _, Nat.zero_le _⟩ dX7_least_19 (fun H locs hw => ?_)
      refine lv_if_ne (tgt := 32) hx hb dX7_least_22 (by decide) (fun c9 => ?_) (fun c9 => ?_)
      · replace h := if_some_f c9 h
        refine lv_aload_n hx hb dX7_least_32 rfl (lv_at hl 0 rfl) ?_
        refine lv_iload_n hx hb dX7_least_33 rfl (lv_at hl 2 rfl) ?_
        refine r_putI hx hb hts iw7 tyX7 tyX7_ok nmX7 hown hK hw o0 21 g4 (by decide) rfl (by decide) rfl (hq _ qw909) (fun _ h9 => h9) rfl rfl rfl dX7_least_34 (fun H locs hw => ?_)
        replace h := lt_some h
        obtain ⟨M10, eM10, h⟩ := h
        rw [← eM10] at hw
        refine lv_aload_n hx hb dX7_least_37 rfl (lv_at hl 0 rfl) ?_
        replace h := bd_some h
        obtain ⟨r11, er11, h⟩ := h
        refine r_callVl (As := []) (rest := []) hF (c_X7_findWays l D cy ad adK adV M10 o0 r11 er11) (gW_goodV hcm qw1210 qw1207 qw1209 qw52 qw67) hdX7_findWays rfl ⟨Nat.le_of_ble_eq_true rfl, Nat.le_of_ble_eq_true rfl⟩ rfl rfl hZ hK hw g4 (by decide) rfl rfl hl.1 rfl (Nat.le_of_ble_eq_true rfl) ⟨Nat.zero_le _, Nat.zero_le _⟩ dX7_least_38 (fun H locs hw => ?_)
        refine lv_lstore (lv' := [(4, .long r11.2), (0, .ref (ad o0)), (1, .int a1), (2, .int a2), (3, .int a3)]) hx hb dX7_least_41 hl (by decide) rfl (fun ls hl => ?_)
        refine lv_aload_n hx hb dX7_least_43 rfl (lv_at hl 1 rfl) ?_
        replace h := bd_some h
        obtain ⟨q12, eq12, h⟩ := h
        refine r_getR hx hb hts iw7 hown hK hw o0 22 g4 (by decide) rfl (by decide) rfl (hq _ qw910) (fun _ h9 => h9) dX7_least_44 eq12 ?_
        refine lv_iload_n hx hb dX7_least_47 rfl (lv_at hl 2 rfl) ?_
        replace h := gd_some h
        obtain ⟨g13, h⟩ := h
        refine r_lald hx hb hK hw q12 g13 dX7_least_48 ?_
        refine lv_lload hx hb dX7_least_49 (lv_at hl 0 rfl) ?_
        refine lv_iload_n hx hb dX7_least_51 rfl (lv_at hl 4 rfl) ?_
        replace h := bd_some h
        obtain ⟨r14, er14, h⟩ := h
        refine r_callSl (As := [.long (r11.1.2.1 q12 a1.toNatClampNeg), .long r11.2, .int a3]) (rest := []) hF (c_X7_told l D cy ad adK adV r11.1 (r11.1.2.1 q12 a1.toNatClampNeg) r11.2 a3 r14 er14) (gW_goodS hcm qw1222 qw1220 qw1221 qw67) hdX7_told ⟨Nat.le_of_ble_eq_true rfl, Nat.le_of_ble_eq_true rfl⟩ rfl rfl hZ hK hw rfl hl.1 rfl (Nat.le_of_ble_eq_true rfl) ⟨Nat.zero_le _, Nat.zero_le _⟩ dX7_least_52 (fun H locs hw => ?_)
        exact r_lret hx hb hr hlocks hZ hK hw h dX7_least_55
      · replace h := if_some_t c9 h
        exact hb25 _ _ h _ _ _ hw (lv_sub hl [0] rfl)
theorem dX7_most_0 : decode cX7_most 0 = .ok (.aload_n 0, 1) := by decide +kernel
theorem dX7_most_1 : decode cX7_most 1 = .ok (.iload_n 1, 1) := by decide +kernel
theorem dX7_most_2 : decode cX7_most 2 = .ok (.invokevirtual 121, 3) := by decide +kernel
theorem dX7_most_5 : decode cX7_most 5 = .ok (.ifCond .ne 9, 3) := by decide +kernel
theorem dX7_most_8 : decode cX7_most 8 = .ok (.aload_n 0, 1) := by decide +kernel
theorem dX7_most_9 : decode cX7_most 9 = .ok (.iconst 0, 1) := by decide +kernel
theorem dX7_most_10 : decode cX7_most 10 = .ok (.invokevirtual 115, 3) := by decide +kernel
theorem dX7_most_13 : decode cX7_most 13 = .ok (.ireturn, 1) := by decide +kernel
theorem dX7_most_14 : decode cX7_most 14 = .ok (.aload_n 0, 1) := by decide +kernel
theorem dX7_most_15 : decode cX7_most 15 = .ok (.invokevirtual 266, 3) := by decide +kernel
theorem dX7_most_18 : decode cX7_most 18 = .ok (.lstore_n 2, 1) := by decide +kernel
theorem dX7_most_19 : decode cX7_most 19 = .ok (.aload_n 0, 1) := by decide +kernel
theorem dX7_most_20 : decode cX7_most 20 = .ok (.getfield 42, 3) := by decide +kernel
theorem dX7_most_23 : decode cX7_most 23 = .ok (.iload_n 1, 1) := by decide +kernel
theorem dX7_most_24 : decode cX7_most 24 = .ok (.iaload, 1) := by decide +kernel
theorem dX7_most_25 : decode cX7_most 25 = .ok (.ireturn, 1) := by decide +kernel
set_option maxHeartbeats 4000000 in
set_option maxRecDepth 100000 in
theorem c_X7_most (l : Launch) (D : va_G) (cy : Nat → ClassId) (ad adK adV : Nat → Nat) (M : Mm) (o0 : Nat) (a1 : Int32) (res : Mm × Int32) (h : f_X7_most M o0 a1 = some res) : Met l yX7_most (wU yX7_most cX7_most 4 (some .int)) rmX7_most (va_Pc [.ref (ad o0), .int a1] (Pre D cy shM ad nM adK adV M)) (va_Qi (fun r (M2 : Mm) => r = res.2 ∧ M2 = res.1) (Pre D cy shM ad nM adK adV) (Aw ad nM)) 0 0 (Aw ad nM) := by
  refine Met.ofW (cc := cX7_most) (maxL := 4) (ret := (some .int)) (by decide) rfl ?_
  intro p e s m args below meth c s₁ B hml hv
  obtain ⟨hargs, hPre⟩ := hv
  have hx := B.exec
  have hb := B.bytes
  have hr := B.returns
  have hts := atoms_spec (ws := wU yX7_most cX7_most 4 (some .int)) B.pre
  have hq : ∀ w ∈ gW, w.before args s = true := fun w hw => hts w (List.mem_cons_of_mem _ hw)
  have hcm : ∀ w ∈ gW, w ∈ wU yX7_most cX7_most 4 (some .int) := fun w hw => List.mem_cons_of_mem _ hw
  have hown : s.vm.findClass RX7 = some m.cls := findClass_of_methodNamed B.named
  have hlocks := B.notSynchronized
  have hF : CallFix p m c cX7_most 4 s args (wU yX7_most cX7_most 4 (some .int)) RX7 := ⟨hx, hb, hml, hown, hts⟩
  have hK := hPre.2.1
  have hZ := hPre.2.2.2
  have hw : Wd D cy shM ad nM (Aw ad nM) s.heap M s.heap [] := ⟨hPre.1, hPre.2.2.1, va_S.rf⟩
  have iw7 : ∀ w ∈ u_ws RX7 TX7 30, w ∈ wU yX7_most cX7_most 4 (some .int) := fun w hw => List.mem_cons_of_mem _ (iX7 w hw)
  rw [show entryFrame m args 4 = entryFrame m ([.ref (ad o0), .int a1] : List Value).toArray 4 from by rw [hargs]]
  have hl := lv_entry ([.ref (ad o0), .int a1]) (n := 4) (Nat.le_of_ble_eq_true rfl)
  rw [lg_entry_eq]
  generalize (lg_sl ([.ref (ad o0), .int a1]) ++ List.replicate (4 - (lg_sl ([.ref (ad o0), .int a1])).length) Slot.unset).toArray = ls at hl ⊢
  have hl : lv_has ls 4 [(0, .ref (ad o0)), (1, .int a1)] := hl
  unfold f_X7_most at h
  refine lv_aload_n hx hb dX7_most_0 rfl (lv_at hl 0 rfl) ?_
  refine lv_iload_n hx hb dX7_most_1 rfl (lv_at hl 1 rfl) ?_
  replace h := gd_some h
  obtain ⟨g2, h⟩ := h
  replace h := bd_some h
  obtain ⟨r1, er1, h⟩ := h
  refine r_callVi (As := [.int a1]) (rest := []) hF (c_X7_isSide l D cy ad adK adV M o0 a1 r1 er1) (gW_goodV hcm qw1002 qw999 qw1001 qw20 qw67) hdX7_isSide rfl ⟨Nat.le_of_ble_eq_true rfl, Nat.le_of_ble_eq_true rfl⟩ rfl rfl hZ hK hw g2 (by decide) rfl rfl hl.1 rfl (Nat.le_of_ble_eq_true rfl) ⟨Nat.zero_le _, Nat.zero_le _⟩ dX7_most_2 (fun H locs hw => ?_)
  refine lv_if_ne (tgt := 14) hx hb dX7_most_5 (by decide) (fun c3 => ?_) (fun c3 => ?_)
  · replace h := if_some_f c3 h
    refine lv_aload_n hx hb dX7_most_14 rfl (lv_at hl 0 rfl) ?_
    replace h := bd_some h
    obtain ⟨r4, er4, h⟩ := h
    refine r_callVl (As := []) (rest := []) hF (c_X7_findWays l D cy ad adK adV r1.1 o0 r4 er4) (gW_goodV hcm qw1210 qw1207 qw1209 qw52 qw67) hdX7_findWays rfl ⟨Nat.le_of_ble_eq_true rfl, Nat.le_of_ble_eq_true rfl⟩ rfl rfl hZ hK hw g2 (by decide) rfl rfl hl.1 rfl (Nat.le_of_ble_eq_true rfl) ⟨Nat.zero_le _, Nat.zero_le _⟩ dX7_most_15 (fun H locs hw => ?_)
    refine lv_lstore_n (lv' := [(2, .long r4.2), (0, .ref (ad o0)), (1, .int a1)]) hx hb dX7_most_18 rfl hl (by decide) rfl (fun ls hl => ?_)
    refine lv_aload_n hx hb dX7_most_19 rfl (lv_at hl 1 rfl) ?_
    replace h := bd_some h
    obtain ⟨q5, eq5, h⟩ := h
    refine r_getR hx hb hts iw7 hown hK hw o0 20 g2 (by decide) rfl (by decide) rfl (hq _ qw908) (fun _ h9 => h9) dX7_most_20 eq5 ?_
    refine lv_iload_n hx hb dX7_most_23 rfl (lv_at hl 2 rfl) ?_
    replace h := gd_some h
    obtain ⟨g6, h⟩ := h
    refine r_iald hx hb hK hw q5 g6 dX7_most_24 ?_
    exact r_iret hx hb hr rfl hlocks hZ hK hw h dX7_most_25
  · replace h := if_some_t c3 h
    refine lv_aload_n hx hb dX7_most_8 rfl (lv_at hl 0 rfl) ?_
    refine lv_iconst (v := (0 : Int32)) hx hb dX7_most_9 (by decide) ?_
    replace h := bd_some h
    obtain ⟨r7, er7, h⟩ := h
    refine r_callVi (As := [.int (0 : Int32)]) (rest := []) hF (c_X7_finding l D cy ad adK adV r1.1 o0 (0 : Int32) r7 er7) (gW_goodV hcm qw989 qw986 qw988 qw18 qw67) hdX7_finding rfl ⟨Nat.le_of_ble_eq_true rfl, Nat.le_of_ble_eq_true rfl⟩ rfl rfl hZ hK hw g2 (by decide) rfl rfl hl.1 rfl (Nat.le_of_ble_eq_true rfl) ⟨Nat.zero_le _, Nat.zero_le _⟩ dX7_most_10 (fun H locs hw => ?_)
    exact r_iret hx hb hr rfl hlocks hZ hK hw h dX7_most_13
theorem dX7_ways_0 : decode cX7_ways 0 = .ok (.aload_n 0, 1) := by decide +kernel
theorem dX7_ways_1 : decode cX7_ways 1 = .ok (.invokevirtual 266, 3) := by decide +kernel
theorem dX7_ways_4 : decode cX7_ways 4 = .ok (.lstore_n 1, 1) := by decide +kernel
theorem dX7_ways_5 : decode cX7_ways 5 = .ok (.aload_n 0, 1) := by decide +kernel
theorem dX7_ways_6 : decode cX7_ways 6 = .ok (.getfield 248, 3) := by decide +kernel
theorem dX7_ways_9 : decode cX7_ways 9 = .ok (.ireturn, 1) := by decide +kernel
set_option maxHeartbeats 4000000 in
set_option maxRecDepth 100000 in
theorem c_X7_ways (l : Launch) (D : va_G) (cy : Nat → ClassId) (ad adK adV : Nat → Nat) (M : Mm) (o0 : Nat) (res : Mm × Int32) (h : f_X7_ways M o0 = some res) : Met l yX7_ways (wU yX7_ways cX7_ways 3 (some .int)) rmX7_ways (va_Pc [.ref (ad o0)] (Pre D cy shM ad nM adK adV M)) (va_Qi (fun r (M2 : Mm) => r = res.2 ∧ M2 = res.1) (Pre D cy shM ad nM adK adV) (Aw ad nM)) 0 0 (Aw ad nM) := by
  refine Met.ofW (cc := cX7_ways) (maxL := 3) (ret := (some .int)) (by decide) rfl ?_
  intro p e s m args below meth c s₁ B hml hv
  obtain ⟨hargs, hPre⟩ := hv
  have hx := B.exec
  have hb := B.bytes
  have hr := B.returns
  have hts := atoms_spec (ws := wU yX7_ways cX7_ways 3 (some .int)) B.pre
  have hq : ∀ w ∈ gW, w.before args s = true := fun w hw => hts w (List.mem_cons_of_mem _ hw)
  have hcm : ∀ w ∈ gW, w ∈ wU yX7_ways cX7_ways 3 (some .int) := fun w hw => List.mem_cons_of_mem _ hw
  have hown : s.vm.findClass RX7 = some m.cls := findClass_of_methodNamed B.named
  have hlocks := B.notSynchronized
  have hF : CallFix p m c cX7_ways 3 s args (wU yX7_ways cX7_ways 3 (some .int)) RX7 := ⟨hx, hb, hml, hown, hts⟩
  have hK := hPre.2.1
  have hZ := hPre.2.2.2
  have hw : Wd D cy shM ad nM (Aw ad nM) s.heap M s.heap [] := ⟨hPre.1, hPre.2.2.1, va_S.rf⟩
  have iw7 : ∀ w ∈ u_ws RX7 TX7 30, w ∈ wU yX7_ways cX7_ways 3 (some .int) := fun w hw => List.mem_cons_of_mem _ (iX7 w hw)
  rw [show entryFrame m args 3 = entryFrame m ([.ref (ad o0)] : List Value).toArray 3 from by rw [hargs]]
  have hl := lv_entry ([.ref (ad o0)]) (n := 3) (Nat.le_of_ble_eq_true rfl)
  rw [lg_entry_eq]
  generalize (lg_sl ([.ref (ad o0)]) ++ List.replicate (3 - (lg_sl ([.ref (ad o0)])).length) Slot.unset).toArray = ls at hl ⊢
  have hl : lv_has ls 3 [(0, .ref (ad o0))] := hl
  unfold f_X7_ways at h
  refine lv_aload_n hx hb dX7_ways_0 rfl (lv_at hl 0 rfl) ?_
  replace h := gd_some h
  obtain ⟨g2, h⟩ := h
  replace h := bd_some h
  obtain ⟨r1, er1, h⟩ := h
  refine r_callVl (As := []) (rest := []) hF (c_X7_findWays l D cy ad adK adV M o0 r1 er1) (gW_goodV hcm qw1210 qw1207 qw1209 qw52 qw67) hdX7_findWays rfl ⟨Nat.le_of_ble_eq_true rfl, Nat.le_of_ble_eq_true rfl⟩ rfl rfl hZ hK hw g2 (by decide) rfl rfl hl.1 rfl (Nat.le_of_ble_eq_true rfl) ⟨Nat.zero_le _, Nat.zero_le _⟩ dX7_ways_1 (fun H locs hw => ?_)
  refine lv_lstore_n (lv' := [(1, .long r1.2), (0, .ref (ad o0))]) hx hb dX7_ways_4 rfl hl (by decide) rfl (fun ls hl => ?_)
  refine lv_aload_n hx hb dX7_ways_5 rfl (lv_at hl 1 rfl) ?_
  refine r_getI hx hb hts iw7 hown hK hw o0 23 g2 (by decide) rfl (by decide) rfl (hq _ qw911) (fun _ h9 => h9) dX7_ways_6 ?_
  exact r_iret hx hb hr rfl hlocks hZ hK hw h dX7_ways_9
theorem dX7_moved_0 : decode cX7_moved 0 = .ok (.aload_n 0, 1) := by decide +kernel
theorem dX7_moved_1 : decode cX7_moved 1 = .ok (.iload_n 1, 1) := by decide +kernel
theorem dX7_moved_2 : decode cX7_moved 2 = .ok (.invokevirtual 131, 3) := by decide +kernel
theorem dX7_moved_5 : decode cX7_moved 5 = .ok (.ifCond .eq 10, 3) := by decide +kernel
theorem dX7_moved_8 : decode cX7_moved 8 = .ok (.iload_n 2, 1) := by decide +kernel
theorem dX7_moved_9 : decode cX7_moved 9 = .ok (.invokestatic 263, 3) := by decide +kernel
theorem dX7_moved_12 : decode cX7_moved 12 = .ok (.ifCond .ne 10, 3) := by decide +kernel
theorem dX7_moved_15 : decode cX7_moved 15 = .ok (.aload_n 0, 1) := by decide +kernel
theorem dX7_moved_16 : decode cX7_moved 16 = .ok (.iconst 0, 1) := by decide +kernel
theorem dX7_moved_17 : decode cX7_moved 17 = .ok (.invokevirtual 115, 3) := by decide +kernel
theorem dX7_moved_20 : decode cX7_moved 20 = .ok (.i2l, 1) := by decide +kernel
theorem dX7_moved_21 : decode cX7_moved 21 = .ok (.lreturn, 1) := by decide +kernel
theorem dX7_moved_22 : decode cX7_moved 22 = .ok (.aload_n 0, 1) := by decide +kernel
theorem dX7_moved_23 : decode cX7_moved 23 = .ok (.invokevirtual 266, 3) := by decide +kernel
theorem dX7_moved_26 : decode cX7_moved 26 = .ok (.lstore_n 3, 1) := by decide +kernel
theorem dX7_moved_27 : decode cX7_moved 27 = .ok (.aload_n 0, 1) := by decide +kernel
theorem dX7_moved_28 : decode cX7_moved 28 = .ok (.getfield 33, 3) := by decide +kernel
theorem dX7_moved_31 : decode cX7_moved 31 = .ok (.iload_n 1, 1) := by decide +kernel
theorem dX7_moved_32 : decode cX7_moved 32 = .ok (.laload, 1) := by decide +kernel
theorem dX7_moved_33 : decode cX7_moved 33 = .ok (.lload_n 3, 1) := by decide +kernel
theorem dX7_moved_34 : decode cX7_moved 34 = .ok (.iload_n 2, 1) := by decide +kernel
theorem dX7_moved_35 : decode cX7_moved 35 = .ok (.invokestatic 270, 3) := by decide +kernel
theorem dX7_moved_38 : decode cX7_moved 38 = .ok (.lreturn, 1) := by decide +kernel
set_option maxHeartbeats 4000000 in
set_option maxRecDepth 100000 in
theorem c_X7_moved (l : Launch) (D : va_G) (cy : Nat → ClassId) (ad adK adV : Nat → Nat) (M : Mm) (o0 : Nat) (a1 : Int32) (a2 : Int32) (res : Mm × Int64) (h : f_X7_moved M o0 a1 a2 = some res) : Met l yX7_moved (wU yX7_moved cX7_moved 5 (some .long)) rmX7_moved (va_Pc [.ref (ad o0), .int a1, .int a2] (Pre D cy shM ad nM adK adV M)) (va_Ql (fun r (M2 : Mm) => r = res.2 ∧ M2 = res.1) (Pre D cy shM ad nM adK adV) (Aw ad nM)) 0 0 (Aw ad nM) := by
  refine Met.ofW (cc := cX7_moved) (maxL := 5) (ret := (some .long)) (by decide) rfl ?_
  intro p e s m args below meth c s₁ B hml hv
  obtain ⟨hargs, hPre⟩ := hv
  have hx := B.exec
  have hb := B.bytes
  have hr := B.returns
  have hts := atoms_spec (ws := wU yX7_moved cX7_moved 5 (some .long)) B.pre
  have hq : ∀ w ∈ gW, w.before args s = true := fun w hw => hts w (List.mem_cons_of_mem _ hw)
  have hcm : ∀ w ∈ gW, w ∈ wU yX7_moved cX7_moved 5 (some .long) := fun w hw => List.mem_cons_of_mem _ hw
  have hown : s.vm.findClass RX7 = some m.cls := findClass_of_methodNamed B.named
  have hlocks := B.notSynchronized
  have hF : CallFix p m c cX7_moved 5 s args (wU yX7_moved cX7_moved 5 (some .long)) RX7 := ⟨hx, hb, hml, hown, hts⟩
  have hK := hPre.2.1
  have hZ := hPre.2.2.2
  have hw : Wd D cy shM ad nM (Aw ad nM) s.heap M s.heap [] := ⟨hPre.1, hPre.2.2.1, va_S.rf⟩
  have iw7 : ∀ w ∈ u_ws RX7 TX7 30, w ∈ wU yX7_moved cX7_moved 5 (some .long) := fun w hw => List.mem_cons_of_mem _ (iX7 w hw)
  rw [show entryFrame m args 5 = entryFrame m ([.ref (ad o0), .int a1, .int a2] : List Value).toArray 5 from by rw [hargs]]
  have hl := lv_entry ([.ref (ad o0), .int a1, .int a2]) (n := 5) (Nat.le_of_ble_eq_true rfl)
  rw [lg_entry_eq]
  generalize (lg_sl ([.ref (ad o0), .int a1, .int a2]) ++ List.replicate (5 - (lg_sl ([.ref (ad o0), .int a1, .int a2])).length) Slot.unset).toArray = ls at hl ⊢
  have hl : lv_has ls 5 [(0, .ref (ad o0)), (1, .int a1), (2, .int a2)] := hl
  have hb15 : ∀ (M : Mm) (x0 : Nat), f_X7_moved_b15 M x0 = some res → ∀ (H : Heap) (locs : List Loc) (ls : Array Slot), Wd D cy shM ad nM (Aw ad nM) s.heap M H locs → lv_has ls 5 [(0, .ref (ad x0))] → W p l e (headSpec (wU yX7_moved cX7_moved 5 (some .long)) rmX7_moved).room s m args below meth c H locs 0 0 (QL D cy shM ad nM adK adV below args s res) (F0 m 15 ls []) := by
    intro M x0 h H locs ls hw hl
    unfold f_X7_moved_b15 at h
    refine lv_aload_n hx hb dX7_moved_15 rfl (lv_at hl 0 rfl) ?_
    refine lv_iconst (v := (0 : Int32)) hx hb dX7_moved_16 (by decide) ?_
    replace h := gd_some h
    obtain ⟨g2, h⟩ := h
    replace h := bd_some h
    obtain ⟨r1, er1, h⟩ := h
    refine r_callVi (As := [.int (0 : Int32)]) (rest := []) hF (c_X7_finding l D cy ad adK adV M x0 (0 : Int32) r1 er1) (gW_goodV hcm qw989 qw986 qw988 qw18 qw67) hdX7_finding rfl ⟨Nat.le_of_ble_eq_true rfl, Nat.le_of_ble_eq_true rfl⟩ rfl rfl hZ hK hw g2 (by decide) rfl rfl hl.1 rfl (Nat.le_of_ble_eq_true rfl) ⟨Nat.zero_le _, Nat.zero_le _⟩ dX7_moved_17 (fun H locs hw => ?_)
    refine lv_i2l (v := r1.2.toInt64) hx hb dX7_moved_20 rfl ?_
    exact r_lret hx hb hr hlocks hZ hK hw h dX7_moved_21
  unfold f_X7_moved at h
  refine lv_aload_n hx hb dX7_moved_0 rfl (lv_at hl 0 rfl) ?_
  refine lv_iload_n hx hb dX7_moved_1 rfl (lv_at hl 1 rfl) ?_
  replace h := gd_some h
  obtain ⟨g4, h⟩ := h
  replace h := bd_some h
  obtain ⟨r3, er3, h⟩ := h
  refine r_callVi (As := [.int a1]) (rest := []) hF (c_X7_isGame l D cy ad adK adV M o0 a1 r3 er3) (gW_goodV hcm qw1050 qw1047 qw1049 qw29 qw67) hdX7_isGame rfl ⟨Nat.le_of_ble_eq_true rfl, Nat.le_of_ble_eq_true rfl⟩ rfl rfl hZ hK hw g4 (by decide) rfl rfl hl.1 rfl (Nat.le_of_ble_eq_true rfl) ⟨Nat.zero_le _, Nat.zero_le _⟩ dX7_moved_2 (fun H locs hw => ?_)
  refine lv_if_eq (tgt := 15) hx hb dX7_moved_5 (by decide) (fun c5 => ?_) (fun c5 => ?_)
  · replace h := if_some_t c5 h
    exact hb15 _ _ h _ _ _ hw (lv_sub hl [0] rfl)
  · replace h := if_some_f c5 h
    refine lv_iload_n hx hb dX7_moved_8 rfl (lv_at hl 2 rfl) ?_
    replace h := bd_some h
    obtain ⟨r6, er6, h⟩ := h
    refine r_callSi (As := [.int a2]) (rest := []) hF (c_X7_isPart l D cy ad adK adV r3.1 a2 r6 er6) (gW_goodS hcm qw1206 qw1204 qw1205 qw67) hdX7_isPart ⟨Nat.le_of_ble_eq_true rfl, Nat.le_of_ble_eq_true rfl⟩ rfl rfl hZ hK hw rfl hl.1 rfl (Nat.le_of_ble_eq_true rfl) ⟨Nat.zero_le _, Nat.zero_le _⟩ dX7_moved_9 (fun H locs hw => ?_)
    refine lv_if_ne (tgt := 22) hx hb dX7_moved_12 (by decide) (fun c7 => ?_) (fun c7 => ?_)
    · replace h := if_some_f c7 h
      refine lv_aload_n hx hb dX7_moved_22 rfl (lv_at hl 0 rfl) ?_
      replace h := bd_some h
      obtain ⟨r8, er8, h⟩ := h
      refine r_callVl (As := []) (rest := []) hF (c_X7_findWays l D cy ad adK adV r6.1 o0 r8 er8) (gW_goodV hcm qw1210 qw1207 qw1209 qw52 qw67) hdX7_findWays rfl ⟨Nat.le_of_ble_eq_true rfl, Nat.le_of_ble_eq_true rfl⟩ rfl rfl hZ hK hw g4 (by decide) rfl rfl hl.1 rfl (Nat.le_of_ble_eq_true rfl) ⟨Nat.zero_le _, Nat.zero_le _⟩ dX7_moved_23 (fun H locs hw => ?_)
      refine lv_lstore_n (lv' := [(3, .long r8.2), (0, .ref (ad o0)), (1, .int a1), (2, .int a2)]) hx hb dX7_moved_26 rfl hl (by decide) rfl (fun ls hl => ?_)
      refine lv_aload_n hx hb dX7_moved_27 rfl (lv_at hl 1 rfl) ?_
      replace h := bd_some h
      obtain ⟨q9, eq9, h⟩ := h
      refine r_getR hx hb hts iw7 hown hK hw o0 17 g4 (by decide) rfl (by decide) rfl (hq _ qw905) (fun _ h9 => h9) dX7_moved_28 eq9 ?_
      refine lv_iload_n hx hb dX7_moved_31 rfl (lv_at hl 2 rfl) ?_
      replace h := gd_some h
      obtain ⟨g10, h⟩ := h
      refine r_lald hx hb hK hw q9 g10 dX7_moved_32 ?_
      refine lv_lload_n hx hb dX7_moved_33 rfl (lv_at hl 0 rfl) ?_
      refine lv_iload_n hx hb dX7_moved_34 rfl (lv_at hl 3 rfl) ?_
      replace h := bd_some h
      obtain ⟨r11, er11, h⟩ := h
      refine r_callSl (As := [.long (r8.1.2.1 q9 a1.toNatClampNeg), .long r8.2, .int a2]) (rest := []) hF (c_X7_told l D cy ad adK adV r8.1 (r8.1.2.1 q9 a1.toNatClampNeg) r8.2 a2 r11 er11) (gW_goodS hcm qw1222 qw1220 qw1221 qw67) hdX7_told ⟨Nat.le_of_ble_eq_true rfl, Nat.le_of_ble_eq_true rfl⟩ rfl rfl hZ hK hw rfl hl.1 rfl (Nat.le_of_ble_eq_true rfl) ⟨Nat.zero_le _, Nat.zero_le _⟩ dX7_moved_35 (fun H locs hw => ?_)
      exact r_lret hx hb hr hlocks hZ hK hw h dX7_moved_38
    · replace h := if_some_t c7 h
      exact hb15 _ _ h _ _ _ hw (lv_sub hl [0] rfl)
theorem dX7_meanOf_0 : decode cX7_meanOf 0 = .ok (.aload_n 0, 1) := by decide +kernel
theorem dX7_meanOf_1 : decode cX7_meanOf 1 = .ok (.invokevirtual 266, 3) := by decide +kernel
theorem dX7_meanOf_4 : decode cX7_meanOf 4 = .ok (.lstore_n 2, 1) := by decide +kernel
theorem dX7_meanOf_5 : decode cX7_meanOf 5 = .ok (.aload_n 0, 1) := by decide +kernel
theorem dX7_meanOf_6 : decode cX7_meanOf 6 = .ok (.getfield 39, 3) := by decide +kernel
theorem dX7_meanOf_9 : decode cX7_meanOf 9 = .ok (.iload_n 1, 1) := by decide +kernel
theorem dX7_meanOf_10 : decode cX7_meanOf 10 = .ok (.laload, 1) := by decide +kernel
theorem dX7_meanOf_11 : decode cX7_meanOf 11 = .ok (.lreturn, 1) := by decide +kernel
set_option maxHeartbeats 4000000 in
set_option maxRecDepth 100000 in
theorem c_X7_meanOf (l : Launch) (D : va_G) (cy : Nat → ClassId) (ad adK adV : Nat → Nat) (M : Mm) (o0 : Nat) (a1 : Int32) (res : Mm × Int64) (h : f_X7_meanOf M o0 a1 = some res) : Met l yX7_meanOf (wU yX7_meanOf cX7_meanOf 4 (some .long)) rmX7_meanOf (va_Pc [.ref (ad o0), .int a1] (Pre D cy shM ad nM adK adV M)) (va_Ql (fun r (M2 : Mm) => r = res.2 ∧ M2 = res.1) (Pre D cy shM ad nM adK adV) (Aw ad nM)) 0 0 (Aw ad nM) := by
  refine Met.ofW (cc := cX7_meanOf) (maxL := 4) (ret := (some .long)) (by decide) rfl ?_
  intro p e s m args below meth c s₁ B hml hv
  obtain ⟨hargs, hPre⟩ := hv
  have hx := B.exec
  have hb := B.bytes
  have hr := B.returns
  have hts := atoms_spec (ws := wU yX7_meanOf cX7_meanOf 4 (some .long)) B.pre
  have hq : ∀ w ∈ gW, w.before args s = true := fun w hw => hts w (List.mem_cons_of_mem _ hw)
  have hcm : ∀ w ∈ gW, w ∈ wU yX7_meanOf cX7_meanOf 4 (some .long) := fun w hw => List.mem_cons_of_mem _ hw
  have hown : s.vm.findClass RX7 = some m.cls := findClass_of_methodNamed B.named
  have hlocks := B.notSynchronized
  have hF : CallFix p m c cX7_meanOf 4 s args (wU yX7_meanOf cX7_meanOf 4 (some .long)) RX7 := ⟨hx, hb, hml, hown, hts⟩
  have hK := hPre.2.1
  have hZ := hPre.2.2.2
  have hw : Wd D cy shM ad nM (Aw ad nM) s.heap M s.heap [] := ⟨hPre.1, hPre.2.2.1, va_S.rf⟩
  have iw7 : ∀ w ∈ u_ws RX7 TX7 30, w ∈ wU yX7_meanOf cX7_meanOf 4 (some .long) := fun w hw => List.mem_cons_of_mem _ (iX7 w hw)
  rw [show entryFrame m args 4 = entryFrame m ([.ref (ad o0), .int a1] : List Value).toArray 4 from by rw [hargs]]
  have hl := lv_entry ([.ref (ad o0), .int a1]) (n := 4) (Nat.le_of_ble_eq_true rfl)
  rw [lg_entry_eq]
  generalize (lg_sl ([.ref (ad o0), .int a1]) ++ List.replicate (4 - (lg_sl ([.ref (ad o0), .int a1])).length) Slot.unset).toArray = ls at hl ⊢
  have hl : lv_has ls 4 [(0, .ref (ad o0)), (1, .int a1)] := hl
  unfold f_X7_meanOf at h
  refine lv_aload_n hx hb dX7_meanOf_0 rfl (lv_at hl 0 rfl) ?_
  replace h := gd_some h
  obtain ⟨g2, h⟩ := h
  replace h := bd_some h
  obtain ⟨r1, er1, h⟩ := h
  refine r_callVl (As := []) (rest := []) hF (c_X7_findWays l D cy ad adK adV M o0 r1 er1) (gW_goodV hcm qw1210 qw1207 qw1209 qw52 qw67) hdX7_findWays rfl ⟨Nat.le_of_ble_eq_true rfl, Nat.le_of_ble_eq_true rfl⟩ rfl rfl hZ hK hw g2 (by decide) rfl rfl hl.1 rfl (Nat.le_of_ble_eq_true rfl) ⟨Nat.zero_le _, Nat.zero_le _⟩ dX7_meanOf_1 (fun H locs hw => ?_)
  refine lv_lstore_n (lv' := [(2, .long r1.2), (0, .ref (ad o0)), (1, .int a1)]) hx hb dX7_meanOf_4 rfl hl (by decide) rfl (fun ls hl => ?_)
  refine lv_aload_n hx hb dX7_meanOf_5 rfl (lv_at hl 1 rfl) ?_
  replace h := bd_some h
  obtain ⟨q3, eq3, h⟩ := h
  refine r_getR hx hb hts iw7 hown hK hw o0 19 g2 (by decide) rfl (by decide) rfl (hq _ qw907) (fun _ h9 => h9) dX7_meanOf_6 eq3 ?_
  refine lv_iload_n hx hb dX7_meanOf_9 rfl (lv_at hl 2 rfl) ?_
  replace h := gd_some h
  obtain ⟨g4, h⟩ := h
  refine r_lald hx hb hK hw q3 g4 dX7_meanOf_10 ?_
  exact r_lret hx hb hr hlocks hZ hK hw h dX7_meanOf_11

theorem dX7_goesOn_0 : decode cX7_goesOn 0 = .ok (.aload_n 0, 1) := by decide +kernel
theorem dX7_goesOn_1 : decode cX7_goesOn 1 = .ok (.invokevirtual 227, 3) := by decide +kernel
theorem dX7_goesOn_4 : decode cX7_goesOn 4 = .ok (.ifCond .eq 9, 3) := by decide +kernel
theorem dX7_goesOn_7 : decode cX7_goesOn 7 = .ok (.aload_n 0, 1) := by decide +kernel
theorem dX7_goesOn_8 : decode cX7_goesOn 8 = .ok (.lload_n 1, 1) := by decide +kernel
theorem dX7_goesOn_9 : decode cX7_goesOn 9 = .ok (.invokevirtual 254, 3) := by decide +kernel
theorem dX7_goesOn_12 : decode cX7_goesOn 12 = .ok (.return_, 1) := by decide +kernel
theorem dX7_goesOn_13 : decode cX7_goesOn 13 = .ok (.aload_n 0, 1) := by decide +kernel
theorem dX7_goesOn_14 : decode cX7_goesOn 14 = .ok (.getfield 7, 3) := by decide +kernel
theorem dX7_goesOn_17 : decode cX7_goesOn 17 = .ok (.iconst 2, 1) := by decide +kernel
theorem dX7_goesOn_18 : decode cX7_goesOn 18 = .ok (.iaload, 1) := by decide +kernel
theorem dX7_goesOn_19 : decode cX7_goesOn 19 = .ok (.istore_n 3, 1) := by decide +kernel
theorem dX7_goesOn_20 : decode cX7_goesOn 20 = .ok (.aload_n 0, 1) := by decide +kernel
theorem dX7_goesOn_21 : decode cX7_goesOn 21 = .ok (.aload_n 0, 1) := by decide +kernel
theorem dX7_goesOn_22 : decode cX7_goesOn 22 = .ok (.iload_n 3, 1) := by decide +kernel
theorem dX7_goesOn_23 : decode cX7_goesOn 23 = .ok (.iconst 0, 1) := by decide +kernel
theorem dX7_goesOn_24 : decode cX7_goesOn 24 = .ok (.invokevirtual 71, 3) := by decide +kernel
theorem dX7_goesOn_27 : decode cX7_goesOn 27 = .ok (.iload_n 3, 1) := by decide +kernel
theorem dX7_goesOn_28 : decode cX7_goesOn 28 = .ok (.invokevirtual 108, 3) := by decide +kernel
theorem dX7_goesOn_31 : decode cX7_goesOn 31 = .ok (.istore 4, 2) := by decide +kernel
theorem dX7_goesOn_33 : decode cX7_goesOn 33 = .ok (.aload_n 0, 1) := by decide +kernel
theorem dX7_goesOn_34 : decode cX7_goesOn 34 = .ok (.aload_n 0, 1) := by decide +kernel
theorem dX7_goesOn_35 : decode cX7_goesOn 35 = .ok (.iload_n 3, 1) := by decide +kernel
theorem dX7_goesOn_36 : decode cX7_goesOn 36 = .ok (.iconst 1, 1) := by decide +kernel
theorem dX7_goesOn_37 : decode cX7_goesOn 37 = .ok (.invokevirtual 71, 3) := by decide +kernel
theorem dX7_goesOn_40 : decode cX7_goesOn 40 = .ok (.iload_n 3, 1) := by decide +kernel
theorem dX7_goesOn_41 : decode cX7_goesOn 41 = .ok (.invokevirtual 108, 3) := by decide +kernel
theorem dX7_goesOn_44 : decode cX7_goesOn 44 = .ok (.istore 5, 2) := by decide +kernel
theorem dX7_goesOn_46 : decode cX7_goesOn 46 = .ok (.aload_n 0, 1) := by decide +kernel
theorem dX7_goesOn_47 : decode cX7_goesOn 47 = .ok (.iload_n 3, 1) := by decide +kernel
theorem dX7_goesOn_48 : decode cX7_goesOn 48 = .ok (.iload 4, 2) := by decide +kernel
theorem dX7_goesOn_50 : decode cX7_goesOn 50 = .ok (.iload 5, 2) := by decide +kernel
theorem dX7_goesOn_52 : decode cX7_goesOn 52 = .ok (.invokevirtual 230, 3) := by decide +kernel
theorem dX7_goesOn_55 : decode cX7_goesOn 55 = .ok (.istore 6, 2) := by decide +kernel
theorem dX7_goesOn_57 : decode cX7_goesOn 57 = .ok (.aload_n 0, 1) := by decide +kernel
theorem dX7_goesOn_58 : decode cX7_goesOn 58 = .ok (.aload_n 0, 1) := by decide +kernel
theorem dX7_goesOn_59 : decode cX7_goesOn 59 = .ok (.iload_n 3, 1) := by decide +kernel
theorem dX7_goesOn_60 : decode cX7_goesOn 60 = .ok (.iconst 0, 1) := by decide +kernel
theorem dX7_goesOn_61 : decode cX7_goesOn 61 = .ok (.invokevirtual 71, 3) := by decide +kernel
theorem dX7_goesOn_64 : decode cX7_goesOn 64 = .ok (.iload 4, 2) := by decide +kernel
theorem dX7_goesOn_66 : decode cX7_goesOn 66 = .ok (.iload 5, 2) := by decide +kernel
theorem dX7_goesOn_68 : decode cX7_goesOn 68 = .ok (.invokevirtual 111, 3) := by decide +kernel
theorem dX7_goesOn_71 : decode cX7_goesOn 71 = .ok (.aload_n 0, 1) := by decide +kernel
theorem dX7_goesOn_72 : decode cX7_goesOn 72 = .ok (.lload_n 1, 1) := by decide +kernel
theorem dX7_goesOn_73 : decode cX7_goesOn 73 = .ok (.iload 6, 2) := by decide +kernel
theorem dX7_goesOn_75 : decode cX7_goesOn 75 = .ok (.i2l, 1) := by decide +kernel
theorem dX7_goesOn_76 : decode cX7_goesOn 76 = .ok (.lmul, 1) := by decide +kernel
theorem dX7_goesOn_77 : decode cX7_goesOn 77 = .ok (.invokevirtual 258, 3) := by decide +kernel
theorem dX7_goesOn_80 : decode cX7_goesOn 80 = .ok (.aload_n 0, 1) := by decide +kernel
theorem dX7_goesOn_81 : decode cX7_goesOn 81 = .ok (.getfield 7, 3) := by decide +kernel
theorem dX7_goesOn_84 : decode cX7_goesOn 84 = .ok (.iconst 2, 1) := by decide +kernel
theorem dX7_goesOn_85 : decode cX7_goesOn 85 = .ok (.dup2, 1) := by decide +kernel
theorem dX7_goesOn_86 : decode cX7_goesOn 86 = .ok (.iaload, 1) := by decide +kernel
theorem dX7_goesOn_87 : decode cX7_goesOn 87 = .ok (.iconst 1, 1) := by decide +kernel
theorem dX7_goesOn_88 : decode cX7_goesOn 88 = .ok (.isub, 1) := by decide +kernel
theorem dX7_goesOn_89 : decode cX7_goesOn 89 = .ok (.iastore, 1) := by decide +kernel
theorem dX7_goesOn_90 : decode cX7_goesOn 90 = .ok (.aload_n 0, 1) := by decide +kernel
theorem dX7_goesOn_91 : decode cX7_goesOn 91 = .ok (.aload_n 0, 1) := by decide +kernel
theorem dX7_goesOn_92 : decode cX7_goesOn 92 = .ok (.iload_n 3, 1) := by decide +kernel
theorem dX7_goesOn_93 : decode cX7_goesOn 93 = .ok (.iconst 1, 1) := by decide +kernel
theorem dX7_goesOn_94 : decode cX7_goesOn 94 = .ok (.invokevirtual 71, 3) := by decide +kernel
theorem dX7_goesOn_97 : decode cX7_goesOn 97 = .ok (.iload 4, 2) := by decide +kernel
theorem dX7_goesOn_99 : decode cX7_goesOn 99 = .ok (.iload 5, 2) := by decide +kernel
theorem dX7_goesOn_101 : decode cX7_goesOn 101 = .ok (.invokevirtual 111, 3) := by decide +kernel
theorem dX7_goesOn_104 : decode cX7_goesOn 104 = .ok (.aload_n 0, 1) := by decide +kernel
theorem dX7_goesOn_105 : decode cX7_goesOn 105 = .ok (.lload_n 1, 1) := by decide +kernel
theorem dX7_goesOn_106 : decode cX7_goesOn 106 = .ok (.bipush 10, 2) := by decide +kernel
theorem dX7_goesOn_108 : decode cX7_goesOn 108 = .ok (.iload 6, 2) := by decide +kernel
theorem dX7_goesOn_110 : decode cX7_goesOn 110 = .ok (.isub, 1) := by decide +kernel
theorem dX7_goesOn_111 : decode cX7_goesOn 111 = .ok (.i2l, 1) := by decide +kernel
theorem dX7_goesOn_112 : decode cX7_goesOn 112 = .ok (.lmul, 1) := by decide +kernel
theorem dX7_goesOn_113 : decode cX7_goesOn 113 = .ok (.invokevirtual 258, 3) := by decide +kernel
theorem dX7_goesOn_116 : decode cX7_goesOn 116 = .ok (.aload_n 0, 1) := by decide +kernel
theorem dX7_goesOn_117 : decode cX7_goesOn 117 = .ok (.getfield 7, 3) := by decide +kernel
theorem dX7_goesOn_120 : decode cX7_goesOn 120 = .ok (.iconst 2, 1) := by decide +kernel
theorem dX7_goesOn_121 : decode cX7_goesOn 121 = .ok (.dup2, 1) := by decide +kernel
theorem dX7_goesOn_122 : decode cX7_goesOn 122 = .ok (.iaload, 1) := by decide +kernel
theorem dX7_goesOn_123 : decode cX7_goesOn 123 = .ok (.iconst 1, 1) := by decide +kernel
theorem dX7_goesOn_124 : decode cX7_goesOn 124 = .ok (.isub, 1) := by decide +kernel
theorem dX7_goesOn_125 : decode cX7_goesOn 125 = .ok (.iastore, 1) := by decide +kernel
theorem dX7_goesOn_126 : decode cX7_goesOn 126 = .ok (.return_, 1) := by decide +kernel
set_option maxHeartbeats 4000000 in
set_option maxRecDepth 100000 in
theorem c_X7_goesOn (l : Launch) (D : va_G) (cy : Nat → ClassId) (ad adK adV : Nat → Nat) : ∀ (nd : Nat) (M : Mm) (o0 : Nat) (a1 : Int64) (res : Mm × Unit) (h : f_X7_goesOn nd M o0 a1 = some res), Met l yX7_goesOn (wU yX7_goesOn cX7_goesOn 7 none) (rmX7_goesOn nd) (va_Pc [.ref (ad o0), .long a1] (Pre D cy shM ad nM adK adV M)) (va_Qv (fun (M2 : Mm) => M2 = res.1) (Pre D cy shM ad nM adK adV) (Aw ad nM)) 0 0 (Aw ad nM) := by
  intro nd
  induction nd with
  | zero => intro M o0 a1 res h; simp [f_X7_goesOn] at h
  | succ nd hfr =>
  intro M o0 a1 res h
  refine Met.ofW (cc := cX7_goesOn) (maxL := 7) (ret := none) (by decide) rfl ?_
  intro p e s m args below meth c s₁ B hml hv
  obtain ⟨hargs, hPre⟩ := hv
  have hx := B.exec
  have hb := B.bytes
  have hr := B.returns
  have hts := atoms_spec (ws := wU yX7_goesOn cX7_goesOn 7 none) B.pre
  have hq : ∀ w ∈ gW, w.before args s = true := fun w hw => hts w (List.mem_cons_of_mem _ hw)
  have hcm : ∀ w ∈ gW, w ∈ wU yX7_goesOn cX7_goesOn 7 none := fun w hw => List.mem_cons_of_mem _ hw
  have hown : s.vm.findClass RX7 = some m.cls := findClass_of_methodNamed B.named
  have hlocks := B.notSynchronized
  have hF : CallFix p m c cX7_goesOn 7 s args (wU yX7_goesOn cX7_goesOn 7 none) RX7 := ⟨hx, hb, hml, hown, hts⟩
  have hK := hPre.2.1
  have hZ := hPre.2.2.2
  have hw : Wd D cy shM ad nM (Aw ad nM) s.heap M s.heap [] := ⟨hPre.1, hPre.2.2.1, va_S.rf⟩
  have iw7 : ∀ w ∈ u_ws RX7 TX7 30, w ∈ wU yX7_goesOn cX7_goesOn 7 none := fun w hw => List.mem_cons_of_mem _ (iX7 w hw)
  rw [show entryFrame m args 7 = entryFrame m ([.ref (ad o0), .long a1] : List Value).toArray 7 from by rw [hargs]]
  have hl := lv_entry ([.ref (ad o0), .long a1]) (n := 7) (Nat.le_of_ble_eq_true rfl)
  rw [lg_entry_eq]
  generalize (lg_sl ([.ref (ad o0), .long a1]) ++ List.replicate (7 - (lg_sl ([.ref (ad o0), .long a1])).length) Slot.unset).toArray = ls at hl ⊢
  have hl : lv_has ls 7 [(0, .ref (ad o0)), (1, .long a1)] := hl
  unfold f_X7_goesOn at h
  refine lv_aload_n hx hb dX7_goesOn_0 rfl (lv_at hl 0 rfl) ?_
  replace h := gd_some h
  obtain ⟨g2, h⟩ := h
  replace h := bd_some h
  obtain ⟨r1, er1, h⟩ := h
  refine r_callVi (As := []) (rest := []) hF (c_X7_isOver l D cy ad adK adV M o0 r1 er1) (gW_goodV hcm qw1140 qw1137 qw1139 qw42 qw68) hdX7_isOver rfl ⟨by simp only [headSpec, rmX7_isOver, rmX7_goesOn]; omega, by simp only [headSpec, rmX7_isOver, rmX7_goesOn]; omega⟩ rfl rfl hZ hK hw g2 (by decide) rfl rfl hl.1 rfl (Nat.le_of_ble_eq_true rfl) ⟨Nat.zero_le _, Nat.zero_le _⟩ dX7_goesOn_1 (fun H locs hw => ?_)
  refine lv_if_eq (tgt := 13) hx hb dX7_goesOn_4 (by decide) (fun c3 => ?_) (fun c3 => ?_)
  · replace h := if_some_t c3 h
    refine lv_aload_n hx hb dX7_goesOn_13 rfl (lv_at hl 0 rfl) ?_
    replace h := bd_some h
    obtain ⟨q4, eq4, h⟩ := h
    refine r_getR hx hb hts iw7 hown hK hw o0 0 g2 (by decide) rfl (by decide) rfl (hq _ qw890) (fun _ h9 => h9) dX7_goesOn_14 eq4 ?_
    refine lv_iconst (v := (2 : Int32)) hx hb dX7_goesOn_17 (by decide) ?_
    replace h := gd_some h
    obtain ⟨g5, h⟩ := h
    refine r_iald hx hb hK hw q4 g5 dX7_goesOn_18 ?_
    refine lv_istore_n (lv' := [(3, .int (r1.1.1 q4 (2 : Int32).toNatClampNeg)), (0, .ref (ad o0)), (1, .long a1)]) hx hb dX7_goesOn_19 rfl hl (by decide) rfl (fun ls hl => ?_)
    refine lv_aload_n hx hb dX7_goesOn_20 rfl (lv_at hl 1 rfl) ?_
    refine lv_aload_n hx hb dX7_goesOn_21 rfl (lv_at hl 1 rfl) ?_
    refine lv_iload_n hx hb dX7_goesOn_22 rfl (lv_at hl 0 rfl) ?_
    refine lv_iconst (v := (0 : Int32)) hx hb dX7_goesOn_23 (by decide) ?_
    replace h := bd_some h
    obtain ⟨r6, er6, h⟩ := h
    refine r_callVi (As := [.int (r1.1.1 q4 (2 : Int32).toNatClampNeg), .int (0 : Int32)]) (rest := [.ref (ad o0)]) hF (c_X7_of l D cy ad adK adV r1.1 o0 (r1.1.1 q4 (2 : Int32).toNatClampNeg) (0 : Int32) r6 er6) (gW_goodV hcm qw1012 qw1009 qw1011 qw23 qw68) hdX7_of rfl ⟨by simp only [headSpec, rmX7_of, rmX7_goesOn]; omega, by simp only [headSpec, rmX7_of, rmX7_goesOn]; omega⟩ rfl rfl hZ hK hw g2 (by decide) rfl rfl hl.1 rfl (Nat.le_of_ble_eq_true rfl) ⟨Nat.zero_le _, Nat.zero_le _⟩ dX7_goesOn_24 (fun H locs hw => ?_)
    refine lv_iload_n hx hb dX7_goesOn_27 rfl (lv_at hl 0 rfl) ?_
    replace h := bd_some h
    obtain ⟨r7, er7, h⟩ := h
    refine r_callVi (As := [.int r6.2, .int (r1.1.1 q4 (2 : Int32).toNatClampNeg)]) (rest := []) hF (c_X7_effort l D cy ad adK adV r6.1 o0 r6.2 (r1.1.1 q4 (2 : Int32).toNatClampNeg) r7 er7) (gW_goodV hcm qw1144 qw1141 qw1143 qw43 qw68) hdX7_effort rfl ⟨by simp only [headSpec, rmX7_effort, rmX7_goesOn]; omega, by simp only [headSpec, rmX7_effort, rmX7_goesOn]; omega⟩ rfl rfl hZ hK hw g2 (by decide) rfl rfl hl.1 rfl (Nat.le_of_ble_eq_true rfl) ⟨Nat.zero_le _, Nat.zero_le _⟩ dX7_goesOn_28 (fun H locs hw => ?_)
    refine lv_istore (lv' := [(4, .int r7.2), (3, .int (r1.1.1 q4 (2 : Int32).toNatClampNeg)), (0, .ref (ad o0)), (1, .long a1)]) hx hb dX7_goesOn_31 hl (by decide) rfl (fun ls hl => ?_)
    refine lv_aload_n hx hb dX7_goesOn_33 rfl (lv_at hl 2 rfl) ?_
    refine lv_aload_n hx hb dX7_goesOn_34 rfl (lv_at hl 2 rfl) ?_
    refine lv_iload_n hx hb dX7_goesOn_35 rfl (lv_at hl 1 rfl) ?_
    refine lv_iconst (v := (1 : Int32)) hx hb dX7_goesOn_36 (by decide) ?_
    replace h := bd_some h
    obtain ⟨r8, er8, h⟩ := h
    refine r_callVi (As := [.int (r1.1.1 q4 (2 : Int32).toNatClampNeg), .int (1 : Int32)]) (rest := [.ref (ad o0)]) hF (c_X7_of l D cy ad adK adV r7.1 o0 (r1.1.1 q4 (2 : Int32).toNatClampNeg) (1 : Int32) r8 er8) (gW_goodV hcm qw1012 qw1009 qw1011 qw23 qw68) hdX7_of rfl ⟨by simp only [headSpec, rmX7_of, rmX7_goesOn]; omega, by simp only [headSpec, rmX7_of, rmX7_goesOn]; omega⟩ rfl rfl hZ hK hw g2 (by decide) rfl rfl hl.1 rfl (Nat.le_of_ble_eq_true rfl) ⟨Nat.zero_le _, Nat.zero_le _⟩ dX7_goesOn_37 (fun H locs hw => ?_)
    refine lv_iload_n hx hb dX7_goesOn_40 rfl (lv_at hl 1 rfl) ?_
    replace h := bd_some h
    obtain ⟨r9, er9, h⟩ := h
    refine r_callVi (As := [.int r8.2, .int (r1.1.1 q4 (2 : Int32).toNatClampNeg)]) (rest := []) hF (c_X7_effort l D cy ad adK adV r8.1 o0 r8.2 (r1.1.1 q4 (2 : Int32).toNatClampNeg) r9 er9) (gW_goodV hcm qw1144 qw1141 qw1143 qw43 qw68) hdX7_effort rfl ⟨by simp only [headSpec, rmX7_effort, rmX7_goesOn]; omega, by simp only [headSpec, rmX7_effort, rmX7_goesOn]; omega⟩ rfl rfl hZ hK hw g2 (by decide) rfl rfl hl.1 rfl (Nat.le_of_ble_eq_true rfl) ⟨Nat.zero_le _, Nat.zero_le _⟩ dX7_goesOn_41 (fun H locs hw => ?_)
    refine lv_istore (lv' := [(5, .int r9.2), (4, .int r7.2), (3, .int (r1.1.1 q4 (2 : Int32).toNatClampNeg)), (0, .ref (ad o0)), (1, .long a1)]) hx hb dX7_goesOn_44 hl (by decide) rfl (fun ls hl => ?_)
    refine lv_aload_n hx hb dX7_goesOn_46 rfl (lv_at hl 3 rfl) ?_
    refine lv_iload_n hx hb dX7_goesOn_47 rfl (lv_at hl 2 rfl) ?_
    refine lv_iload hx hb dX7_goesOn_48 (lv_at hl 1 rfl) ?_
    refine lv_iload hx hb dX7_goesOn_50 (lv_at hl 0 rfl) ?_
    replace h := bd_some h
    obtain ⟨r10, er10, h⟩ := h
    refine r_callVi (As := [.int (r1.1.1 q4 (2 : Int32).toNatClampNeg), .int r7.2, .int r9.2]) (rest := []) hF (c_X7_chance l D cy ad adK adV r9.1 o0 (r1.1.1 q4 (2 : Int32).toNatClampNeg) r7.2 r9.2 r10 er10) (gW_goodV hcm qw1152 qw1149 qw1151 qw45 qw68) hdX7_chance rfl ⟨by simp only [headSpec, rmX7_chance, rmX7_goesOn]; omega, by simp only [headSpec, rmX7_chance, rmX7_goesOn]; omega⟩ rfl rfl hZ hK hw g2 (by decide) rfl rfl hl.1 rfl (Nat.le_of_ble_eq_true rfl) ⟨Nat.zero_le _, Nat.zero_le _⟩ dX7_goesOn_52 (fun H locs hw => ?_)
    refine lv_istore (lv' := [(6, .int r10.2), (5, .int r9.2), (4, .int r7.2), (3, .int (r1.1.1 q4 (2 : Int32).toNatClampNeg)), (0, .ref (ad o0)), (1, .long a1)]) hx hb dX7_goesOn_55 hl (by decide) rfl (fun ls hl => ?_)
    refine lv_aload_n hx hb dX7_goesOn_57 rfl (lv_at hl 4 rfl) ?_
    refine lv_aload_n hx hb dX7_goesOn_58 rfl (lv_at hl 4 rfl) ?_
    refine lv_iload_n hx hb dX7_goesOn_59 rfl (lv_at hl 3 rfl) ?_
    refine lv_iconst (v := (0 : Int32)) hx hb dX7_goesOn_60 (by decide) ?_
    replace h := bd_some h
    obtain ⟨r11, er11, h⟩ := h
    refine r_callVi (As := [.int (r1.1.1 q4 (2 : Int32).toNatClampNeg), .int (0 : Int32)]) (rest := [.ref (ad o0)]) hF (c_X7_of l D cy ad adK adV r10.1 o0 (r1.1.1 q4 (2 : Int32).toNatClampNeg) (0 : Int32) r11 er11) (gW_goodV hcm qw1012 qw1009 qw1011 qw23 qw68) hdX7_of rfl ⟨by simp only [headSpec, rmX7_of, rmX7_goesOn]; omega, by simp only [headSpec, rmX7_of, rmX7_goesOn]; omega⟩ rfl rfl hZ hK hw g2 (by decide) rfl rfl hl.1 rfl (Nat.le_of_ble_eq_true rfl) ⟨Nat.zero_le _, Nat.zero_le _⟩ dX7_goesOn_61 (fun H locs hw => ?_)
    refine lv_iload hx hb dX7_goesOn_64 (lv_at hl 2 rfl) ?_
    refine lv_iload hx hb dX7_goesOn_66 (lv_at hl 1 rfl) ?_
    replace h := bd_some h
    obtain ⟨r12, er12, h⟩ := h
    refine r_callVv (As := [.int r11.2, .int r7.2, .int r9.2]) (rest := []) hF (c_X7_wins l D cy ad adK adV r11.1 o0 r11.2 r7.2 r9.2 r12 er12) (gW_goodV hcm qw1168 qw1165 qw1167 qw48 qw68) hdX7_wins rfl ⟨by simp only [headSpec, rmX7_wins, rmX7_goesOn]; omega, by simp only [headSpec, rmX7_wins, rmX7_goesOn]; omega⟩ rfl rfl hZ hK hw g2 (by decide) rfl rfl hl.1 rfl (Nat.le_of_ble_eq_true rfl) ⟨Nat.zero_le _, Nat.zero_le _⟩ dX7_goesOn_68 (fun H locs hw => ?_)
    refine lv_aload_n hx hb dX7_goesOn_71 rfl (lv_at hl 4 rfl) ?_
    refine lv_lload_n hx hb dX7_goesOn_72 rfl (lv_at hl 5 rfl) ?_
    refine lv_iload hx hb dX7_goesOn_73 (lv_at hl 0 rfl) ?_
    refine lv_i2l (v := r10.2.toInt64) hx hb dX7_goesOn_75 rfl ?_
    refine lv_lmul hx hb dX7_goesOn_76 ?_
    replace h := bd_some h
    obtain ⟨r13, er13, h⟩ := h
    refine r_callVv (As := [.long (a1 * r10.2.toInt64)]) (rest := []) hF (hfr _ _ _ _ er13) (gW_goodV hcm qw1216 qw1213 qw1215 qw54 qw68) hdX7_goesOn rfl ⟨by simp only [headSpec, rmX7_goesOn]; omega, by simp only [headSpec, rmX7_goesOn]; omega⟩ rfl rfl hZ hK hw g2 (by decide) rfl rfl hl.1 rfl (Nat.le_of_ble_eq_true rfl) ⟨Nat.zero_le _, Nat.zero_le _⟩ dX7_goesOn_77 (fun H locs hw => ?_)
    refine lv_aload_n hx hb dX7_goesOn_80 rfl (lv_at hl 4 rfl) ?_
    replace h := bd_some h
    obtain ⟨q14, eq14, h⟩ := h
    refine r_getR hx hb hts iw7 hown hK hw o0 0 g2 (by decide) rfl (by decide) rfl (hq _ qw890) (fun _ h9 => h9) dX7_goesOn_81 eq14 ?_
    refine lv_iconst (v := (2 : Int32)) hx hb dX7_goesOn_84 (by decide) ?_
    refine lv_dup2_11 hx hb dX7_goesOn_85 rfl rfl ?_
    replace h := gd_some h
    obtain ⟨g15, h⟩ := h
    refine r_iald hx hb hK hw q14 g15 dX7_goesOn_86 ?_
    refine lv_iconst (v := (1 : Int32)) hx hb dX7_goesOn_87 (by decide) ?_
    refine lv_isub hx hb dX7_goesOn_88 ?_
    replace h := gd_some h
    obtain ⟨g16, h⟩ := h
    refine r_iast hx hb hK hw q14 g16 dX7_goesOn_89 (fun H locs hw => ?_)
    replace h := lt_some h
    obtain ⟨M17, eM17, h⟩ := h
    rw [← eM17] at hw
    refine lv_aload_n hx hb dX7_goesOn_90 rfl (lv_at hl 4 rfl) ?_
    refine lv_aload_n hx hb dX7_goesOn_91 rfl (lv_at hl 4 rfl) ?_
    refine lv_iload_n hx hb dX7_goesOn_92 rfl (lv_at hl 3 rfl) ?_
    refine lv_iconst (v := (1 : Int32)) hx hb dX7_goesOn_93 (by decide) ?_
    replace h := bd_some h
    obtain ⟨r18, er18, h⟩ := h
    refine r_callVi (As := [.int (r1.1.1 q4 (2 : Int32).toNatClampNeg), .int (1 : Int32)]) (rest := [.ref (ad o0)]) hF (c_X7_of l D cy ad adK adV M17 o0 (r1.1.1 q4 (2 : Int32).toNatClampNeg) (1 : Int32) r18 er18) (gW_goodV hcm qw1012 qw1009 qw1011 qw23 qw68) hdX7_of rfl ⟨by simp only [headSpec, rmX7_of, rmX7_goesOn]; omega, by simp only [headSpec, rmX7_of, rmX7_goesOn]; omega⟩ rfl rfl hZ hK hw g2 (by decide) rfl rfl hl.1 rfl (Nat.le_of_ble_eq_true rfl) ⟨Nat.zero_le _, Nat.zero_le _⟩ dX7_goesOn_94 (fun H locs hw => ?_)
    refine lv_iload hx hb dX7_goesOn_97 (lv_at hl 2 rfl) ?_
    refine lv_iload hx hb dX7_goesOn_99 (lv_at hl 1 rfl) ?_
    replace h := bd_some h
    obtain ⟨r19, er19, h⟩ := h
    refine r_callVv (As := [.int r18.2, .int r7.2, .int r9.2]) (rest := []) hF (c_X7_wins l D cy ad adK adV r18.1 o0 r18.2 r7.2 r9.2 r19 er19) (gW_goodV hcm qw1168 qw1165 qw1167 qw48 qw68) hdX7_wins rfl ⟨by simp only [headSpec, rmX7_wins, rmX7_goesOn]; omega, by simp only [headSpec, rmX7_wins, rmX7_goesOn]; omega⟩ rfl rfl hZ hK hw g2 (by decide) rfl rfl hl.1 rfl (Nat.le_of_ble_eq_true rfl) ⟨Nat.zero_le _, Nat.zero_le _⟩ dX7_goesOn_101 (fun H locs hw => ?_)
    refine lv_aload_n hx hb dX7_goesOn_104 rfl (lv_at hl 4 rfl) ?_
    refine lv_lload_n hx hb dX7_goesOn_105 rfl (lv_at hl 5 rfl) ?_
    refine lv_bipush (v := (10 : Int32)) hx hb dX7_goesOn_106 (by decide) ?_
    refine lv_iload hx hb dX7_goesOn_108 (lv_at hl 0 rfl) ?_
    refine lv_isub hx hb dX7_goesOn_110 ?_
    refine lv_i2l (v := ((10 : Int32) - r10.2).toInt64) hx hb dX7_goesOn_111 rfl ?_
    refine lv_lmul hx hb dX7_goesOn_112 ?_
    replace h := bd_some h
    obtain ⟨r20, er20, h⟩ := h
    refine r_callVv (As := [.long (a1 * (((10 : Int32) - r10.2).toInt64))]) (rest := []) hF (hfr _ _ _ _ er20) (gW_goodV hcm qw1216 qw1213 qw1215 qw54 qw68) hdX7_goesOn rfl ⟨by simp only [headSpec, rmX7_goesOn]; omega, by simp only [headSpec, rmX7_goesOn]; omega⟩ rfl rfl hZ hK hw g2 (by decide) rfl rfl hl.1 rfl (Nat.le_of_ble_eq_true rfl) ⟨Nat.zero_le _, Nat.zero_le _⟩ dX7_goesOn_113 (fun H locs hw => ?_)
    refine lv_aload_n hx hb dX7_goesOn_116 rfl (lv_at hl 4 rfl) ?_
    replace h := bd_some h
    obtain ⟨q21, eq21, h⟩ := h
    refine r_getR hx hb hts iw7 hown hK hw o0 0 g2 (by decide) rfl (by decide) rfl (hq _ qw890) (fun _ h9 => h9) dX7_goesOn_117 eq21 ?_
    refine lv_iconst (v := (2 : Int32)) hx hb dX7_goesOn_120 (by decide) ?_
    refine lv_dup2_11 hx hb dX7_goesOn_121 rfl rfl ?_
    replace h := gd_some h
    obtain ⟨g22, h⟩ := h
    refine r_iald hx hb hK hw q21 g22 dX7_goesOn_122 ?_
    refine lv_iconst (v := (1 : Int32)) hx hb dX7_goesOn_123 (by decide) ?_
    refine lv_isub hx hb dX7_goesOn_124 ?_
    replace h := gd_some h
    obtain ⟨g23, h⟩ := h
    refine r_iast hx hb hK hw q21 g23 dX7_goesOn_125 (fun H locs hw => ?_)
    replace h := lt_some h
    obtain ⟨M24, eM24, h⟩ := h
    rw [← eM24] at hw
    exact r_vret hx hb hr hlocks hZ hK hw h dX7_goesOn_126
  · replace h := if_some_f c3 h
    refine lv_aload_n hx hb dX7_goesOn_7 rfl (lv_at hl 0 rfl) ?_
    refine lv_lload_n hx hb dX7_goesOn_8 rfl (lv_at hl 1 rfl) ?_
    replace h := bd_some h
    obtain ⟨r25, er25, h⟩ := h
    refine r_callVv (As := [.long a1]) (rest := []) hF (c_X7_ends l D cy ad adK adV r1.1 o0 a1 r25 er25) (gW_goodV hcm qw1220 qw1217 qw1219 qw55 qw68) hdX7_ends rfl ⟨by simp only [headSpec, rmX7_ends, rmX7_goesOn]; omega, by simp only [headSpec, rmX7_ends, rmX7_goesOn]; omega⟩ rfl rfl hZ hK hw g2 (by decide) rfl rfl hl.1 rfl (Nat.le_of_ble_eq_true rfl) ⟨Nat.zero_le _, Nat.zero_le _⟩ dX7_goesOn_9 (fun H locs hw => ?_)
    exact r_vret hx hb hr hlocks hZ hK hw h dX7_goesOn_12
theorem dX7_findWays_0 : decode cX7_findWays 0 = .ok (.iconst 0, 1) := by decide +kernel
theorem dX7_findWays_1 : decode cX7_findWays 1 = .ok (.istore_n 1, 1) := by decide +kernel
theorem dX7_findWays_2 : decode cX7_findWays 2 = .ok (.iload_n 1, 1) := by decide +kernel
theorem dX7_findWays_3 : decode cX7_findWays 3 = .ok (.bipush 48, 2) := by decide +kernel
theorem dX7_findWays_5 : decode cX7_findWays 5 = .ok (.if_icmp .ge 16, 3) := by decide +kernel
theorem dX7_findWays_8 : decode cX7_findWays 8 = .ok (.aload_n 0, 1) := by decide +kernel
theorem dX7_findWays_9 : decode cX7_findWays 9 = .ok (.getfield 29, 3) := by decide +kernel
theorem dX7_findWays_12 : decode cX7_findWays 12 = .ok (.iload_n 1, 1) := by decide +kernel
theorem dX7_findWays_13 : decode cX7_findWays 13 = .ok (.lconst 0, 1) := by decide +kernel
theorem dX7_findWays_14 : decode cX7_findWays 14 = .ok (.lastore, 1) := by decide +kernel
theorem dX7_findWays_15 : decode cX7_findWays 15 = .ok (.iinc 1 1, 3) := by decide +kernel
theorem dX7_findWays_18 : decode cX7_findWays 18 = .ok (.goto (-16), 3) := by decide +kernel
theorem dX7_findWays_21 : decode cX7_findWays 21 = .ok (.iconst 0, 1) := by decide +kernel
theorem dX7_findWays_22 : decode cX7_findWays 22 = .ok (.istore_n 1, 1) := by decide +kernel
theorem dX7_findWays_23 : decode cX7_findWays 23 = .ok (.iload_n 1, 1) := by decide +kernel
theorem dX7_findWays_24 : decode cX7_findWays 24 = .ok (.bipush 8, 2) := by decide +kernel
theorem dX7_findWays_26 : decode cX7_findWays 26 = .ok (.if_icmp .ge 16, 3) := by decide +kernel
theorem dX7_findWays_29 : decode cX7_findWays 29 = .ok (.aload_n 0, 1) := by decide +kernel
theorem dX7_findWays_30 : decode cX7_findWays 30 = .ok (.getfield 33, 3) := by decide +kernel
theorem dX7_findWays_33 : decode cX7_findWays 33 = .ok (.iload_n 1, 1) := by decide +kernel
theorem dX7_findWays_34 : decode cX7_findWays 34 = .ok (.lconst 0, 1) := by decide +kernel
theorem dX7_findWays_35 : decode cX7_findWays 35 = .ok (.lastore, 1) := by decide +kernel
theorem dX7_findWays_36 : decode cX7_findWays 36 = .ok (.iinc 1 1, 3) := by decide +kernel
theorem dX7_findWays_39 : decode cX7_findWays 39 = .ok (.goto (-16), 3) := by decide +kernel
theorem dX7_findWays_42 : decode cX7_findWays 42 = .ok (.iconst 0, 1) := by decide +kernel
theorem dX7_findWays_43 : decode cX7_findWays 43 = .ok (.istore_n 1, 1) := by decide +kernel
theorem dX7_findWays_44 : decode cX7_findWays 44 = .ok (.iload_n 1, 1) := by decide +kernel
theorem dX7_findWays_45 : decode cX7_findWays 45 = .ok (.bipush 6, 2) := by decide +kernel
theorem dX7_findWays_47 : decode cX7_findWays 47 = .ok (.if_icmp .ge 37, 3) := by decide +kernel
theorem dX7_findWays_50 : decode cX7_findWays 50 = .ok (.aload_n 0, 1) := by decide +kernel
theorem dX7_findWays_51 : decode cX7_findWays 51 = .ok (.getfield 36, 3) := by decide +kernel
theorem dX7_findWays_54 : decode cX7_findWays 54 = .ok (.iload_n 1, 1) := by decide +kernel
theorem dX7_findWays_55 : decode cX7_findWays 55 = .ok (.lconst 0, 1) := by decide +kernel
theorem dX7_findWays_56 : decode cX7_findWays 56 = .ok (.lastore, 1) := by decide +kernel
theorem dX7_findWays_57 : decode cX7_findWays 57 = .ok (.aload_n 0, 1) := by decide +kernel
theorem dX7_findWays_58 : decode cX7_findWays 58 = .ok (.getfield 39, 3) := by decide +kernel
theorem dX7_findWays_61 : decode cX7_findWays 61 = .ok (.iload_n 1, 1) := by decide +kernel
theorem dX7_findWays_62 : decode cX7_findWays 62 = .ok (.lconst 0, 1) := by decide +kernel
theorem dX7_findWays_63 : decode cX7_findWays 63 = .ok (.lastore, 1) := by decide +kernel
theorem dX7_findWays_64 : decode cX7_findWays 64 = .ok (.aload_n 0, 1) := by decide +kernel
theorem dX7_findWays_65 : decode cX7_findWays 65 = .ok (.getfield 42, 3) := by decide +kernel
theorem dX7_findWays_68 : decode cX7_findWays 68 = .ok (.iload_n 1, 1) := by decide +kernel
theorem dX7_findWays_69 : decode cX7_findWays 69 = .ok (.iconst 0, 1) := by decide +kernel
theorem dX7_findWays_70 : decode cX7_findWays 70 = .ok (.iastore, 1) := by decide +kernel
theorem dX7_findWays_71 : decode cX7_findWays 71 = .ok (.aload_n 0, 1) := by decide +kernel
theorem dX7_findWays_72 : decode cX7_findWays 72 = .ok (.getfield 45, 3) := by decide +kernel
theorem dX7_findWays_75 : decode cX7_findWays 75 = .ok (.iload_n 1, 1) := by decide +kernel
theorem dX7_findWays_76 : decode cX7_findWays 76 = .ok (.lconst 0, 1) := by decide +kernel
theorem dX7_findWays_77 : decode cX7_findWays 77 = .ok (.lastore, 1) := by decide +kernel
theorem dX7_findWays_78 : decode cX7_findWays 78 = .ok (.iinc 1 1, 3) := by decide +kernel
theorem dX7_findWays_81 : decode cX7_findWays 81 = .ok (.goto (-37), 3) := by decide +kernel
theorem dX7_findWays_84 : decode cX7_findWays 84 = .ok (.aload_n 0, 1) := by decide +kernel
theorem dX7_findWays_85 : decode cX7_findWays 85 = .ok (.iconst 0, 1) := by decide +kernel
theorem dX7_findWays_86 : decode cX7_findWays 86 = .ok (.putfield 248, 3) := by decide +kernel
theorem dX7_findWays_89 : decode cX7_findWays 89 = .ok (.aload_n 0, 1) := by decide +kernel
theorem dX7_findWays_90 : decode cX7_findWays 90 = .ok (.lconst 1, 1) := by decide +kernel
theorem dX7_findWays_91 : decode cX7_findWays 91 = .ok (.invokevirtual 258, 3) := by decide +kernel
theorem dX7_findWays_94 : decode cX7_findWays 94 = .ok (.lconst 1, 1) := by decide +kernel
theorem dX7_findWays_95 : decode cX7_findWays 95 = .ok (.lstore_n 1, 1) := by decide +kernel
theorem dX7_findWays_96 : decode cX7_findWays 96 = .ok (.aload_n 0, 1) := by decide +kernel
theorem dX7_findWays_97 : decode cX7_findWays 97 = .ok (.getfield 7, 3) := by decide +kernel
theorem dX7_findWays_100 : decode cX7_findWays 100 = .ok (.iconst 2, 1) := by decide +kernel
theorem dX7_findWays_101 : decode cX7_findWays 101 = .ok (.iaload, 1) := by decide +kernel
theorem dX7_findWays_102 : decode cX7_findWays 102 = .ok (.istore_n 3, 1) := by decide +kernel
theorem dX7_findWays_103 : decode cX7_findWays 103 = .ok (.iload_n 3, 1) := by decide +kernel
theorem dX7_findWays_104 : decode cX7_findWays 104 = .ok (.aload_n 0, 1) := by decide +kernel
theorem dX7_findWays_105 : decode cX7_findWays 105 = .ok (.getfield 7, 3) := by decide +kernel
theorem dX7_findWays_108 : decode cX7_findWays 108 = .ok (.iconst 1, 1) := by decide +kernel
theorem dX7_findWays_109 : decode cX7_findWays 109 = .ok (.iaload, 1) := by decide +kernel
theorem dX7_findWays_110 : decode cX7_findWays 110 = .ok (.if_icmp .ge 15, 3) := by decide +kernel
theorem dX7_findWays_113 : decode cX7_findWays 113 = .ok (.lload_n 1, 1) := by decide +kernel
theorem dX7_findWays_114 : decode cX7_findWays 114 = .ok (.ldc2_w 261, 3) := by decide +kernel
theorem dX7_findWays_117 : decode cX7_findWays 117 = .ok (.lmul, 1) := by decide +kernel
theorem dX7_findWays_118 : decode cX7_findWays 118 = .ok (.lstore_n 1, 1) := by decide +kernel
theorem dX7_findWays_119 : decode cX7_findWays 119 = .ok (.iinc 3 1, 3) := by decide +kernel
theorem dX7_findWays_122 : decode cX7_findWays 122 = .ok (.goto (-19), 3) := by decide +kernel
theorem dX7_findWays_125 : decode cX7_findWays 125 = .ok (.lload_n 1, 1) := by decide +kernel
theorem dX7_findWays_126 : decode cX7_findWays 126 = .ok (.lreturn, 1) := by decide +kernel
set_option maxHeartbeats 4000000 in
set_option maxRecDepth 100000 in
theorem c_X7_findWays (l : Launch) (D : va_G) (cy : Nat → ClassId) (ad adK adV : Nat → Nat) (M : Mm) (o0 : Nat) (res : Mm × Int64) (h : f_X7_findWays M o0 = some res) : Met l yX7_findWays (wU yX7_findWays cX7_findWays 4 (some .long)) rmX7_findWays (va_Pc [.ref (ad o0)] (Pre D cy shM ad nM adK adV M)) (va_Ql (fun r (M2 : Mm) => r = res.2 ∧ M2 = res.1) (Pre D cy shM ad nM adK adV) (Aw ad nM)) 0 0 (Aw ad nM) := by
  refine Met.ofW (cc := cX7_findWays) (maxL := 4) (ret := (some .long)) (by decide) rfl ?_
  intro p e s m args below meth c s₁ B hml hv
  obtain ⟨hargs, hPre⟩ := hv
  have hx := B.exec
  have hb := B.bytes
  have hr := B.returns
  have hts := atoms_spec (ws := wU yX7_findWays cX7_findWays 4 (some .long)) B.pre
  have hq : ∀ w ∈ gW, w.before args s = true := fun w hw => hts w (List.mem_cons_of_mem _ hw)
  have hcm : ∀ w ∈ gW, w ∈ wU yX7_findWays cX7_findWays 4 (some .long) := fun w hw => List.mem_cons_of_mem _ hw
  have hown : s.vm.findClass RX7 = some m.cls := findClass_of_methodNamed B.named
  have hlocks := B.notSynchronized
  have hF : CallFix p m c cX7_findWays 4 s args (wU yX7_findWays cX7_findWays 4 (some .long)) RX7 := ⟨hx, hb, hml, hown, hts⟩
  have hK := hPre.2.1
  have hZ := hPre.2.2.2
  have hw : Wd D cy shM ad nM (Aw ad nM) s.heap M s.heap [] := ⟨hPre.1, hPre.2.2.1, va_S.rf⟩
  have iw7 : ∀ w ∈ u_ws RX7 TX7 30, w ∈ wU yX7_findWays cX7_findWays 4 (some .long) := fun w hw => List.mem_cons_of_mem _ (iX7 w hw)
  rw [show entryFrame m args 4 = entryFrame m ([.ref (ad o0)] : List Value).toArray 4 from by rw [hargs]]
  have hl := lv_entry ([.ref (ad o0)]) (n := 4) (Nat.le_of_ble_eq_true rfl)
  rw [lg_entry_eq]
  generalize (lg_sl ([.ref (ad o0)]) ++ List.replicate (4 - (lg_sl ([.ref (ad o0)])).length) Slot.unset).toArray = ls at hl ⊢
  have hl : lv_has ls 4 [(0, .ref (ad o0))] := hl
  have hb103 : ∀ (nn : Nat), ∀ (M : Mm) (x0 : Nat) (x1 : Int64) (x3 : Int32), f_X7_findWays_b103 nn M x0 x1 x3 = some res → ∀ (H : Heap) (locs : List Loc) (ls : Array Slot), Wd D cy shM ad nM (Aw ad nM) s.heap M H locs → lv_has ls 4 [(0, .ref (ad x0)), (1, .long x1), (3, .int x3)] → W p l e (headSpec (wU yX7_findWays cX7_findWays 4 (some .long)) rmX7_findWays).room s m args below meth c H locs 0 0 (QL D cy shM ad nM adK adV below args s res) (F0 m 103 ls []) := by
    intro nn
    induction nn with
    | zero => intro M x0 x1 x3 h; simp [f_X7_findWays_b103] at h
    | succ nn ih =>
      intro M x0 x1 x3 h H locs ls hw hl
      unfold f_X7_findWays_b103 at h
      refine lv_iload_n hx hb dX7_findWays_103 rfl (lv_at hl 2 rfl) ?_
      refine lv_aload_n hx hb dX7_findWays_104 rfl (lv_at hl 0 rfl) ?_
      replace h := gd_some h
      obtain ⟨g1, h⟩ := h
      replace h := bd_some h
      obtain ⟨q2, eq2, h⟩ := h
      refine r_getR hx hb hts iw7 hown hK hw x0 0 g1 (by decide) rfl (by decide) rfl (hq _ qw890) (fun _ h9 => h9) dX7_findWays_105 eq2 ?_
      refine lv_iconst (v := (1 : Int32)) hx hb dX7_findWays_108 (by decide) ?_
      replace h := gd_some h
      obtain ⟨g3, h⟩ := h
      refine r_iald hx hb hK hw q2 g3 dX7_findWays_109 ?_
      refine lv_icmp_ge (tgt := 125) hx hb dX7_findWays_110 (by decide) (fun c4 => ?_) (fun c4 => ?_)
      · replace h := if_some_t c4 h
        refine lv_lload_n hx hb dX7_findWays_125 rfl (lv_at hl 1 rfl) ?_
        exact r_lret hx hb hr hlocks hZ hK hw h dX7_findWays_126
      · replace h := if_some_f c4 h
        refine lv_lload_n hx hb dX7_findWays_113 rfl (lv_at hl 1 rfl) ?_
        refine lv_ldc2 (v := (10 : Int64)) hx hb hown (hq _ qw1221) dX7_findWays_114 ?_
        refine lv_lmul hx hb dX7_findWays_117 ?_
        refine lv_lstore_n (lv' := [(1, .long (x1 * (10 : Int64))), (0, .ref (ad x0)), (3, .int x3)]) hx hb dX7_findWays_118 rfl hl (by decide) rfl (fun ls hl => ?_)
        refine lv_iinc (v := x3 + (1 : Int32)) (lv' := [(3, .int (x3 + (1 : Int32))), (1, .long (x1 * (10 : Int64))), (0, .ref (ad x0))]) hx hb dX7_findWays_119 hl (k := 2) rfl (congrArg (fun z => x3 + z) (by decide)) (by decide) rfl (fun ls hl => ?_)
        refine lv_goto (tgt := 103) hx hb dX7_findWays_122 (by decide) ?_
        exact ih _ _ _ _ h _ _ _ hw (lv_sub hl [2, 1, 0] rfl)
  have hb44 : ∀ (nn : Nat), ∀ (M : Mm) (x0 : Nat) (x1 : Int32), f_X7_findWays_b44 nn M x0 x1 = some res → ∀ (H : Heap) (locs : List Loc) (ls : Array Slot), Wd D cy shM ad nM (Aw ad nM) s.heap M H locs → lv_has ls 4 [(0, .ref (ad x0)), (1, .int x1)] → W p l e (headSpec (wU yX7_findWays cX7_findWays 4 (some .long)) rmX7_findWays).room s m args below meth c H locs 0 0 (QL D cy shM ad nM adK adV below args s res) (F0 m 44 ls []) := by
    intro nn
    induction nn with
    | zero => intro M x0 x1 h; simp [f_X7_findWays_b44] at h
    | succ nn ih =>
      intro M x0 x1 h H locs ls hw hl
      unfold f_X7_findWays_b44 at h
      refine lv_iload_n hx hb dX7_findWays_44 rfl (lv_at hl 1 rfl) ?_
      refine lv_bipush (v := (6 : Int32)) hx hb dX7_findWays_45 (by decide) ?_
      refine lv_icmp_ge (tgt := 84) hx hb dX7_findWays_47 (by decide) (fun c5 => ?_) (fun c5 => ?_)
      · replace h := if_some_t c5 h
        refine lv_aload_n hx hb dX7_findWays_84 rfl (lv_at hl 0 rfl) ?_
        refine lv_iconst (v := (0 : Int32)) hx hb dX7_findWays_85 (by decide) ?_
        replace h := gd_some h
        obtain ⟨g6, h⟩ := h
        refine r_putI hx hb hts iw7 tyX7 tyX7_ok nmX7 hown hK hw x0 23 g6 (by decide) rfl (by decide) rfl (hq _ qw913) (fun _ h9 => h9) rfl rfl rfl dX7_findWays_86 (fun H locs hw => ?_)
        replace h := lt_some h
        obtain ⟨M7, eM7, h⟩ := h
        rw [← eM7] at hw
        refine lv_aload_n hx hb dX7_findWays_89 rfl (lv_at hl 0 rfl) ?_
        refine lv_lconst (v := (1 : Int64)) hx hb dX7_findWays_90 (by decide) ?_
        replace h := bd_some h
        obtain ⟨r8, er8, h⟩ := h
        refine r_callVv (As := [.long (1 : Int64)]) (rest := []) hF (c_X7_goesOn l D cy ad adK adV 10 M7 x0 (1 : Int64) r8 er8) (gW_goodV hcm qw1216 qw1213 qw1215 qw54 qw68) hdX7_goesOn rfl ⟨Nat.le_of_ble_eq_true rfl, Nat.le_of_ble_eq_true rfl⟩ rfl rfl hZ hK hw g6 (by decide) rfl rfl hl.1 rfl (Nat.le_of_ble_eq_true rfl) ⟨Nat.zero_le _, Nat.zero_le _⟩ dX7_findWays_91 (fun H locs hw => ?_)
        refine lv_lconst (v := (1 : Int64)) hx hb dX7_findWays_94 (by decide) ?_
        refine lv_lstore_n (lv' := [(1, .long (1 : Int64)), (0, .ref (ad x0))]) hx hb dX7_findWays_95 rfl hl (by decide) rfl (fun ls hl => ?_)
        refine lv_aload_n hx hb dX7_findWays_96 rfl (lv_at hl 1 rfl) ?_
        replace h := bd_some h
        obtain ⟨q9, eq9, h⟩ := h
        refine r_getR hx hb hts iw7 hown hK hw x0 0 g6 (by decide) rfl (by decide) rfl (hq _ qw890) (fun _ h9 => h9) dX7_findWays_97 eq9 ?_
        refine lv_iconst (v := (2 : Int32)) hx hb dX7_findWays_100 (by decide) ?_
        replace h := gd_some h
        obtain ⟨g10, h⟩ := h
        refine r_iald hx hb hK hw q9 g10 dX7_findWays_101 ?_
        refine lv_istore_n (lv' := [(3, .int (r8.1.1 q9 (2 : Int32).toNatClampNeg)), (1, .long (1 : Int64)), (0, .ref (ad x0))]) hx hb dX7_findWays_102 rfl hl (by decide) rfl (fun ls hl => ?_)
        exact hb103 1000 _ _ _ _ h _ _ _ hw (lv_sub hl [2, 1, 0] rfl)
      · replace h := if_some_f c5 h
        refine lv_aload_n hx hb dX7_findWays_50 rfl (lv_at hl 0 rfl) ?_
        replace h := gd_some h
        obtain ⟨g11, h⟩ := h
        replace h := bd_some h
        obtain ⟨q12, eq12, h⟩ := h
        refine r_getR hx hb hts iw7 hown hK hw x0 18 g11 (by decide) rfl (by decide) rfl (hq _ qw908) (fun _ h9 => h9) dX7_findWays_51 eq12 ?_
        refine lv_iload_n hx hb dX7_findWays_54 rfl (lv_at hl 1 rfl) ?_
        refine lv_lconst (v := (0 : Int64)) hx hb dX7_findWays_55 (by decide) ?_
        replace h := gd_some h
        obtain ⟨g13, h⟩ := h
        refine r_last hx hb hK hw q12 g13 dX7_findWays_56 (fun H locs hw => ?_)
        replace h := lt_some h
        obtain ⟨M14, eM14, h⟩ := h
        rw [← eM14] at hw
        refine lv_aload_n hx hb dX7_findWays_57 rfl (lv_at hl 0 rfl) ?_
        replace h := bd_some h
        obtain ⟨q15, eq15, h⟩ := h
        refine r_getR hx hb hts iw7 hown hK hw x0 19 g11 (by decide) rfl (by decide) rfl (hq _ qw909) (fun _ h9 => h9) dX7_findWays_58 eq15 ?_
        refine lv_iload_n hx hb dX7_findWays_61 rfl (lv_at hl 1 rfl) ?_
        refine lv_lconst (v := (0 : Int64)) hx hb dX7_findWays_62 (by decide) ?_
        replace h := gd_some h
        obtain ⟨g16, h⟩ := h
        refine r_last hx hb hK hw q15 g16 dX7_findWays_63 (fun H locs hw => ?_)
        replace h := lt_some h
        obtain ⟨M17, eM17, h⟩ := h
        rw [← eM17] at hw
        refine lv_aload_n hx hb dX7_findWays_64 rfl (lv_at hl 0 rfl) ?_
        replace h := bd_some h
        obtain ⟨q18, eq18, h⟩ := h
        refine r_getR hx hb hts iw7 hown hK hw x0 20 g11 (by decide) rfl (by decide) rfl (hq _ qw910) (fun _ h9 => h9) dX7_findWays_65 eq18 ?_
        refine lv_iload_n hx hb dX7_findWays_68 rfl (lv_at hl 1 rfl) ?_
        refine lv_iconst (v := (0 : Int32)) hx hb dX7_findWays_69 (by decide) ?_
        replace h := gd_some h
        obtain ⟨g19, h⟩ := h
        refine r_iast hx hb hK hw q18 g19 dX7_findWays_70 (fun H locs hw => ?_)
        replace h := lt_some h
        obtain ⟨M20, eM20, h⟩ := h
        rw [← eM20] at hw
        refine lv_aload_n hx hb dX7_findWays_71 rfl (lv_at hl 0 rfl) ?_
        replace h := bd_some h
        obtain ⟨q21, eq21, h⟩ := h
        refine r_getR hx hb hts iw7 hown hK hw x0 22 g11 (by decide) rfl (by decide) rfl (hq _ qw912) (fun _ h9 => h9) dX7_findWays_72 eq21 ?_
        refine lv_iload_n hx hb dX7_findWays_75 rfl (lv_at hl 1 rfl) ?_
        refine lv_lconst (v := (0 : Int64)) hx hb dX7_findWays_76 (by decide) ?_
        replace h := gd_some h
        obtain ⟨g22, h⟩ := h
        refine r_last hx hb hK hw q21 g22 dX7_findWays_77 (fun H locs hw => ?_)
        replace h := lt_some h
        obtain ⟨M23, eM23, h⟩ := h
        rw [← eM23] at hw
        refine lv_iinc (v := x1 + (1 : Int32)) (lv' := [(1, .int (x1 + (1 : Int32))), (0, .ref (ad x0))]) hx hb dX7_findWays_78 hl (k := 1) rfl (congrArg (fun z => x1 + z) (by decide)) (by decide) rfl (fun ls hl => ?_)
        refine lv_goto (tgt := 44) hx hb dX7_findWays_81 (by decide) ?_
        exact ih _ _ _ h _ _ _ hw (lv_sub hl [1, 0] rfl)
  have hb23 : ∀ (nn : Nat), ∀ (M : Mm) (x0 : Nat) (x1 : Int32), f_X7_findWays_b23 nn M x0 x1 = some res → ∀ (H : Heap) (locs : List Loc) (ls : Array Slot), Wd D cy shM ad nM (Aw ad nM) s.heap M H locs → lv_has ls 4 [(0, .ref (ad x0)), (1, .int x1)] → W p l e (headSpec (wU yX7_findWays cX7_findWays 4 (some .long)) rmX7_findWays).room s m args below meth c H locs 0 0 (QL D cy shM ad nM adK adV below args s res) (F0 m 23 ls []) := by
    intro nn
    induction nn with
    | zero => intro M x0 x1 h; simp [f_X7_findWays_b23] at h
    | succ nn ih =>
      intro M x0 x1 h H locs ls hw hl
      unfold f_X7_findWays_b23 at h
      refine lv_iload_n hx hb dX7_findWays_23 rfl (lv_at hl 1 rfl) ?_
      refine lv_bipush (v := (8 : Int32)) hx hb dX7_findWays_24 (by decide) ?_
      refine lv_icmp_ge (tgt := 42) hx hb dX7_findWays_26 (by decide) (fun c24 => ?_) (fun c24 => ?_)
      · replace h := if_some_t c24 h
        refine lv_iconst (v := (0 : Int32)) hx hb dX7_findWays_42 (by decide) ?_
        refine lv_istore_n (lv' := [(1, .int (0 : Int32)), (0, .ref (ad x0))]) hx hb dX7_findWays_43 rfl hl (by decide) rfl (fun ls hl => ?_)
        exact hb44 1000 _ _ _ h _ _ _ hw (lv_sub hl [1, 0] rfl)
      · replace h := if_some_f c24 h
        refine lv_aload_n hx hb dX7_findWays_29 rfl (lv_at hl 0 rfl) ?_
        replace h := gd_some h
        obtain ⟨g25, h⟩ := h
        replace h := bd_some h
        obtain ⟨q26, eq26, h⟩ := h
        refine r_getR hx hb hts iw7 hown hK hw x0 17 g25 (by decide) rfl (by decide) rfl (hq _ qw907) (fun _ h9 => h9) dX7_findWays_30 eq26 ?_
        refine lv_iload_n hx hb dX7_findWays_33 rfl (lv_at hl 1 rfl) ?_
        refine lv_lconst (v := (0 : Int64)) hx hb dX7_findWays_34 (by decide) ?_
        replace h := gd_some h
        obtain ⟨g27, h⟩ := h
        refine r_last hx hb hK hw q26 g27 dX7_findWays_35 (fun H locs hw => ?_)
        replace h := lt_some h
        obtain ⟨M28, eM28, h⟩ := h
        rw [← eM28] at hw
        refine lv_iinc (v := x1 + (1 : Int32)) (lv' := [(1, .int (x1 + (1 : Int32))), (0, .ref (ad x0))]) hx hb dX7_findWays_36 hl (k := 1) rfl (congrArg (fun z => x1 + z) (by decide)) (by decide) rfl (fun ls hl => ?_)
        refine lv_goto (tgt := 23) hx hb dX7_findWays_39 (by decide) ?_
        exact ih _ _ _ h _ _ _ hw (lv_sub hl [1, 0] rfl)
  have hb2 : ∀ (nn : Nat), ∀ (M : Mm) (x0 : Nat) (x1 : Int32), f_X7_findWays_b2 nn M x0 x1 = some res → ∀ (H : Heap) (locs : List Loc) (ls : Array Slot), Wd D cy shM ad nM (Aw ad nM) s.heap M H locs → lv_has ls 4 [(0, .ref (ad x0)), (1, .int x1)] → W p l e (headSpec (wU yX7_findWays cX7_findWays 4 (some .long)) rmX7_findWays).room s m args below meth c H locs 0 0 (QL D cy shM ad nM adK adV below args s res) (F0 m 2 ls []) := by
    intro nn
    induction nn with
    | zero => intro M x0 x1 h; simp [f_X7_findWays_b2] at h
    | succ nn ih =>
      intro M x0 x1 h H locs ls hw hl
      unfold f_X7_findWays_b2 at h
      refine lv_iload_n hx hb dX7_findWays_2 rfl (lv_at hl 1 rfl) ?_
      refine lv_bipush (v := (48 : Int32)) hx hb dX7_findWays_3 (by decide) ?_
      refine lv_icmp_ge (tgt := 21) hx hb dX7_findWays_5 (by decide) (fun c29 => ?_) (fun c29 => ?_)
      · replace h := if_some_t c29 h
        refine lv_iconst (v := (0 : Int32)) hx hb dX7_findWays_21 (by decide) ?_
        refine lv_istore_n (lv' := [(1, .int (0 : Int32)), (0, .ref (ad x0))]) hx hb dX7_findWays_22 rfl hl (by decide) rfl (fun ls hl => ?_)
        exact hb23 1000 _ _ _ h _ _ _ hw (lv_sub hl [1, 0] rfl)
      · replace h := if_some_f c29 h
        refine lv_aload_n hx hb dX7_findWays_8 rfl (lv_at hl 0 rfl) ?_
        replace h := gd_some h
        obtain ⟨g30, h⟩ := h
        replace h := bd_some h
        obtain ⟨q31, eq31, h⟩ := h
        refine r_getR hx hb hts iw7 hown hK hw x0 16 g30 (by decide) rfl (by decide) rfl (hq _ qw906) (fun _ h9 => h9) dX7_findWays_9 eq31 ?_
        refine lv_iload_n hx hb dX7_findWays_12 rfl (lv_at hl 1 rfl) ?_
        refine lv_lconst (v := (0 : Int64)) hx hb dX7_findWays_13 (by decide) ?_
        replace h := gd_some h
        obtain ⟨g32, h⟩ := h
        refine r_last hx hb hK hw q31 g32 dX7_findWays_14 (fun H locs hw => ?_)
        replace h := lt_some h
        obtain ⟨M33, eM33, h⟩ := h
        rw [← eM33] at hw
        refine lv_iinc (v := x1 + (1 : Int32)) (lv' := [(1, .int (x1 + (1 : Int32))), (0, .ref (ad x0))]) hx hb dX7_findWays_15 hl (k := 1) rfl (congrArg (fun z => x1 + z) (by decide)) (by decide) rfl (fun ls hl => ?_)
        refine lv_goto (tgt := 2) hx hb dX7_findWays_18 (by decide) ?_
        exact ih _ _ _ h _ _ _ hw (lv_sub hl [1, 0] rfl)
  unfold f_X7_findWays at h
  refine lv_iconst (v := (0 : Int32)) hx hb dX7_findWays_0 (by decide) ?_
  refine lv_istore_n (lv' := [(1, .int (0 : Int32)), (0, .ref (ad o0))]) hx hb dX7_findWays_1 rfl hl (by decide) rfl (fun ls hl => ?_)
  exact hb2 1000 _ _ _ h _ _ _ hw (lv_sub hl [1, 0] rfl)
theorem dX7_told_0 : decode cX7_told 0 = .ok (.lload_n 0, 1) := by decide +kernel
theorem dX7_told_1 : decode cX7_told 1 = .ok (.lstore 5, 2) := by decide +kernel
theorem dX7_told_3 : decode cX7_told 3 = .ok (.lload_n 2, 1) := by decide +kernel
theorem dX7_told_4 : decode cX7_told 4 = .ok (.lstore 7, 2) := by decide +kernel
theorem dX7_told_6 : decode cX7_told 6 = .ok (.lload 7, 2) := by decide +kernel
theorem dX7_told_8 : decode cX7_told 8 = .ok (.lconst 0, 1) := by decide +kernel
theorem dX7_told_9 : decode cX7_told 9 = .ok (.lcmp, 1) := by decide +kernel
theorem dX7_told_10 : decode cX7_told 10 = .ok (.ifCond .eq 21, 3) := by decide +kernel
theorem dX7_told_13 : decode cX7_told 13 = .ok (.lload 5, 2) := by decide +kernel
theorem dX7_told_15 : decode cX7_told 15 = .ok (.lload 7, 2) := by decide +kernel
theorem dX7_told_17 : decode cX7_told 17 = .ok (.lrem, 1) := by decide +kernel
theorem dX7_told_18 : decode cX7_told 18 = .ok (.lstore 9, 2) := by decide +kernel
theorem dX7_told_20 : decode cX7_told 20 = .ok (.lload 7, 2) := by decide +kernel
theorem dX7_told_22 : decode cX7_told 22 = .ok (.lstore 5, 2) := by decide +kernel
theorem dX7_told_24 : decode cX7_told 24 = .ok (.lload 9, 2) := by decide +kernel
theorem dX7_told_26 : decode cX7_told 26 = .ok (.lstore 7, 2) := by decide +kernel
theorem dX7_told_28 : decode cX7_told 28 = .ok (.goto (-22), 3) := by decide +kernel
theorem dX7_told_31 : decode cX7_told 31 = .ok (.iload 4, 2) := by decide +kernel
theorem dX7_told_33 : decode cX7_told 33 = .ok (.ifCond .ne 10, 3) := by decide +kernel
theorem dX7_told_36 : decode cX7_told 36 = .ok (.lload_n 0, 1) := by decide +kernel
theorem dX7_told_37 : decode cX7_told 37 = .ok (.lload 5, 2) := by decide +kernel
theorem dX7_told_39 : decode cX7_told 39 = .ok (.ldiv, 1) := by decide +kernel
theorem dX7_told_40 : decode cX7_told 40 = .ok (.goto 7, 3) := by decide +kernel
theorem dX7_told_43 : decode cX7_told 43 = .ok (.lload_n 2, 1) := by decide +kernel
theorem dX7_told_44 : decode cX7_told 44 = .ok (.lload 5, 2) := by decide +kernel
theorem dX7_told_46 : decode cX7_told 46 = .ok (.ldiv, 1) := by decide +kernel
theorem dX7_told_47 : decode cX7_told 47 = .ok (.lreturn, 1) := by decide +kernel
set_option maxHeartbeats 4000000 in
set_option maxRecDepth 100000 in
theorem c_X7_told (l : Launch) (D : va_G) (cy : Nat → ClassId) (ad adK adV : Nat → Nat) (M : Mm) (a0 : Int64) (a2 : Int64) (a4 : Int32) (res : Mm × Int64) (h : f_X7_told M a0 a2 a4 = some res) : Met l yX7_told (wU yX7_told cX7_told 11 (some .long)) rmX7_told (va_Pc [.long a0, .long a2, .int a4] (Pre D cy shM ad nM adK adV M)) (va_Ql (fun r (M2 : Mm) => r = res.2 ∧ M2 = res.1) (Pre D cy shM ad nM adK adV) (Aw ad nM)) 0 0 (Aw ad nM) := by
  refine Met.ofW (cc := cX7_told) (maxL := 11) (ret := (some .long)) (by decide) rfl ?_
  intro p e s m args below meth c s₁ B hml hv
  obtain ⟨hargs, hPre⟩ := hv
  have hx := B.exec
  have hb := B.bytes
  have hr := B.returns
  have hts := atoms_spec (ws := wU yX7_told cX7_told 11 (some .long)) B.pre
  have hq : ∀ w ∈ gW, w.before args s = true := fun w hw => hts w (List.mem_cons_of_mem _ hw)
  have hcm : ∀ w ∈ gW, w ∈ wU yX7_told cX7_told 11 (some .long) := fun w hw => List.mem_cons_of_mem _ hw
  have hown : s.vm.findClass RX7 = some m.cls := findClass_of_methodNamed B.named
  have hlocks := B.notSynchronized
  have hF : CallFix p m c cX7_told 11 s args (wU yX7_told cX7_told 11 (some .long)) RX7 := ⟨hx, hb, hml, hown, hts⟩
  have hK := hPre.2.1
  have hZ := hPre.2.2.2
  have hw : Wd D cy shM ad nM (Aw ad nM) s.heap M s.heap [] := ⟨hPre.1, hPre.2.2.1, va_S.rf⟩
  rw [show entryFrame m args 11 = entryFrame m ([.long a0, .long a2, .int a4] : List Value).toArray 11 from by rw [hargs]]
  have hl := lv_entry ([.long a0, .long a2, .int a4]) (n := 11) (Nat.le_of_ble_eq_true rfl)
  rw [lg_entry_eq]
  generalize (lg_sl ([.long a0, .long a2, .int a4]) ++ List.replicate (11 - (lg_sl ([.long a0, .long a2, .int a4])).length) Slot.unset).toArray = ls at hl ⊢
  have hl : lv_has ls 11 [(0, .long a0), (2, .long a2), (4, .int a4)] := hl
  have hb6 : ∀ (nn : Nat), ∀ (M : Mm) (x0 : Int64) (x2 : Int64) (x4 : Int32) (x5 : Int64) (x7 : Int64), f_X7_told_b6 nn M x0 x2 x4 x5 x7 = some res → ∀ (H : Heap) (locs : List Loc) (ls : Array Slot), Wd D cy shM ad nM (Aw ad nM) s.heap M H locs → lv_has ls 11 [(0, .long x0), (2, .long x2), (4, .int x4), (5, .long x5), (7, .long x7)] → W p l e (headSpec (wU yX7_told cX7_told 11 (some .long)) rmX7_told).room s m args below meth c H locs 0 0 (QL D cy shM ad nM adK adV below args s res) (F0 m 6 ls []) := by
    intro nn
    induction nn with
    | zero => intro M x0 x2 x4 x5 x7 h; simp [f_X7_told_b6] at h
    | succ nn ih =>
      intro M x0 x2 x4 x5 x7 h H locs ls hw hl
      unfold f_X7_told_b6 at h
      refine lv_lload hx hb dX7_told_6 (lv_at hl 4 rfl) ?_
      refine lv_lconst (v := (0 : Int64)) hx hb dX7_told_8 (by decide) ?_
      refine W.lcmp hx hb dX7_told_9 ?_
      refine lv_if_eq (tgt := 31) hx hb dX7_told_10 (by decide) (fun c1 => ?_) (fun c1 => ?_)
      · replace h := if_some_t c1 h
        refine lv_iload hx hb dX7_told_31 (lv_at hl 2 rfl) ?_
        refine lv_if_ne (tgt := 43) hx hb dX7_told_33 (by decide) (fun c2 => ?_) (fun c2 => ?_)
        · replace h := if_some_f c2 h
          refine lv_lload_n hx hb dX7_told_43 rfl (lv_at hl 1 rfl) ?_
          refine lv_lload hx hb dX7_told_44 (lv_at hl 3 rfl) ?_
          replace h := gd_some h
          obtain ⟨g3, h⟩ := h
          refine lv_ldiv hx hb dX7_told_46 g3 ?_
          exact r_lret hx hb hr hlocks hZ hK hw h dX7_told_47
        · replace h := if_some_t c2 h
          refine lv_lload_n hx hb dX7_told_36 rfl (lv_at hl 0 rfl) ?_
          refine lv_lload hx hb dX7_told_37 (lv_at hl 3 rfl) ?_
          replace h := gd_some h
          obtain ⟨g4, h⟩ := h
          refine lv_ldiv hx hb dX7_told_39 g4 ?_
          refine lv_goto (tgt := 47) hx hb dX7_told_40 (by decide) ?_
          exact r_lret hx hb hr hlocks hZ hK hw h dX7_told_47
      · replace h := if_some_f c1 h
        refine lv_lload hx hb dX7_told_13 (lv_at hl 3 rfl) ?_
        refine lv_lload hx hb dX7_told_15 (lv_at hl 4 rfl) ?_
        replace h := gd_some h
        obtain ⟨g5, h⟩ := h
        refine lv_lrem hx hb dX7_told_17 g5 ?_
        refine lv_lstore (lv' := [(9, .long (x5 - x5 / x7 * x7)), (0, .long x0), (2, .long x2), (4, .int x4), (5, .long x5), (7, .long x7)]) hx hb dX7_told_18 hl (by decide) rfl (fun ls hl => ?_)
        refine lv_lload hx hb dX7_told_20 (lv_at hl 5 rfl) ?_
        refine lv_lstore (lv' := [(5, .long x7), (9, .long (x5 - x5 / x7 * x7)), (0, .long x0), (2, .long x2), (4, .int x4), (7, .long x7)]) hx hb dX7_told_22 hl (by decide) rfl (fun ls hl => ?_)
        refine lv_lload hx hb dX7_told_24 (lv_at hl 1 rfl) ?_
        refine lv_lstore (lv' := [(7, .long (x5 - x5 / x7 * x7)), (5, .long x7), (9, .long (x5 - x5 / x7 * x7)), (0, .long x0), (2, .long x2), (4, .int x4)]) hx hb dX7_told_26 hl (by decide) rfl (fun ls hl => ?_)
        refine lv_goto (tgt := 6) hx hb dX7_told_28 (by decide) ?_
        exact ih _ _ _ _ _ _ h _ _ _ hw (lv_sub hl [3, 4, 5, 1, 0] rfl)
  unfold f_X7_told at h
  refine lv_lload_n hx hb dX7_told_0 rfl (lv_at hl 0 rfl) ?_
  refine lv_lstore (lv' := [(5, .long a0), (0, .long a0), (2, .long a2), (4, .int a4)]) hx hb dX7_told_1 hl (by decide) rfl (fun ls hl => ?_)
  refine lv_lload_n hx hb dX7_told_3 rfl (lv_at hl 2 rfl) ?_
  refine lv_lstore (lv' := [(7, .long a2), (5, .long a0), (0, .long a0), (2, .long a2), (4, .int a4)]) hx hb dX7_told_4 hl (by decide) rfl (fun ls hl => ?_)
  exact hb6 1000 _ _ _ _ _ _ h _ _ _ hw (lv_sub hl [2, 3, 4, 1, 0] rfl)
theorem dX7_isPart_0 : decode cX7_isPart 0 = .ok (.iload_n 0, 1) := by decide +kernel
theorem dX7_isPart_1 : decode cX7_isPart 1 = .ok (.iconst 0, 1) := by decide +kernel
theorem dX7_isPart_2 : decode cX7_isPart 2 = .ok (.iconst 1, 1) := by decide +kernel
theorem dX7_isPart_3 : decode cX7_isPart 3 = .ok (.invokestatic 67, 3) := by decide +kernel
theorem dX7_isPart_6 : decode cX7_isPart 6 = .ok (.ireturn, 1) := by decide +kernel
set_option maxHeartbeats 4000000 in
set_option maxRecDepth 100000 in
theorem c_X7_isPart (l : Launch) (D : va_G) (cy : Nat → ClassId) (ad adK adV : Nat → Nat) (M : Mm) (a0 : Int32) (res : Mm × Int32) (h : f_X7_isPart M a0 = some res) : Met l yX7_isPart (wU yX7_isPart cX7_isPart 1 (some .boolean)) rmX7_isPart (va_Pc [.int a0] (Pre D cy shM ad nM adK adV M)) (va_Qi (fun r (M2 : Mm) => r = res.2 ∧ M2 = res.1) (Pre D cy shM ad nM adK adV) (Aw ad nM)) 0 0 (Aw ad nM) := by
  refine Met.ofW (cc := cX7_isPart) (maxL := 1) (ret := (some .boolean)) (by decide) rfl ?_
  intro p e s m args below meth c s₁ B hml hv
  obtain ⟨hargs, hPre⟩ := hv
  have hx := B.exec
  have hb := B.bytes
  have hr := B.returns
  have hts := atoms_spec (ws := wU yX7_isPart cX7_isPart 1 (some .boolean)) B.pre
  have hq : ∀ w ∈ gW, w.before args s = true := fun w hw => hts w (List.mem_cons_of_mem _ hw)
  have hcm : ∀ w ∈ gW, w ∈ wU yX7_isPart cX7_isPart 1 (some .boolean) := fun w hw => List.mem_cons_of_mem _ hw
  have hown : s.vm.findClass RX7 = some m.cls := findClass_of_methodNamed B.named
  have hlocks := B.notSynchronized
  have hF : CallFix p m c cX7_isPart 1 s args (wU yX7_isPart cX7_isPart 1 (some .boolean)) RX7 := ⟨hx, hb, hml, hown, hts⟩
  have hK := hPre.2.1
  have hZ := hPre.2.2.2
  have hw : Wd D cy shM ad nM (Aw ad nM) s.heap M s.heap [] := ⟨hPre.1, hPre.2.2.1, va_S.rf⟩
  rw [show entryFrame m args 1 = entryFrame m ([.int a0] : List Value).toArray 1 from by rw [hargs]]
  have hl := lv_entry ([.int a0]) (n := 1) (Nat.le_of_ble_eq_true rfl)
  rw [lg_entry_eq]
  generalize (lg_sl ([.int a0]) ++ List.replicate (1 - (lg_sl ([.int a0])).length) Slot.unset).toArray = ls at hl ⊢
  have hl : lv_has ls 1 [(0, .int a0)] := hl
  unfold f_X7_isPart at h
  refine lv_iload_n hx hb dX7_isPart_0 rfl (lv_at hl 0 rfl) ?_
  refine lv_iconst (v := (0 : Int32)) hx hb dX7_isPart_1 (by decide) ?_
  refine lv_iconst (v := (1 : Int32)) hx hb dX7_isPart_2 (by decide) ?_
  replace h := bd_some h
  obtain ⟨r1, er1, h⟩ := h
  refine r_callSi (As := [.int a0, .int (0 : Int32), .int (1 : Int32)]) (rest := []) hF (c_X7_in l D cy ad adK adV M a0 (0 : Int32) (1 : Int32) r1 er1) (gW_goodS hcm qw987 qw985 qw986 qw68) hdX7_in ⟨Nat.le_of_ble_eq_true rfl, Nat.le_of_ble_eq_true rfl⟩ rfl rfl hZ hK hw rfl hl.1 rfl (Nat.le_of_ble_eq_true rfl) ⟨Nat.zero_le _, Nat.zero_le _⟩ dX7_isPart_3 (fun H locs hw => ?_)
  replace h := gd_some h
  obtain ⟨z2, h⟩ := h
  exact r_iret hx hb hr (nar_bz z2) hlocks hZ hK hw h dX7_isPart_6
theorem dX7_gets_0 : decode cX7_gets 0 = .ok (.aload_n 0, 1) := by decide +kernel
theorem dX7_gets_1 : decode cX7_gets 1 = .ok (.iload_n 1, 1) := by decide +kernel
theorem dX7_gets_2 : decode cX7_gets 2 = .ok (.invokevirtual 131, 3) := by decide +kernel
theorem dX7_gets_5 : decode cX7_gets 5 = .ok (.ifCond .eq 18, 3) := by decide +kernel
theorem dX7_gets_8 : decode cX7_gets 8 = .ok (.aload_n 0, 1) := by decide +kernel
theorem dX7_gets_9 : decode cX7_gets 9 = .ok (.iload_n 2, 1) := by decide +kernel
theorem dX7_gets_10 : decode cX7_gets 10 = .ok (.invokevirtual 121, 3) := by decide +kernel
theorem dX7_gets_13 : decode cX7_gets 13 = .ok (.ifCond .eq 10, 3) := by decide +kernel
theorem dX7_gets_16 : decode cX7_gets 16 = .ok (.iload_n 3, 1) := by decide +kernel
theorem dX7_gets_17 : decode cX7_gets 17 = .ok (.invokestatic 263, 3) := by decide +kernel
theorem dX7_gets_20 : decode cX7_gets 20 = .ok (.ifCond .ne 10, 3) := by decide +kernel
theorem dX7_gets_23 : decode cX7_gets 23 = .ok (.aload_n 0, 1) := by decide +kernel
theorem dX7_gets_24 : decode cX7_gets 24 = .ok (.iconst 0, 1) := by decide +kernel
theorem dX7_gets_25 : decode cX7_gets 25 = .ok (.invokevirtual 115, 3) := by decide +kernel
theorem dX7_gets_28 : decode cX7_gets 28 = .ok (.i2l, 1) := by decide +kernel
theorem dX7_gets_29 : decode cX7_gets 29 = .ok (.lreturn, 1) := by decide +kernel
theorem dX7_gets_30 : decode cX7_gets 30 = .ok (.aload_n 0, 1) := by decide +kernel
theorem dX7_gets_31 : decode cX7_gets 31 = .ok (.invokevirtual 266, 3) := by decide +kernel
theorem dX7_gets_34 : decode cX7_gets 34 = .ok (.lstore 4, 2) := by decide +kernel
theorem dX7_gets_36 : decode cX7_gets 36 = .ok (.aload_n 0, 1) := by decide +kernel
theorem dX7_gets_37 : decode cX7_gets 37 = .ok (.getfield 29, 3) := by decide +kernel
theorem dX7_gets_40 : decode cX7_gets 40 = .ok (.bipush 6, 2) := by decide +kernel
theorem dX7_gets_42 : decode cX7_gets 42 = .ok (.iload_n 1, 1) := by decide +kernel
theorem dX7_gets_43 : decode cX7_gets 43 = .ok (.imul, 1) := by decide +kernel
theorem dX7_gets_44 : decode cX7_gets 44 = .ok (.iload_n 2, 1) := by decide +kernel
theorem dX7_gets_45 : decode cX7_gets 45 = .ok (.iadd, 1) := by decide +kernel
theorem dX7_gets_46 : decode cX7_gets 46 = .ok (.laload, 1) := by decide +kernel
theorem dX7_gets_47 : decode cX7_gets 47 = .ok (.lload 4, 2) := by decide +kernel
theorem dX7_gets_49 : decode cX7_gets 49 = .ok (.iload_n 3, 1) := by decide +kernel
theorem dX7_gets_50 : decode cX7_gets 50 = .ok (.invokestatic 270, 3) := by decide +kernel
theorem dX7_gets_53 : decode cX7_gets 53 = .ok (.lreturn, 1) := by decide +kernel
set_option maxHeartbeats 4000000 in
set_option maxRecDepth 100000 in
theorem c_X7_gets (l : Launch) (D : va_G) (cy : Nat → ClassId) (ad adK adV : Nat → Nat) (M : Mm) (o0 : Nat) (a1 : Int32) (a2 : Int32) (a3 : Int32) (res : Mm × Int64) (h : f_X7_gets M o0 a1 a2 a3 = some res) : Met l yX7_gets (wU yX7_gets cX7_gets 6 (some .long)) rmX7_gets (va_Pc [.ref (ad o0), .int a1, .int a2, .int a3] (Pre D cy shM ad nM adK adV M)) (va_Ql (fun r (M2 : Mm) => r = res.2 ∧ M2 = res.1) (Pre D cy shM ad nM adK adV) (Aw ad nM)) 0 0 (Aw ad nM) := by
  refine Met.ofW (cc := cX7_gets) (maxL := 6) (ret := (some .long)) (by decide) rfl ?_
  intro p e s m args below meth c s₁ B hml hv
  obtain ⟨hargs, hPre⟩ := hv
  have hx := B.exec
  have hb := B.bytes
  have hr := B.returns
  have hts := atoms_spec (ws := wU yX7_gets cX7_gets 6 (some .long)) B.pre
  have hq : ∀ w ∈ gW, w.before args s = true := fun w hw => hts w (List.mem_cons_of_mem _ hw)
  have hcm : ∀ w ∈ gW, w ∈ wU yX7_gets cX7_gets 6 (some .long) := fun w hw => List.mem_cons_of_mem _ hw
  have hown : s.vm.findClass RX7 = some m.cls := findClass_of_methodNamed B.named
  have hlocks := B.notSynchronized
  have hF : CallFix p m c cX7_gets 6 s args (wU yX7_gets cX7_gets 6 (some .long)) RX7 := ⟨hx, hb, hml, hown, hts⟩
  have hK := hPre.2.1
  have hZ := hPre.2.2.2
  have hw : Wd D cy shM ad nM (Aw ad nM) s.heap M s.heap [] := ⟨hPre.1, hPre.2.2.1, va_S.rf⟩
  have iw7 : ∀ w ∈ u_ws RX7 TX7 30, w ∈ wU yX7_gets cX7_gets 6 (some .long) := fun w hw => List.mem_cons_of_mem _ (iX7 w hw)
  rw [show entryFrame m args 6 = entryFrame m ([.ref (ad o0), .int a1, .int a2, .int a3] : List Value).toArray 6 from by rw [hargs]]
  have hl := lv_entry ([.ref (ad o0), .int a1, .int a2, .int a3]) (n := 6) (Nat.le_of_ble_eq_true rfl)
  rw [lg_entry_eq]
  generalize (lg_sl ([.ref (ad o0), .int a1, .int a2, .int a3]) ++ List.replicate (6 - (lg_sl ([.ref (ad o0), .int a1, .int a2, .int a3])).length) Slot.unset).toArray = ls at hl ⊢
  have hl : lv_has ls 6 [(0, .ref (ad o0)), (1, .int a1), (2, .int a2), (3, .int a3)] := hl
  have hb23 : ∀ (M : Mm) (x0 : Nat), f_X7_gets_b23 M x0 = some res → ∀ (H : Heap) (locs : List Loc) (ls : Array Slot), Wd D cy shM ad nM (Aw ad nM) s.heap M H locs → lv_has ls 6 [(0, .ref (ad x0))] → W p l e (headSpec (wU yX7_gets cX7_gets 6 (some .long)) rmX7_gets).room s m args below meth c H locs 0 0 (QL D cy shM ad nM adK adV below args s res) (F0 m 23 ls []) := by
    intro M x0 h H locs ls hw hl
    unfold f_X7_gets_b23 at h
    refine lv_aload_n hx hb dX7_gets_23 rfl (lv_at hl 0 rfl) ?_
    refine lv_iconst (v := (0 : Int32)) hx hb dX7_gets_24 (by decide) ?_
    replace h := gd_some h
    obtain ⟨g2, h⟩ := h
    replace h := bd_some h
    obtain ⟨r1, er1, h⟩ := h
    refine r_callVi (As := [.int (0 : Int32)]) (rest := []) hF (c_X7_finding l D cy ad adK adV M x0 (0 : Int32) r1 er1) (gW_goodV hcm qw991 qw988 qw990 qw19 qw68) hdX7_finding rfl ⟨Nat.le_of_ble_eq_true rfl, Nat.le_of_ble_eq_true rfl⟩ rfl rfl hZ hK hw g2 (by decide) rfl rfl hl.1 rfl (Nat.le_of_ble_eq_true rfl) ⟨Nat.zero_le _, Nat.zero_le _⟩ dX7_gets_25 (fun H locs hw => ?_)
    refine lv_i2l (v := r1.2.toInt64) hx hb dX7_gets_28 rfl ?_
    exact r_lret hx hb hr hlocks hZ hK hw h dX7_gets_29
  unfold f_X7_gets at h
  refine lv_aload_n hx hb dX7_gets_0 rfl (lv_at hl 0 rfl) ?_
  refine lv_iload_n hx hb dX7_gets_1 rfl (lv_at hl 1 rfl) ?_
  replace h := gd_some h
  obtain ⟨g4, h⟩ := h
  replace h := bd_some h
  obtain ⟨r3, er3, h⟩ := h
  refine r_callVi (As := [.int a1]) (rest := []) hF (c_X7_isGame l D cy ad adK adV M o0 a1 r3 er3) (gW_goodV hcm qw1052 qw1049 qw1051 qw30 qw68) hdX7_isGame rfl ⟨Nat.le_of_ble_eq_true rfl, Nat.le_of_ble_eq_true rfl⟩ rfl rfl hZ hK hw g4 (by decide) rfl rfl hl.1 rfl (Nat.le_of_ble_eq_true rfl) ⟨Nat.zero_le _, Nat.zero_le _⟩ dX7_gets_2 (fun H locs hw => ?_)
  refine lv_if_eq (tgt := 23) hx hb dX7_gets_5 (by decide) (fun c5 => ?_) (fun c5 => ?_)
  · replace h := if_some_t c5 h
    exact hb23 _ _ h _ _ _ hw (lv_sub hl [0] rfl)
  · replace h := if_some_f c5 h
    refine lv_aload_n hx hb dX7_gets_8 rfl (lv_at hl 0 rfl) ?_
    refine lv_iload_n hx hb dX7_gets_9 rfl (lv_at hl 2 rfl) ?_
    replace h := bd_some h
    obtain ⟨r6, er6, h⟩ := h
    refine r_callVi (As := [.int a2]) (rest := []) hF (c_X7_isSide l D cy ad adK adV r3.1 o0 a2 r6 er6) (gW_goodV hcm qw1004 qw1001 qw1003 qw21 qw68) hdX7_isSide rfl ⟨Nat.le_of_ble_eq_true rfl, Nat.le_of_ble_eq_true rfl⟩ rfl rfl hZ hK hw g4 (by decide) rfl rfl hl.1 rfl (Nat.le_of_ble_eq_true rfl) ⟨Nat.zero_le _, Nat.zero_le _⟩ dX7_gets_10 (fun H locs hw => ?_)
    refine lv_if_eq (tgt := 23) hx hb dX7_gets_13 (by decide) (fun c7 => ?_) (fun c7 => ?_)
    · replace h := if_some_t c7 h
      exact hb23 _ _ h _ _ _ hw (lv_sub hl [0] rfl)
    · replace h := if_some_f c7 h
      refine lv_iload_n hx hb dX7_gets_16 rfl (lv_at hl 3 rfl) ?_
      replace h := bd_some h
      obtain ⟨r8, er8, h⟩ := h
      refine r_callSi (As := [.int a3]) (rest := []) hF (c_X7_isPart l D cy ad adK adV r6.1 a3 r8 er8) (gW_goodS hcm qw1208 qw1206 qw1207 qw68) hdX7_isPart ⟨Nat.le_of_ble_eq_true rfl, Nat.le_of_ble_eq_true rfl⟩ rfl rfl hZ hK hw rfl hl.1 rfl (Nat.le_of_ble_eq_true rfl) ⟨Nat.zero_le _, Nat.zero_le _⟩ dX7_gets_17 (fun H locs hw => ?_)
      refine lv_if_ne (tgt := 30) hx hb dX7_gets_20 (by decide) (fun c9 => ?_) (fun c9 => ?_)
      · replace h := if_some_f c9 h
        refine lv_aload_n hx hb dX7_gets_30 rfl (lv_at hl 0 rfl) ?_
        replace h := bd_some h
        obtain ⟨r10, er10, h⟩ := h
        refine r_callVl (As := []) (rest := []) hF (c_X7_findWays l D cy ad adK adV r8.1 o0 r10 er10) (gW_goodV hcm qw1212 qw1209 qw1211 qw53 qw68) hdX7_findWays rfl ⟨Nat.le_of_ble_eq_true rfl, Nat.le_of_ble_eq_true rfl⟩ rfl rfl hZ hK hw g4 (by decide) rfl rfl hl.1 rfl (Nat.le_of_ble_eq_true rfl) ⟨Nat.zero_le _, Nat.zero_le _⟩ dX7_gets_31 (fun H locs hw => ?_)
        refine lv_lstore (lv' := [(4, .long r10.2), (0, .ref (ad o0)), (1, .int a1), (2, .int a2), (3, .int a3)]) hx hb dX7_gets_34 hl (by decide) rfl (fun ls hl => ?_)
        refine lv_aload_n hx hb dX7_gets_36 rfl (lv_at hl 1 rfl) ?_
        replace h := bd_some h
        obtain ⟨q11, eq11, h⟩ := h
        refine r_getR hx hb hts iw7 hown hK hw o0 16 g4 (by decide) rfl (by decide) rfl (hq _ qw906) (fun _ h9 => h9) dX7_gets_37 eq11 ?_
        refine lv_bipush (v := (6 : Int32)) hx hb dX7_gets_40 (by decide) ?_
        refine lv_iload_n hx hb dX7_gets_42 rfl (lv_at hl 2 rfl) ?_
        refine lv_imul hx hb dX7_gets_43 ?_
        refine lv_iload_n hx hb dX7_gets_44 rfl (lv_at hl 3 rfl) ?_
        refine lv_iadd hx hb dX7_gets_45 ?_
        replace h := gd_some h
        obtain ⟨g12, h⟩ := h
        refine r_lald hx hb hK hw q11 g12 dX7_gets_46 ?_
        refine lv_lload hx hb dX7_gets_47 (lv_at hl 0 rfl) ?_
        refine lv_iload_n hx hb dX7_gets_49 rfl (lv_at hl 4 rfl) ?_
        replace h := bd_some h
        obtain ⟨r13, er13, h⟩ := h
        refine r_callSl (As := [.long (r10.1.2.1 q11 (((6 : Int32) * a1) + a2).toNatClampNeg), .long r10.2, .int a3]) (rest := []) hF (c_X7_told l D cy ad adK adV r10.1 (r10.1.2.1 q11 (((6 : Int32) * a1) + a2).toNatClampNeg) r10.2 a3 r13 er13) (gW_goodS hcm qw1224 qw1222 qw1223 qw68) hdX7_told ⟨Nat.le_of_ble_eq_true rfl, Nat.le_of_ble_eq_true rfl⟩ rfl rfl hZ hK hw rfl hl.1 rfl (Nat.le_of_ble_eq_true rfl) ⟨Nat.zero_le _, Nat.zero_le _⟩ dX7_gets_50 (fun H locs hw => ?_)
        exact r_lret hx hb hr hlocks hZ hK hw h dX7_gets_53
      · replace h := if_some_t c9 h
        exact hb23 _ _ h _ _ _ hw (lv_sub hl [0] rfl)
theorem dX7_first_0 : decode cX7_first 0 = .ok (.aload_n 0, 1) := by decide +kernel
theorem dX7_first_1 : decode cX7_first 1 = .ok (.iload_n 1, 1) := by decide +kernel
theorem dX7_first_2 : decode cX7_first 2 = .ok (.invokevirtual 121, 3) := by decide +kernel
theorem dX7_first_5 : decode cX7_first 5 = .ok (.ifCond .eq 10, 3) := by decide +kernel
theorem dX7_first_8 : decode cX7_first 8 = .ok (.iload_n 2, 1) := by decide +kernel
theorem dX7_first_9 : decode cX7_first 9 = .ok (.invokestatic 263, 3) := by decide +kernel
theorem dX7_first_12 : decode cX7_first 12 = .ok (.ifCond .ne 10, 3) := by decide +kernel
theorem dX7_first_15 : decode cX7_first 15 = .ok (.aload_n 0, 1) := by decide +kernel
theorem dX7_first_16 : decode cX7_first 16 = .ok (.iconst 0, 1) := by decide +kernel
theorem dX7_first_17 : decode cX7_first 17 = .ok (.invokevirtual 115, 3) := by decide +kernel
theorem dX7_first_20 : decode cX7_first 20 = .ok (.i2l, 1) := by decide +kernel
theorem dX7_first_21 : decode cX7_first 21 = .ok (.lreturn, 1) := by decide +kernel
theorem dX7_first_22 : decode cX7_first 22 = .ok (.aload_n 0, 1) := by decide +kernel
theorem dX7_first_23 : decode cX7_first 23 = .ok (.invokevirtual 266, 3) := by decide +kernel
theorem dX7_first_26 : decode cX7_first 26 = .ok (.lstore_n 3, 1) := by decide +kernel
theorem dX7_first_27 : decode cX7_first 27 = .ok (.aload_n 0, 1) := by decide +kernel
theorem dX7_first_28 : decode cX7_first 28 = .ok (.getfield 36, 3) := by decide +kernel
theorem dX7_first_31 : decode cX7_first 31 = .ok (.iload_n 1, 1) := by decide +kernel
theorem dX7_first_32 : decode cX7_first 32 = .ok (.laload, 1) := by decide +kernel
theorem dX7_first_33 : decode cX7_first 33 = .ok (.lload_n 3, 1) := by decide +kernel
theorem dX7_first_34 : decode cX7_first 34 = .ok (.iload_n 2, 1) := by decide +kernel
theorem dX7_first_35 : decode cX7_first 35 = .ok (.invokestatic 270, 3) := by decide +kernel
theorem dX7_first_38 : decode cX7_first 38 = .ok (.lreturn, 1) := by decide +kernel
set_option maxHeartbeats 4000000 in
set_option maxRecDepth 100000 in
theorem c_X7_first (l : Launch) (D : va_G) (cy : Nat → ClassId) (ad adK adV : Nat → Nat) (M : Mm) (o0 : Nat) (a1 : Int32) (a2 : Int32) (res : Mm × Int64) (h : f_X7_first M o0 a1 a2 = some res) : Met l yX7_first (wU yX7_first cX7_first 5 (some .long)) rmX7_first (va_Pc [.ref (ad o0), .int a1, .int a2] (Pre D cy shM ad nM adK adV M)) (va_Ql (fun r (M2 : Mm) => r = res.2 ∧ M2 = res.1) (Pre D cy shM ad nM adK adV) (Aw ad nM)) 0 0 (Aw ad nM) := by
  refine Met.ofW (cc := cX7_first) (maxL := 5) (ret := (some .long)) (by decide) rfl ?_
  intro p e s m args below meth c s₁ B hml hv
  obtain ⟨hargs, hPre⟩ := hv
  have hx := B.exec
  have hb := B.bytes
  have hr := B.returns
  have hts := atoms_spec (ws := wU yX7_first cX7_first 5 (some .long)) B.pre
  have hq : ∀ w ∈ gW, w.before args s = true := fun w hw => hts w (List.mem_cons_of_mem _ hw)
  have hcm : ∀ w ∈ gW, w ∈ wU yX7_first cX7_first 5 (some .long) := fun w hw => List.mem_cons_of_mem _ hw
  have hown : s.vm.findClass RX7 = some m.cls := findClass_of_methodNamed B.named
  have hlocks := B.notSynchronized
  have hF : CallFix p m c cX7_first 5 s args (wU yX7_first cX7_first 5 (some .long)) RX7 := ⟨hx, hb, hml, hown, hts⟩
  have hK := hPre.2.1
  have hZ := hPre.2.2.2
  have hw : Wd D cy shM ad nM (Aw ad nM) s.heap M s.heap [] := ⟨hPre.1, hPre.2.2.1, va_S.rf⟩
  have iw7 : ∀ w ∈ u_ws RX7 TX7 30, w ∈ wU yX7_first cX7_first 5 (some .long) := fun w hw => List.mem_cons_of_mem _ (iX7 w hw)
  rw [show entryFrame m args 5 = entryFrame m ([.ref (ad o0), .int a1, .int a2] : List Value).toArray 5 from by rw [hargs]]
  have hl := lv_entry ([.ref (ad o0), .int a1, .int a2]) (n := 5) (Nat.le_of_ble_eq_true rfl)
  rw [lg_entry_eq]
  generalize (lg_sl ([.ref (ad o0), .int a1, .int a2]) ++ List.replicate (5 - (lg_sl ([.ref (ad o0), .int a1, .int a2])).length) Slot.unset).toArray = ls at hl ⊢
  have hl : lv_has ls 5 [(0, .ref (ad o0)), (1, .int a1), (2, .int a2)] := hl
  have hb15 : ∀ (M : Mm) (x0 : Nat), f_X7_first_b15 M x0 = some res → ∀ (H : Heap) (locs : List Loc) (ls : Array Slot), Wd D cy shM ad nM (Aw ad nM) s.heap M H locs → lv_has ls 5 [(0, .ref (ad x0))] → W p l e (headSpec (wU yX7_first cX7_first 5 (some .long)) rmX7_first).room s m args below meth c H locs 0 0 (QL D cy shM ad nM adK adV below args s res) (F0 m 15 ls []) := by
    intro M x0 h H locs ls hw hl
    unfold f_X7_first_b15 at h
    refine lv_aload_n hx hb dX7_first_15 rfl (lv_at hl 0 rfl) ?_
    refine lv_iconst (v := (0 : Int32)) hx hb dX7_first_16 (by decide) ?_
    replace h := gd_some h
    obtain ⟨g2, h⟩ := h
    replace h := bd_some h
    obtain ⟨r1, er1, h⟩ := h
    refine r_callVi (As := [.int (0 : Int32)]) (rest := []) hF (c_X7_finding l D cy ad adK adV M x0 (0 : Int32) r1 er1) (gW_goodV hcm qw991 qw988 qw990 qw19 qw68) hdX7_finding rfl ⟨Nat.le_of_ble_eq_true rfl, Nat.le_of_ble_eq_true rfl⟩ rfl rfl hZ hK hw g2 (by decide) rfl rfl hl.1 rfl (Nat.le_of_ble_eq_true rfl) ⟨Nat.zero_le _, Nat.zero_le _⟩ dX7_first_17 (fun H locs hw => ?_)
    refine lv_i2l (v := r1.2.toInt64) hx hb dX7_first_20 rfl ?_
    exact r_lret hx hb hr hlocks hZ hK hw h dX7_first_21
  unfold f_X7_first at h
  refine lv_aload_n hx hb dX7_first_0 rfl (lv_at hl 0 rfl) ?_
  refine lv_iload_n hx hb dX7_first_1 rfl (lv_at hl 1 rfl) ?_
  replace h := gd_some h
  obtain ⟨g4, h⟩ := h
  replace h := bd_some h
  obtain ⟨r3, er3, h⟩ := h
  refine r_callVi (As := [.int a1]) (rest := []) hF (c_X7_isSide l D cy ad adK adV M o0 a1 r3 er3) (gW_goodV hcm qw1004 qw1001 qw1003 qw21 qw68) hdX7_isSide rfl ⟨Nat.le_of_ble_eq_true rfl, Nat.le_of_ble_eq_true rfl⟩ rfl rfl hZ hK hw g4 (by decide) rfl rfl hl.1 rfl (Nat.le_of_ble_eq_true rfl) ⟨Nat.zero_le _, Nat.zero_le _⟩ dX7_first_2 (fun H locs hw => ?_)
  refine lv_if_eq (tgt := 15) hx hb dX7_first_5 (by decide) (fun c5 => ?_) (fun c5 => ?_)
  · replace h := if_some_t c5 h
    exact hb15 _ _ h _ _ _ hw (lv_sub hl [0] rfl)
  · replace h := if_some_f c5 h
    refine lv_iload_n hx hb dX7_first_8 rfl (lv_at hl 2 rfl) ?_
    replace h := bd_some h
    obtain ⟨r6, er6, h⟩ := h
    refine r_callSi (As := [.int a2]) (rest := []) hF (c_X7_isPart l D cy ad adK adV r3.1 a2 r6 er6) (gW_goodS hcm qw1208 qw1206 qw1207 qw68) hdX7_isPart ⟨Nat.le_of_ble_eq_true rfl, Nat.le_of_ble_eq_true rfl⟩ rfl rfl hZ hK hw rfl hl.1 rfl (Nat.le_of_ble_eq_true rfl) ⟨Nat.zero_le _, Nat.zero_le _⟩ dX7_first_9 (fun H locs hw => ?_)
    refine lv_if_ne (tgt := 22) hx hb dX7_first_12 (by decide) (fun c7 => ?_) (fun c7 => ?_)
    · replace h := if_some_f c7 h
      refine lv_aload_n hx hb dX7_first_22 rfl (lv_at hl 0 rfl) ?_
      replace h := bd_some h
      obtain ⟨r8, er8, h⟩ := h
      refine r_callVl (As := []) (rest := []) hF (c_X7_findWays l D cy ad adK adV r6.1 o0 r8 er8) (gW_goodV hcm qw1212 qw1209 qw1211 qw53 qw68) hdX7_findWays rfl ⟨Nat.le_of_ble_eq_true rfl, Nat.le_of_ble_eq_true rfl⟩ rfl rfl hZ hK hw g4 (by decide) rfl rfl hl.1 rfl (Nat.le_of_ble_eq_true rfl) ⟨Nat.zero_le _, Nat.zero_le _⟩ dX7_first_23 (fun H locs hw => ?_)
      refine lv_lstore_n (lv' := [(3, .long r8.2), (0, .ref (ad o0)), (1, .int a1), (2, .int a2)]) hx hb dX7_first_26 rfl hl (by decide) rfl (fun ls hl => ?_)
      refine lv_aload_n hx hb dX7_first_27 rfl (lv_at hl 1 rfl) ?_
      replace h := bd_some h
      obtain ⟨q9, eq9, h⟩ := h
      refine r_getR hx hb hts iw7 hown hK hw o0 18 g4 (by decide) rfl (by decide) rfl (hq _ qw908) (fun _ h9 => h9) dX7_first_28 eq9 ?_
      refine lv_iload_n hx hb dX7_first_31 rfl (lv_at hl 2 rfl) ?_
      replace h := gd_some h
      obtain ⟨g10, h⟩ := h
      refine r_lald hx hb hK hw q9 g10 dX7_first_32 ?_
      refine lv_lload_n hx hb dX7_first_33 rfl (lv_at hl 0 rfl) ?_
      refine lv_iload_n hx hb dX7_first_34 rfl (lv_at hl 3 rfl) ?_
      replace h := bd_some h
      obtain ⟨r11, er11, h⟩ := h
      refine r_callSl (As := [.long (r8.1.2.1 q9 a1.toNatClampNeg), .long r8.2, .int a2]) (rest := []) hF (c_X7_told l D cy ad adK adV r8.1 (r8.1.2.1 q9 a1.toNatClampNeg) r8.2 a2 r11 er11) (gW_goodS hcm qw1224 qw1222 qw1223 qw68) hdX7_told ⟨Nat.le_of_ble_eq_true rfl, Nat.le_of_ble_eq_true rfl⟩ rfl rfl hZ hK hw rfl hl.1 rfl (Nat.le_of_ble_eq_true rfl) ⟨Nat.zero_le _, Nat.zero_le _⟩ dX7_first_35 (fun H locs hw => ?_)
      exact r_lret hx hb hr hlocks hZ hK hw h dX7_first_38
    · replace h := if_some_t c7 h
      exact hb15 _ _ h _ _ _ hw (lv_sub hl [0] rfl)
theorem dX7_mean_0 : decode cX7_mean 0 = .ok (.aload_n 0, 1) := by decide +kernel
theorem dX7_mean_1 : decode cX7_mean 1 = .ok (.iload_n 1, 1) := by decide +kernel
theorem dX7_mean_2 : decode cX7_mean 2 = .ok (.invokevirtual 121, 3) := by decide +kernel
theorem dX7_mean_5 : decode cX7_mean 5 = .ok (.ifCond .eq 10, 3) := by decide +kernel
theorem dX7_mean_8 : decode cX7_mean 8 = .ok (.iload_n 2, 1) := by decide +kernel
theorem dX7_mean_9 : decode cX7_mean 9 = .ok (.invokestatic 263, 3) := by decide +kernel
theorem dX7_mean_12 : decode cX7_mean 12 = .ok (.ifCond .ne 10, 3) := by decide +kernel
theorem dX7_mean_15 : decode cX7_mean 15 = .ok (.aload_n 0, 1) := by decide +kernel
theorem dX7_mean_16 : decode cX7_mean 16 = .ok (.iconst 0, 1) := by decide +kernel
theorem dX7_mean_17 : decode cX7_mean 17 = .ok (.invokevirtual 115, 3) := by decide +kernel
theorem dX7_mean_20 : decode cX7_mean 20 = .ok (.i2l, 1) := by decide +kernel
theorem dX7_mean_21 : decode cX7_mean 21 = .ok (.lreturn, 1) := by decide +kernel
theorem dX7_mean_22 : decode cX7_mean 22 = .ok (.aload_n 0, 1) := by decide +kernel
theorem dX7_mean_23 : decode cX7_mean 23 = .ok (.invokevirtual 266, 3) := by decide +kernel
theorem dX7_mean_26 : decode cX7_mean 26 = .ok (.lstore_n 3, 1) := by decide +kernel
theorem dX7_mean_27 : decode cX7_mean 27 = .ok (.aload_n 0, 1) := by decide +kernel
theorem dX7_mean_28 : decode cX7_mean 28 = .ok (.getfield 39, 3) := by decide +kernel
theorem dX7_mean_31 : decode cX7_mean 31 = .ok (.iload_n 1, 1) := by decide +kernel
theorem dX7_mean_32 : decode cX7_mean 32 = .ok (.laload, 1) := by decide +kernel
theorem dX7_mean_33 : decode cX7_mean 33 = .ok (.lload_n 3, 1) := by decide +kernel
theorem dX7_mean_34 : decode cX7_mean 34 = .ok (.iload_n 2, 1) := by decide +kernel
theorem dX7_mean_35 : decode cX7_mean 35 = .ok (.invokestatic 270, 3) := by decide +kernel
theorem dX7_mean_38 : decode cX7_mean 38 = .ok (.lreturn, 1) := by decide +kernel
set_option maxHeartbeats 4000000 in
set_option maxRecDepth 100000 in
theorem c_X7_mean (l : Launch) (D : va_G) (cy : Nat → ClassId) (ad adK adV : Nat → Nat) (M : Mm) (o0 : Nat) (a1 : Int32) (a2 : Int32) (res : Mm × Int64) (h : f_X7_mean M o0 a1 a2 = some res) : Met l yX7_mean (wU yX7_mean cX7_mean 5 (some .long)) rmX7_mean (va_Pc [.ref (ad o0), .int a1, .int a2] (Pre D cy shM ad nM adK adV M)) (va_Ql (fun r (M2 : Mm) => r = res.2 ∧ M2 = res.1) (Pre D cy shM ad nM adK adV) (Aw ad nM)) 0 0 (Aw ad nM) := by
  refine Met.ofW (cc := cX7_mean) (maxL := 5) (ret := (some .long)) (by decide) rfl ?_
  intro p e s m args below meth c s₁ B hml hv
  obtain ⟨hargs, hPre⟩ := hv
  have hx := B.exec
  have hb := B.bytes
  have hr := B.returns
  have hts := atoms_spec (ws := wU yX7_mean cX7_mean 5 (some .long)) B.pre
  have hq : ∀ w ∈ gW, w.before args s = true := fun w hw => hts w (List.mem_cons_of_mem _ hw)
  have hcm : ∀ w ∈ gW, w ∈ wU yX7_mean cX7_mean 5 (some .long) := fun w hw => List.mem_cons_of_mem _ hw
  have hown : s.vm.findClass RX7 = some m.cls := findClass_of_methodNamed B.named
  have hlocks := B.notSynchronized
  have hF : CallFix p m c cX7_mean 5 s args (wU yX7_mean cX7_mean 5 (some .long)) RX7 := ⟨hx, hb, hml, hown, hts⟩
  have hK := hPre.2.1
  have hZ := hPre.2.2.2
  have hw : Wd D cy shM ad nM (Aw ad nM) s.heap M s.heap [] := ⟨hPre.1, hPre.2.2.1, va_S.rf⟩
  have iw7 : ∀ w ∈ u_ws RX7 TX7 30, w ∈ wU yX7_mean cX7_mean 5 (some .long) := fun w hw => List.mem_cons_of_mem _ (iX7 w hw)
  rw [show entryFrame m args 5 = entryFrame m ([.ref (ad o0), .int a1, .int a2] : List Value).toArray 5 from by rw [hargs]]
  have hl := lv_entry ([.ref (ad o0), .int a1, .int a2]) (n := 5) (Nat.le_of_ble_eq_true rfl)
  rw [lg_entry_eq]
  generalize (lg_sl ([.ref (ad o0), .int a1, .int a2]) ++ List.replicate (5 - (lg_sl ([.ref (ad o0), .int a1, .int a2])).length) Slot.unset).toArray = ls at hl ⊢
  have hl : lv_has ls 5 [(0, .ref (ad o0)), (1, .int a1), (2, .int a2)] := hl
  have hb15 : ∀ (M : Mm) (x0 : Nat), f_X7_mean_b15 M x0 = some res → ∀ (H : Heap) (locs : List Loc) (ls : Array Slot), Wd D cy shM ad nM (Aw ad nM) s.heap M H locs → lv_has ls 5 [(0, .ref (ad x0))] → W p l e (headSpec (wU yX7_mean cX7_mean 5 (some .long)) rmX7_mean).room s m args below meth c H locs 0 0 (QL D cy shM ad nM adK adV below args s res) (F0 m 15 ls []) := by
    intro M x0 h H locs ls hw hl
    unfold f_X7_mean_b15 at h
    refine lv_aload_n hx hb dX7_mean_15 rfl (lv_at hl 0 rfl) ?_
    refine lv_iconst (v := (0 : Int32)) hx hb dX7_mean_16 (by decide) ?_
    replace h := gd_some h
    obtain ⟨g2, h⟩ := h
    replace h := bd_some h
    obtain ⟨r1, er1, h⟩ := h
    refine r_callVi (As := [.int (0 : Int32)]) (rest := []) hF (c_X7_finding l D cy ad adK adV M x0 (0 : Int32) r1 er1) (gW_goodV hcm qw991 qw988 qw990 qw19 qw68) hdX7_finding rfl ⟨Nat.le_of_ble_eq_true rfl, Nat.le_of_ble_eq_true rfl⟩ rfl rfl hZ hK hw g2 (by decide) rfl rfl hl.1 rfl (Nat.le_of_ble_eq_true rfl) ⟨Nat.zero_le _, Nat.zero_le _⟩ dX7_mean_17 (fun H locs hw => ?_)
    refine lv_i2l (v := r1.2.toInt64) hx hb dX7_mean_20 rfl ?_
    exact r_lret hx hb hr hlocks hZ hK hw h dX7_mean_21
  unfold f_X7_mean at h
  refine lv_aload_n hx hb dX7_mean_0 rfl (lv_at hl 0 rfl) ?_
  refine lv_iload_n hx hb dX7_mean_1 rfl (lv_at hl 1 rfl) ?_
  replace h := gd_some h
  obtain ⟨g4, h⟩ := h
  replace h := bd_some h
  obtain ⟨r3, er3, h⟩ := h
  refine r_callVi (As := [.int a1]) (rest := []) hF (c_X7_isSide l D cy ad adK adV M o0 a1 r3 er3) (gW_goodV hcm qw1004 qw1001 qw1003 qw21 qw68) hdX7_isSide rfl ⟨Nat.le_of_ble_eq_true rfl, Nat.le_of_ble_eq_true rfl⟩ rfl rfl hZ hK hw g4 (by decide) rfl rfl hl.1 rfl (Nat.le_of_ble_eq_true rfl) ⟨Nat.zero_le _, Nat.zero_le _⟩ dX7_mean_2 (fun H locs hw => ?_)
  refine lv_if_eq (tgt := 15) hx hb dX7_mean_5 (by decide) (fun c5 => ?_) (fun c5 => ?_)
  · replace h := if_some_t c5 h
    exact hb15 _ _ h _ _ _ hw (lv_sub hl [0] rfl)
  · replace h := if_some_f c5 h
    refine lv_iload_n hx hb dX7_mean_8 rfl (lv_at hl 2 rfl) ?_
    replace h := bd_some h
    obtain ⟨r6, er6, h⟩ := h
    refine r_callSi (As := [.int a2]) (rest := []) hF (c_X7_isPart l D cy ad adK adV r3.1 a2 r6 er6) (gW_goodS hcm qw1208 qw1206 qw1207 qw68) hdX7_isPart ⟨Nat.le_of_ble_eq_true rfl, Nat.le_of_ble_eq_true rfl⟩ rfl rfl hZ hK hw rfl hl.1 rfl (Nat.le_of_ble_eq_true rfl) ⟨Nat.zero_le _, Nat.zero_le _⟩ dX7_mean_9 (fun H locs hw => ?_)
    refine lv_if_ne (tgt := 22) hx hb dX7_mean_12 (by decide) (fun c7 => ?_) (fun c7 => ?_)
    · replace h := if_some_f c7 h
      refine lv_aload_n hx hb dX7_mean_22 rfl (lv_at hl 0 rfl) ?_
      replace h := bd_some h
      obtain ⟨r8, er8, h⟩ := h
      refine r_callVl (As := []) (rest := []) hF (c_X7_findWays l D cy ad adK adV r6.1 o0 r8 er8) (gW_goodV hcm qw1212 qw1209 qw1211 qw53 qw68) hdX7_findWays rfl ⟨Nat.le_of_ble_eq_true rfl, Nat.le_of_ble_eq_true rfl⟩ rfl rfl hZ hK hw g4 (by decide) rfl rfl hl.1 rfl (Nat.le_of_ble_eq_true rfl) ⟨Nat.zero_le _, Nat.zero_le _⟩ dX7_mean_23 (fun H locs hw => ?_)
      refine lv_lstore_n (lv' := [(3, .long r8.2), (0, .ref (ad o0)), (1, .int a1), (2, .int a2)]) hx hb dX7_mean_26 rfl hl (by decide) rfl (fun ls hl => ?_)
      refine lv_aload_n hx hb dX7_mean_27 rfl (lv_at hl 1 rfl) ?_
      replace h := bd_some h
      obtain ⟨q9, eq9, h⟩ := h
      refine r_getR hx hb hts iw7 hown hK hw o0 19 g4 (by decide) rfl (by decide) rfl (hq _ qw909) (fun _ h9 => h9) dX7_mean_28 eq9 ?_
      refine lv_iload_n hx hb dX7_mean_31 rfl (lv_at hl 2 rfl) ?_
      replace h := gd_some h
      obtain ⟨g10, h⟩ := h
      refine r_lald hx hb hK hw q9 g10 dX7_mean_32 ?_
      refine lv_lload_n hx hb dX7_mean_33 rfl (lv_at hl 0 rfl) ?_
      refine lv_iload_n hx hb dX7_mean_34 rfl (lv_at hl 3 rfl) ?_
      replace h := bd_some h
      obtain ⟨r11, er11, h⟩ := h
      refine r_callSl (As := [.long (r8.1.2.1 q9 a1.toNatClampNeg), .long r8.2, .int a2]) (rest := []) hF (c_X7_told l D cy ad adK adV r8.1 (r8.1.2.1 q9 a1.toNatClampNeg) r8.2 a2 r11 er11) (gW_goodS hcm qw1224 qw1222 qw1223 qw68) hdX7_told ⟨Nat.le_of_ble_eq_true rfl, Nat.le_of_ble_eq_true rfl⟩ rfl rfl hZ hK hw rfl hl.1 rfl (Nat.le_of_ble_eq_true rfl) ⟨Nat.zero_le _, Nat.zero_le _⟩ dX7_mean_35 (fun H locs hw => ?_)
      exact r_lret hx hb hr hlocks hZ hK hw h dX7_mean_38
    · replace h := if_some_t c7 h
      exact hb15 _ _ h _ _ _ hw (lv_sub hl [0] rfl)
theorem dX7_least_0 : decode cX7_least 0 = .ok (.aload_n 0, 1) := by decide +kernel
theorem dX7_least_1 : decode cX7_least 1 = .ok (.iload_n 1, 1) := by decide +kernel
theorem dX7_least_2 : decode cX7_least 2 = .ok (.invokevirtual 121, 3) := by decide +kernel
theorem dX7_least_5 : decode cX7_least 5 = .ok (.ifCond .eq 20, 3) := by decide +kernel
theorem dX7_least_8 : decode cX7_least 8 = .ok (.iload_n 2, 1) := by decide +kernel
theorem dX7_least_9 : decode cX7_least 9 = .ok (.iconst 0, 1) := by decide +kernel
theorem dX7_least_10 : decode cX7_least 10 = .ok (.bipush 99, 2) := by decide +kernel
theorem dX7_least_12 : decode cX7_least 12 = .ok (.invokestatic 67, 3) := by decide +kernel
theorem dX7_least_15 : decode cX7_least 15 = .ok (.ifCond .eq 10, 3) := by decide +kernel
theorem dX7_least_18 : decode cX7_least 18 = .ok (.iload_n 3, 1) := by decide +kernel
theorem dX7_least_19 : decode cX7_least 19 = .ok (.invokestatic 263, 3) := by decide +kernel
theorem dX7_least_22 : decode cX7_least 22 = .ok (.ifCond .ne 10, 3) := by decide +kernel
theorem dX7_least_25 : decode cX7_least 25 = .ok (.aload_n 0, 1) := by decide +kernel
theorem dX7_least_26 : decode cX7_least 26 = .ok (.iconst 0, 1) := by decide +kernel
theorem dX7_least_27 : decode cX7_least 27 = .ok (.invokevirtual 115, 3) := by decide +kernel
theorem dX7_least_30 : decode cX7_least 30 = .ok (.i2l, 1) := by decide +kernel
theorem dX7_least_31 : decode cX7_least 31 = .ok (.lreturn, 1) := by decide +kernel
theorem dX7_least_32 : decode cX7_least 32 = .ok (.aload_n 0, 1) := by decide +kernel
theorem dX7_least_33 : decode cX7_least 33 = .ok (.iload_n 2, 1) := by decide +kernel
theorem dX7_least_34 : decode cX7_least 34 = .ok (.putfield 251, 3) := by decide +kernel
theorem dX7_least_37 : decode cX7_least 37 = .ok (.aload_n 0, 1) := by decide +kernel
theorem dX7_least_38 : decode cX7_least 38 = .ok (.invokevirtual 266, 3) := by decide +kernel
theorem dX7_least_41 : decode cX7_least 41 = .ok (.lstore 4, 2) := by decide +kernel
theorem dX7_least_43 : decode cX7_least 43 = .ok (.aload_n 0, 1) := by decide +kernel
theorem dX7_least_44 : decode cX7_least 44 = .ok (.getfield 45, 3) := by decide +kernel
theorem dX7_least_47 : decode cX7_least 47 = .ok (.iload_n 1, 1) := by decide +kernel
theorem dX7_least_48 : decode cX7_least 48 = .ok (.laload, 1) := by decide +kernel
theorem dX7_least_49 : decode cX7_least 49 = .ok (.lload 4, 2) := by decide +kernel
theorem dX7_least_51 : decode cX7_least 51 = .ok (.iload_n 3, 1) := by decide +kernel
theorem dX7_least_52 : decode cX7_least 52 = .ok (.invokestatic 270, 3) := by decide +kernel
theorem dX7_least_55 : decode cX7_least 55 = .ok (.lreturn, 1) := by decide +kernel
set_option maxHeartbeats 4000000 in
set_option maxRecDepth 100000 in
theorem c_X7_least (l : Launch) (D : va_G) (cy : Nat → ClassId) (ad adK adV : Nat → Nat) (M : Mm) (o0 : Nat) (a1 : Int32) (a2 : Int32) (a3 : Int32) (res : Mm × Int64) (h : f_X7_least M o0 a1 a2 a3 = some res) : Met l yX7_least (wU yX7_least cX7_least 6 (some .long)) rmX7_least (va_Pc [.ref (ad o0), .int a1, .int a2, .int a3] (Pre D cy shM ad nM adK adV M)) (va_Ql (fun r (M2 : Mm) => r = res.2 ∧ M2 = res.1) (Pre D cy shM ad nM adK adV) (Aw ad nM)) 0 0 (Aw ad nM) := by
  refine Met.ofW (cc := cX7_least) (maxL := 6) (ret := (some .long)) (by decide) rfl ?_
  intro p e s m args below meth c s₁ B hml hv
  obtain ⟨hargs, hPre⟩ := hv
  have hx := B.exec
  have hb := B.bytes
  have hr := B.returns
  have hts := atoms_spec (ws := wU yX7_least cX7_least 6 (some .long)) B.pre
  have hq : ∀ w ∈ gW, w.before args s = true := fun w hw => hts w (List.mem_cons_of_mem _ hw)
  have hcm : ∀ w ∈ gW, w ∈ wU yX7_least cX7_least 6 (some .long) := fun w hw => List.mem_cons_of_mem _ hw
  have hown : s.vm.findClass RX7 = some m.cls := findClass_of_methodNamed B.named
  have hlocks := B.notSynchronized
  have hF : CallFix p m c cX7_least 6 s args (wU yX7_least cX7_least 6 (some .long)) RX7 := ⟨hx, hb, hml, hown, hts⟩
  have hK := hPre.2.1
  have hZ := hPre.2.2.2
  have hw : Wd D cy shM ad nM (Aw ad nM) s.heap M s.heap [] := ⟨hPre.1, hPre.2.2.1, va_S.rf⟩
  have iw7 : ∀ w ∈ u_ws RX7 TX7 30, w ∈ wU yX7_least cX7_least 6 (some .long) := fun w hw => List.mem_cons_of_mem _ (iX7 w hw)
  rw [show entryFrame m args 6 = entryFrame m ([.ref (ad o0), .int a1, .int a2, .int a3] : List Value).toArray 6 from by rw [hargs]]
  have hl := lv_entry ([.ref (ad o0), .int a1, .int a2, .int a3]) (n := 6) (Nat.le_of_ble_eq_true rfl)
  rw [lg_entry_eq]
  generalize (lg_sl ([.ref (ad o0), .int a1, .int a2, .int a3]) ++ List.replicate (6 - (lg_sl ([.ref (ad o0), .int a1, .int a2, .int a3])).length) Slot.unset).toArray = ls at hl ⊢
  have hl : lv_has ls 6 [(0, .ref (ad o0)), (1, .int a1), (2, .int a2), (3, .int a3)] := hl
  have hb25 : ∀ (M : Mm) (x0 : Nat), f_X7_least_b25 M x0 = some res → ∀ (H : Heap) (locs : List Loc) (ls : Array Slot), Wd D cy shM ad nM (Aw ad nM) s.heap M H locs → lv_has ls 6 [(0, .ref (ad x0))] → W p l e (headSpec (wU yX7_least cX7_least 6 (some .long)) rmX7_least).room s m args below meth c H locs 0 0 (QL D cy shM ad nM adK adV below args s res) (F0 m 25 ls []) := by
    intro M x0 h H locs ls hw hl
    unfold f_X7_least_b25 at h
    refine lv_aload_n hx hb dX7_least_25 rfl (lv_at hl 0 rfl) ?_
    refine lv_iconst (v := (0 : Int32)) hx hb dX7_least_26 (by decide) ?_
    replace h := gd_some h
    obtain ⟨g2, h⟩ := h
    replace h := bd_some h
    obtain ⟨r1, er1, h⟩ := h
    refine r_callVi (As := [.int (0 : Int32)]) (rest := []) hF (c_X7_finding l D cy ad adK adV M x0 (0 : Int32) r1 er1) (gW_goodV hcm qw991 qw988 qw990 qw19 qw68) hdX7_finding rfl ⟨Nat.le_of_ble_eq_true rfl, Nat.le_of_ble_eq_true rfl⟩ rfl rfl hZ hK hw g2 (by decide) rfl rfl hl.1 rfl (Nat.le_of_ble_eq_true rfl) ⟨Nat.zero_le _, Nat.zero_le _⟩ dX7_least_27 (fun H locs hw => ?_)
    refine lv_i2l (v := r1.2.toInt64) hx hb dX7_least_30 rfl ?_
    exact r_lret hx hb hr hlocks hZ hK hw h dX7_least_31
  unfold f_X7_least at h
  refine lv_aload_n hx hb dX7_least_0 rfl (lv_at hl 0 rfl) ?_
  refine lv_iload_n hx hb dX7_least_1 rfl (lv_at hl 1 rfl) ?_
  replace h := gd_some h
  obtain ⟨g4, h⟩ := h
  replace h := bd_some h
  obtain ⟨r3, er3, h⟩ := h
  refine r_callVi (As := [.int a1]) (rest := []) hF (c_X7_isSide l D cy ad adK adV M o0 a1 r3 er3) (gW_goodV hcm qw1004 qw1001 qw1003 qw21 qw68) hdX7_isSide rfl ⟨Nat.le_of_ble_eq_true rfl, Nat.le_of_ble_eq_true rfl⟩ rfl rfl hZ hK hw g4 (by decide) rfl rfl hl.1 rfl (Nat.le_of_ble_eq_true rfl) ⟨Nat.zero_le _, Nat.zero_le _⟩ dX7_least_2 (fun H locs hw => ?_)
  refine lv_if_eq (tgt := 25) hx hb dX7_least_5 (by decide) (fun c5 => ?_) (fun c5 => ?_)
  · replace h := if_some_t c5 h
    exact hb25 _ _ h _ _ _ hw (lv_sub hl [0] rfl)
  · replace h := if_some_f c5 h
    refine lv_iload_n hx hb dX7_least_8 rfl (lv_at hl 2 rfl) ?_
    refine lv_iconst (v := (0 : Int32)) hx hb dX7_least_9 (by decide) ?_
    refine lv_bipush (v := (99 : Int32)) hx hb dX7_least_10 (by decide) ?_
    replace h := bd_some h
    obtain ⟨r6, er6, h⟩ := h
    refine r_callSi (As := [.int a2, .int (0 : Int32), .int (99 : Int32)]) (rest := []) hF (c_X7_in l D cy ad adK adV r3.1 a2 (0 : Int32) (99 : Int32) r6 er6) (gW_goodS hcm qw987 qw985 qw986 qw68) hdX7_in ⟨Nat.le_of_ble_eq_true rfl, Nat.le_of_ble_eq_true rfl⟩ rfl rfl hZ hK hw rfl hl.1 rfl (Nat.le_of_ble_eq_true rfl) ⟨Nat.zero_le _, Nat.zero_le _⟩ dX7_least_12 (fun H locs hw => ?_)
    refine lv_if_eq (tgt := 25) hx hb dX7_least_15 (by decide) (fun c7 => ?_) (fun c7 => ?_)
    · replace h := if_some_t c7 h
      exact hb25 _ _ h _ _ _ hw (lv_sub hl [0] rfl)
    · replace h := if_some_f c7 h
      refine lv_iload_n hx hb dX7_least_18 rfl (lv_at hl 3 rfl) ?_
      replace h := bd_some h
      obtain ⟨r8, er8, h⟩ := h
      refine r_callSi (As := [.int a3]) (rest := []) hF (c_X7_isPart l D cy ad adK adV r6.1 a3 r8 er8) (gW_goodS hcm qw1208 qw1206 qw1207 qw68) hdX7_isPart ⟨Nat.le_of_ble_eq_true rfl, Nat.le_of_ble_eq_true rfl⟩ rfl rfl hZ hK hw rfl hl.1 rfl (Nat.le_of_ble_eq_true rfl) ⟨Nat.zero_le _, Nat.zero_le _⟩ dX7_least_19 (fun H locs hw => ?_)
      refine lv_if_ne (tgt := 32) hx hb dX7_least_22 (by decide) (fun c9 => ?_) (fun c9 => ?_)
      · replace h := if_some_f c9 h
        refine lv_aload_n hx hb dX7_least_32 rfl (lv_at hl 0 rfl) ?_
        refine lv_iload_n hx hb dX7_least_33 rfl (lv_at hl 2 rfl) ?_
        refine r_putI hx hb hts iw7 tyX7 tyX7_ok nmX7 hown hK hw o0 21 g4 (by decide) rfl (by decide) rfl (hq _ qw911) (fun _ h9 => h9) rfl rfl rfl dX7_least_34 (fun H locs hw => ?_)
        replace h := lt_some h
        obtain ⟨M10, eM10, h⟩ := h
        rw [← eM10] at hw
        refine lv_aload_n hx hb dX7_least_37 rfl (lv_at hl 0 rfl) ?_
        replace h := bd_some h
        obtain ⟨r11, er11, h⟩ := h
        refine r_callVl (As := []) (rest := []) hF (c_X7_findWays l D cy ad adK adV M10 o0 r11 er11) (gW_goodV hcm qw1212 qw1209 qw1211 qw53 qw68) hdX7_findWays rfl ⟨Nat.le_of_ble_eq_true rfl, Nat.le_of_ble_eq_true rfl⟩ rfl rfl hZ hK hw g4 (by decide) rfl rfl hl.1 rfl (Nat.le_of_ble_eq_true rfl) ⟨Nat.zero_le _, Nat.zero_le _⟩ dX7_least_38 (fun H locs hw => ?_)
        refine lv_lstore (lv' := [(4, .long r11.2), (0, .ref (ad o0)), (1, .int a1), (2, .int a2), (3, .int a3)]) hx hb dX7_least_41 hl (by decide) rfl (fun ls hl => ?_)
        refine lv_aload_n hx hb dX7_least_43 rfl (lv_at hl 1 rfl) ?_
        replace h := bd_some h
        obtain ⟨q12, eq12, h⟩ := h
        refine r_getR hx hb hts iw7 hown hK hw o0 22 g4 (by decide) rfl (by decide) rfl (hq _ qw912) (fun _ h9 => h9) dX7_least_44 eq12 ?_
        refine lv_iload_n hx hb dX7_least_47 rfl (lv_at hl 2 rfl) ?_
        replace h := gd_some h
        obtain ⟨g13, h⟩ := h
        refine r_lald hx hb hK hw q12 g13 dX7_least_48 ?_
        refine lv_lload hx hb dX7_least_49 (lv_at hl 0 rfl) ?_
        refine lv_iload_n hx hb dX7_least_51 rfl (lv_at hl 4 rfl) ?_
        replace h := bd_some h
        obtain ⟨r14, er14, h⟩ := h
        refine r_callSl (As := [.long (r11.1.2.1 q12 a1.toNatClampNeg), .long r11.2, .int a3]) (rest := []) hF (c_X7_told l D cy ad adK adV r11.1 (r11.1.2.1 q12 a1.toNatClampNeg) r11.2 a3 r14 er14) (gW_goodS hcm qw1224 qw1222 qw1223 qw68) hdX7_told ⟨Nat.le_of_ble_eq_true rfl, Nat.le_of_ble_eq_true rfl⟩ rfl rfl hZ hK hw rfl hl.1 rfl (Nat.le_of_ble_eq_true rfl) ⟨Nat.zero_le _, Nat.zero_le _⟩ dX7_least_52 (fun H locs hw => ?_)
        exact r_lret hx hb hr hlocks hZ hK hw h dX7_least_55
      · replace h := if_some_t c9 h
        exact hb25 _ _ h _ _ _ hw (lv_sub hl [0] rfl)
theorem dX7_most_0 : decode cX7_most 0 = .ok (.aload_n 0, 1) := by decide +kernel
theorem dX7_most_1 : decode cX7_most 1 = .ok (.iload_n 1, 1) := by decide +kernel
theorem dX7_most_2 : decode cX7_most 2 = .ok (.invokevirtual 121, 3) := by decide +kernel
theorem dX7_most_5 : decode cX7_most 5 = .ok (.ifCond .ne 9, 3) := by decide +kernel
theorem dX7_most_8 : decode cX7_most 8 = .ok (.aload_n 0, 1) := by decide +kernel
theorem dX7_most_9 : decode cX7_most 9 = .ok (.iconst 0, 1) := by decide +kernel
theorem dX7_most_10 : decode cX7_most 10 = .ok (.invokevirtual 115, 3) := by decide +kernel
theorem dX7_most_13 : decode cX7_most 13 = .ok (.ireturn, 1) := by decide +kernel
theorem dX7_most_14 : decode cX7_most 14 = .ok (.aload_n 0, 1) := by decide +kernel
theorem dX7_most_15 : decode cX7_most 15 = .ok (.invokevirtual 266, 3) := by decide +kernel
theorem dX7_most_18 : decode cX7_most 18 = .ok (.lstore_n 2, 1) := by decide +kernel
theorem dX7_most_19 : decode cX7_most 19 = .ok (.aload_n 0, 1) := by decide +kernel
theorem dX7_most_20 : decode cX7_most 20 = .ok (.getfield 42, 3) := by decide +kernel
theorem dX7_most_23 : decode cX7_most 23 = .ok (.iload_n 1, 1) := by decide +kernel
theorem dX7_most_24 : decode cX7_most 24 = .ok (.iaload, 1) := by decide +kernel
theorem dX7_most_25 : decode cX7_most 25 = .ok (.ireturn, 1) := by decide +kernel
set_option maxHeartbeats 4000000 in
set_option maxRecDepth 100000 in
theorem c_X7_most (l : Launch) (D : va_G) (cy : Nat → ClassId) (ad adK adV : Nat → Nat) (M : Mm) (o0 : Nat) (a1 : Int32) (res : Mm × Int32) (h : f_X7_most M o0 a1 = some res) : Met l yX7_most (wU yX7_most cX7_most 4 (some .int)) rmX7_most (va_Pc [.ref (ad o0), .int a1] (Pre D cy shM ad nM adK adV M)) (va_Qi (fun r (M2 : Mm) => r = res.2 ∧ M2 = res.1) (Pre D cy shM ad nM adK adV) (Aw ad nM)) 0 0 (Aw ad nM) := by
  refine Met.ofW (cc := cX7_most) (maxL := 4) (ret := (some .int)) (by decide) rfl ?_
  intro p e s m args below meth c s₁ B hml hv
  obtain ⟨hargs, hPre⟩ := hv
  have hx := B.exec
  have hb := B.bytes
  have hr := B.returns
  have hts := atoms_spec (ws := wU yX7_most cX7_most 4 (some .int)) B.pre
  have hq : ∀ w ∈ gW, w.before args s = true := fun w hw => hts w (List.mem_cons_of_mem _ hw)
  have hcm : ∀ w ∈ gW, w ∈ wU yX7_most cX7_most 4 (some .int) := fun w hw => List.mem_cons_of_mem _ hw
  have hown : s.vm.findClass RX7 = some m.cls := findClass_of_methodNamed B.named
  have hlocks := B.notSynchronized
  have hF : CallFix p m c cX7_most 4 s args (wU yX7_most cX7_most 4 (some .int)) RX7 := ⟨hx, hb, hml, hown, hts⟩
  have hK := hPre.2.1
  have hZ := hPre.2.2.2
  have hw : Wd D cy shM ad nM (Aw ad nM) s.heap M s.heap [] := ⟨hPre.1, hPre.2.2.1, va_S.rf⟩
  have iw7 : ∀ w ∈ u_ws RX7 TX7 30, w ∈ wU yX7_most cX7_most 4 (some .int) := fun w hw => List.mem_cons_of_mem _ (iX7 w hw)
  rw [show entryFrame m args 4 = entryFrame m ([.ref (ad o0), .int a1] : List Value).toArray 4 from by rw [hargs]]
  have hl := lv_entry ([.ref (ad o0), .int a1]) (n := 4) (Nat.le_of_ble_eq_true rfl)
  rw [lg_entry_eq]
  generalize (lg_sl ([.ref (ad o0), .int a1]) ++ List.replicate (4 - (lg_sl ([.ref (ad o0), .int a1])).length) Slot.unset).toArray = ls at hl ⊢
  have hl : lv_has ls 4 [(0, .ref (ad o0)), (1, .int a1)] := hl
  unfold f_X7_most at h
  refine lv_aload_n hx hb dX7_most_0 rfl (lv_at hl 0 rfl) ?_
  refine lv_iload_n hx hb dX7_most_1 rfl (lv_at hl 1 rfl) ?_
  replace h := gd_some h
  obtain ⟨g2, h⟩ := h
  replace h := bd_some h
  obtain ⟨r1, er1, h⟩ := h
  refine r_callVi (As := [.int a1]) (rest := []) hF (c_X7_isSide l D cy ad adK adV M o0 a1 r1 er1) (gW_goodV hcm qw1004 qw1001 qw1003 qw21 qw68) hdX7_isSide rfl ⟨Nat.le_of_ble_eq_true rfl, Nat.le_of_ble_eq_true rfl⟩ rfl rfl hZ hK hw g2 (by decide) rfl rfl hl.1 rfl (Nat.le_of_ble_eq_true rfl) ⟨Nat.zero_le _, Nat.zero_le _⟩ dX7_most_2 (fun H locs hw => ?_)
  refine lv_if_ne (tgt := 14) hx hb dX7_most_5 (by decide) (fun c3 => ?_) (fun c3 => ?_)
  · replace h := if_some_f c3 h
    refine lv_aload_n hx hb dX7_most_14 rfl (lv_at hl 0 rfl) ?_
    replace h := bd_some h
    obtain ⟨r4, er4, h⟩ := h
    refine r_callVl (As := []) (rest := []) hF (c_X7_findWays l D cy ad adK adV r1.1 o0 r4 er4) (gW_goodV hcm qw1212 qw1209 qw1211 qw53 qw68) hdX7_findWays rfl ⟨Nat.le_of_ble_eq_true rfl, Nat.le_of_ble_eq_true rfl⟩ rfl rfl hZ hK hw g2 (by decide) rfl rfl hl.1 rfl (Nat.le_of_ble_eq_true rfl) ⟨Nat.zero_le _, Nat.zero_le _⟩ dX7_most_15 (fun H locs hw => ?_)
    refine lv_lstore_n (lv' := [(2, .long r4.2), (0, .ref (ad o0)), (1, .int a1)]) hx hb dX7_most_18 rfl hl (by decide) rfl (fun ls hl => ?_)
    refine lv_aload_n hx hb dX7_most_19 rfl (lv_at hl 1 rfl) ?_
    replace h := bd_some h
    obtain ⟨q5, eq5, h⟩ := h
    refine r_getR hx hb hts iw7 hown hK hw o0 20 g2 (by decide) rfl (by decide) rfl (hq _ qw910) (fun _ h9 => h9) dX7_most_20 eq5 ?_
    refine lv_iload_n hx hb dX7_most_23 rfl (lv_at hl 2 rfl) ?_
    replace h := gd_some h
    obtain ⟨g6, h⟩ := h
    refine r_iald hx hb hK hw q5 g6 dX7_most_24 ?_
    exact r_iret hx hb hr rfl hlocks hZ hK hw h dX7_most_25
  · replace h := if_some_t c3 h
    refine lv_aload_n hx hb dX7_most_8 rfl (lv_at hl 0 rfl) ?_
    refine lv_iconst (v := (0 : Int32)) hx hb dX7_most_9 (by decide) ?_
    replace h := bd_some h
    obtain ⟨r7, er7, h⟩ := h
    refine r_callVi (As := [.int (0 : Int32)]) (rest := []) hF (c_X7_finding l D cy ad adK adV r1.1 o0 (0 : Int32) r7 er7) (gW_goodV hcm qw991 qw988 qw990 qw19 qw68) hdX7_finding rfl ⟨Nat.le_of_ble_eq_true rfl, Nat.le_of_ble_eq_true rfl⟩ rfl rfl hZ hK hw g2 (by decide) rfl rfl hl.1 rfl (Nat.le_of_ble_eq_true rfl) ⟨Nat.zero_le _, Nat.zero_le _⟩ dX7_most_10 (fun H locs hw => ?_)
    exact r_iret hx hb hr rfl hlocks hZ hK hw h dX7_most_13
theorem dX7_ways_0 : decode cX7_ways 0 = .ok (.aload_n 0, 1) := by decide +kernel
theorem dX7_ways_1 : decode cX7_ways 1 = .ok (.invokevirtual 266, 3) := by decide +kernel
theorem dX7_ways_4 : decode cX7_ways 4 = .ok (.lstore_n 1, 1) := by decide +kernel
theorem dX7_ways_5 : decode cX7_ways 5 = .ok (.aload_n 0, 1) := by decide +kernel
theorem dX7_ways_6 : decode cX7_ways 6 = .ok (.getfield 248, 3) := by decide +kernel
theorem dX7_ways_9 : decode cX7_ways 9 = .ok (.ireturn, 1) := by decide +kernel
set_option maxHeartbeats 4000000 in
set_option maxRecDepth 100000 in
theorem c_X7_ways (l : Launch) (D : va_G) (cy : Nat → ClassId) (ad adK adV : Nat → Nat) (M : Mm) (o0 : Nat) (res : Mm × Int32) (h : f_X7_ways M o0 = some res) : Met l yX7_ways (wU yX7_ways cX7_ways 3 (some .int)) rmX7_ways (va_Pc [.ref (ad o0)] (Pre D cy shM ad nM adK adV M)) (va_Qi (fun r (M2 : Mm) => r = res.2 ∧ M2 = res.1) (Pre D cy shM ad nM adK adV) (Aw ad nM)) 0 0 (Aw ad nM) := by
  refine Met.ofW (cc := cX7_ways) (maxL := 3) (ret := (some .int)) (by decide) rfl ?_
  intro p e s m args below meth c s₁ B hml hv
  obtain ⟨hargs, hPre⟩ := hv
  have hx := B.exec
  have hb := B.bytes
  have hr := B.returns
  have hts := atoms_spec (ws := wU yX7_ways cX7_ways 3 (some .int)) B.pre
  have hq : ∀ w ∈ gW, w.before args s = true := fun w hw => hts w (List.mem_cons_of_mem _ hw)
  have hcm : ∀ w ∈ gW, w ∈ wU yX7_ways cX7_ways 3 (some .int) := fun w hw => List.mem_cons_of_mem _ hw
  have hown : s.vm.findClass RX7 = some m.cls := findClass_of_methodNamed B.named
  have hlocks := B.notSynchronized
  have hF : CallFix p m c cX7_ways 3 s args (wU yX7_ways cX7_ways 3 (some .int)) RX7 := ⟨hx, hb, hml, hown, hts⟩
  have hK := hPre.2.1
  have hZ := hPre.2.2.2
  have hw : Wd D cy shM ad nM (Aw ad nM) s.heap M s.heap [] := ⟨hPre.1, hPre.2.2.1, va_S.rf⟩
  have iw7 : ∀ w ∈ u_ws RX7 TX7 30, w ∈ wU yX7_ways cX7_ways 3 (some .int) := fun w hw => List.mem_cons_of_mem _ (iX7 w hw)
  rw [show entryFrame m args 3 = entryFrame m ([.ref (ad o0)] : List Value).toArray 3 from by rw [hargs]]
  have hl := lv_entry ([.ref (ad o0)]) (n := 3) (Nat.le_of_ble_eq_true rfl)
  rw [lg_entry_eq]
  generalize (lg_sl ([.ref (ad o0)]) ++ List.replicate (3 - (lg_sl ([.ref (ad o0)])).length) Slot.unset).toArray = ls at hl ⊢
  have hl : lv_has ls 3 [(0, .ref (ad o0))] := hl
  unfold f_X7_ways at h
  refine lv_aload_n hx hb dX7_ways_0 rfl (lv_at hl 0 rfl) ?_
  replace h := gd_some h
  obtain ⟨g2, h⟩ := h
  replace h := bd_some h
  obtain ⟨r1, er1, h⟩ := h
  refine r_callVl (As := []) (rest := []) hF (c_X7_findWays l D cy ad adK adV M o0 r1 er1) (gW_goodV hcm qw1212 qw1209 qw1211 qw53 qw68) hdX7_findWays rfl ⟨Nat.le_of_ble_eq_true rfl, Nat.le_of_ble_eq_true rfl⟩ rfl rfl hZ hK hw g2 (by decide) rfl rfl hl.1 rfl (Nat.le_of_ble_eq_true rfl) ⟨Nat.zero_le _, Nat.zero_le _⟩ dX7_ways_1 (fun H locs hw => ?_)
  refine lv_lstore_n (lv' := [(1, .long r1.2), (0, .ref (ad o0))]) hx hb dX7_ways_4 rfl hl (by decide) rfl (fun ls hl => ?_)
  refine lv_aload_n hx hb dX7_ways_5 rfl (lv_at hl 1 rfl) ?_
  refine r_getI hx hb hts iw7 hown hK hw o0 23 g2 (by decide) rfl (by decide) rfl (hq _ qw913) (fun _ h9 => h9) dX7_ways_6 ?_
  exact r_iret hx hb hr rfl hlocks hZ hK hw h dX7_ways_9
theorem dX7_moved_0 : decode cX7_moved 0 = .ok (.aload_n 0, 1) := by decide +kernel
theorem dX7_moved_1 : decode cX7_moved 1 = .ok (.iload_n 1, 1) := by decide +kernel
theorem dX7_moved_2 : decode cX7_moved 2 = .ok (.invokevirtual 131, 3) := by decide +kernel
theorem dX7_moved_5 : decode cX7_moved 5 = .ok (.ifCond .eq 10, 3) := by decide +kernel
theorem dX7_moved_8 : decode cX7_moved 8 = .ok (.iload_n 2, 1) := by decide +kernel
theorem dX7_moved_9 : decode cX7_moved 9 = .ok (.invokestatic 263, 3) := by decide +kernel
theorem dX7_moved_12 : decode cX7_moved 12 = .ok (.ifCond .ne 10, 3) := by decide +kernel
theorem dX7_moved_15 : decode cX7_moved 15 = .ok (.aload_n 0, 1) := by decide +kernel
theorem dX7_moved_16 : decode cX7_moved 16 = .ok (.iconst 0, 1) := by decide +kernel
theorem dX7_moved_17 : decode cX7_moved 17 = .ok (.invokevirtual 115, 3) := by decide +kernel
theorem dX7_moved_20 : decode cX7_moved 20 = .ok (.i2l, 1) := by decide +kernel
theorem dX7_moved_21 : decode cX7_moved 21 = .ok (.lreturn, 1) := by decide +kernel
theorem dX7_moved_22 : decode cX7_moved 22 = .ok (.aload_n 0, 1) := by decide +kernel
theorem dX7_moved_23 : decode cX7_moved 23 = .ok (.invokevirtual 266, 3) := by decide +kernel
theorem dX7_moved_26 : decode cX7_moved 26 = .ok (.lstore_n 3, 1) := by decide +kernel
theorem dX7_moved_27 : decode cX7_moved 27 = .ok (.aload_n 0, 1) := by decide +kernel
theorem dX7_moved_28 : decode cX7_moved 28 = .ok (.getfield 33, 3) := by decide +kernel
theorem dX7_moved_31 : decode cX7_moved 31 = .ok (.iload_n 1, 1) := by decide +kernel
theorem dX7_moved_32 : decode cX7_moved 32 = .ok (.laload, 1) := by decide +kernel
theorem dX7_moved_33 : decode cX7_moved 33 = .ok (.lload_n 3, 1) := by decide +kernel
theorem dX7_moved_34 : decode cX7_moved 34 = .ok (.iload_n 2, 1) := by decide +kernel
theorem dX7_moved_35 : decode cX7_moved 35 = .ok (.invokestatic 270, 3) := by decide +kernel
theorem dX7_moved_38 : decode cX7_moved 38 = .ok (.lreturn, 1) := by decide +kernel
set_option maxHeartbeats 4000000 in
set_option maxRecDepth 100000 in
theorem c_X7_moved (l : Launch) (D : va_G) (cy : Nat → ClassId) (ad adK adV : Nat → Nat) (M : Mm) (o0 : Nat) (a1 : Int32) (a2 : Int32) (res : Mm × Int64) (h : f_X7_moved M o0 a1 a2 = some res) : Met l yX7_moved (wU yX7_moved cX7_moved 5 (some .long)) rmX7_moved (va_Pc [.ref (ad o0), .int a1, .int a2] (Pre D cy shM ad nM adK adV M)) (va_Ql (fun r (M2 : Mm) => r = res.2 ∧ M2 = res.1) (Pre D cy shM ad nM adK adV) (Aw ad nM)) 0 0 (Aw ad nM) := by
  refine Met.ofW (cc := cX7_moved) (maxL := 5) (ret := (some .long)) (by decide) rfl ?_
  intro p e s m args below meth c s₁ B hml hv
  obtain ⟨hargs, hPre⟩ := hv
  have hx := B.exec
  have hb := B.bytes
  have hr := B.returns
  have hts := atoms_spec (ws := wU yX7_moved cX7_moved 5 (some .long)) B.pre
  have hq : ∀ w ∈ gW, w.before args s = true := fun w hw => hts w (List.mem_cons_of_mem _ hw)
  have hcm : ∀ w ∈ gW, w ∈ wU yX7_moved cX7_moved 5 (some .long) := fun w hw => List.mem_cons_of_mem _ hw
  have hown : s.vm.findClass RX7 = some m.cls := findClass_of_methodNamed B.named
  have hlocks := B.notSynchronized
  have hF : CallFix p m c cX7_moved 5 s args (wU yX7_moved cX7_moved 5 (some .long)) RX7 := ⟨hx, hb, hml, hown, hts⟩
  have hK := hPre.2.1
  have hZ := hPre.2.2.2
  have hw : Wd D cy shM ad nM (Aw ad nM) s.heap M s.heap [] := ⟨hPre.1, hPre.2.2.1, va_S.rf⟩
  have iw7 : ∀ w ∈ u_ws RX7 TX7 30, w ∈ wU yX7_moved cX7_moved 5 (some .long) := fun w hw => List.mem_cons_of_mem _ (iX7 w hw)
  rw [show entryFrame m args 5 = entryFrame m ([.ref (ad o0), .int a1, .int a2] : List Value).toArray 5 from by rw [hargs]]
  have hl := lv_entry ([.ref (ad o0), .int a1, .int a2]) (n := 5) (Nat.le_of_ble_eq_true rfl)
  rw [lg_entry_eq]
  generalize (lg_sl ([.ref (ad o0), .int a1, .int a2]) ++ List.replicate (5 - (lg_sl ([.ref (ad o0), .int a1, .int a2])).length) Slot.unset).toArray = ls at hl ⊢
  have hl : lv_has ls 5 [(0, .ref (ad o0)), (1, .int a1), (2, .int a2)] := hl
  have hb15 : ∀ (M : Mm) (x0 : Nat), f_X7_moved_b15 M x0 = some res → ∀ (H : Heap) (locs : List Loc) (ls : Array Slot), Wd D cy shM ad nM (Aw ad nM) s.heap M H locs → lv_has ls 5 [(0, .ref (ad x0))] → W p l e (headSpec (wU yX7_moved cX7_moved 5 (some .long)) rmX7_moved).room s m args below meth c H locs 0 0 (QL D cy shM ad nM adK adV below args s res) (F0 m 15 ls []) := by
    intro M x0 h H locs ls hw hl
    unfold f_X7_moved_b15 at h
    refine lv_aload_n hx hb dX7_moved_15 rfl (lv_at hl 0 rfl) ?_
    refine lv_iconst (v := (0 : Int32)) hx hb dX7_moved_16 (by decide) ?_
    replace h := gd_some h
    obtain ⟨g2, h⟩ := h
    replace h := bd_some h
    obtain ⟨r1, er1, h⟩ := h
    refine r_callVi (As := [.int (0 : Int32)]) (rest := []) hF (c_X7_finding l D cy ad adK adV M x0 (0 : Int32) r1 er1) (gW_goodV hcm qw991 qw988 qw990 qw19 qw68) hdX7_finding rfl ⟨Nat.le_of_ble_eq_true rfl, Nat.le_of_ble_eq_true rfl⟩ rfl rfl hZ hK hw g2 (by decide) rfl rfl hl.1 rfl (Nat.le_of_ble_eq_true rfl) ⟨Nat.zero_le _, Nat.zero_le _⟩ dX7_moved_17 (fun H locs hw => ?_)
    refine lv_i2l (v := r1.2.toInt64) hx hb dX7_moved_20 rfl ?_
    exact r_lret hx hb hr hlocks hZ hK hw h dX7_moved_21
  unfold f_X7_moved at h
  refine lv_aload_n hx hb dX7_moved_0 rfl (lv_at hl 0 rfl) ?_
  refine lv_iload_n hx hb dX7_moved_1 rfl (lv_at hl 1 rfl) ?_
  replace h := gd_some h
  obtain ⟨g4, h⟩ := h
  replace h := bd_some h
  obtain ⟨r3, er3, h⟩ := h
  refine r_callVi (As := [.int a1]) (rest := []) hF (c_X7_isGame l D cy ad adK adV M o0 a1 r3 er3) (gW_goodV hcm qw1052 qw1049 qw1051 qw30 qw68) hdX7_isGame rfl ⟨Nat.le_of_ble_eq_true rfl, Nat.le_of_ble_eq_true rfl⟩ rfl rfl hZ hK hw g4 (by decide) rfl rfl hl.1 rfl (Nat.le_of_ble_eq_true rfl) ⟨Nat.zero_le _, Nat.zero_le _⟩ dX7_moved_2 (fun H locs hw => ?_)
  refine lv_if_eq (tgt := 15) hx hb dX7_moved_5 (by decide) (fun c5 => ?_) (fun c5 => ?_)
  · replace h := if_some_t c5 h
    exact hb15 _ _ h _ _ _ hw (lv_sub hl [0] rfl)
  · replace h := if_some_f c5 h
    refine lv_iload_n hx hb dX7_moved_8 rfl (lv_at hl 2 rfl) ?_
    replace h := bd_some h
    obtain ⟨r6, er6, h⟩ := h
    refine r_callSi (As := [.int a2]) (rest := []) hF (c_X7_isPart l D cy ad adK adV r3.1 a2 r6 er6) (gW_goodS hcm qw1208 qw1206 qw1207 qw68) hdX7_isPart ⟨Nat.le_of_ble_eq_true rfl, Nat.le_of_ble_eq_true rfl⟩ rfl rfl hZ hK hw rfl hl.1 rfl (Nat.le_of_ble_eq_true rfl) ⟨Nat.zero_le _, Nat.zero_le _⟩ dX7_moved_9 (fun H locs hw => ?_)
    refine lv_if_ne (tgt := 22) hx hb dX7_moved_12 (by decide) (fun c7 => ?_) (fun c7 => ?_)
    · replace h := if_some_f c7 h
      refine lv_aload_n hx hb dX7_moved_22 rfl (lv_at hl 0 rfl) ?_
      replace h := bd_some h
      obtain ⟨r8, er8, h⟩ := h
      refine r_callVl (As := []) (rest := []) hF (c_X7_findWays l D cy ad adK adV r6.1 o0 r8 er8) (gW_goodV hcm qw1212 qw1209 qw1211 qw53 qw68) hdX7_findWays rfl ⟨Nat.le_of_ble_eq_true rfl, Nat.le_of_ble_eq_true rfl⟩ rfl rfl hZ hK hw g4 (by decide) rfl rfl hl.1 rfl (Nat.le_of_ble_eq_true rfl) ⟨Nat.zero_le _, Nat.zero_le _⟩ dX7_moved_23 (fun H locs hw => ?_)
      refine lv_lstore_n (lv' := [(3, .long r8.2), (0, .ref (ad o0)), (1, .int a1), (2, .int a2)]) hx hb dX7_moved_26 rfl hl (by decide) rfl (fun ls hl => ?_)
      refine lv_aload_n hx hb dX7_moved_27 rfl (lv_at hl 1 rfl) ?_
      replace h := bd_some h
      obtain ⟨q9, eq9, h⟩ := h
      refine r_getR hx hb hts iw7 hown hK hw o0 17 g4 (by decide) rfl (by decide) rfl (hq _ qw907) (fun _ h9 => h9) dX7_moved_28 eq9 ?_
      refine lv_iload_n hx hb dX7_moved_31 rfl (lv_at hl 2 rfl) ?_
      replace h := gd_some h
      obtain ⟨g10, h⟩ := h
      refine r_lald hx hb hK hw q9 g10 dX7_moved_32 ?_
      refine lv_lload_n hx hb dX7_moved_33 rfl (lv_at hl 0 rfl) ?_
      refine lv_iload_n hx hb dX7_moved_34 rfl (lv_at hl 3 rfl) ?_
      replace h := bd_some h
      obtain ⟨r11, er11, h⟩ := h
      refine r_callSl (As := [.long (r8.1.2.1 q9 a1.toNatClampNeg), .long r8.2, .int a2]) (rest := []) hF (c_X7_told l D cy ad adK adV r8.1 (r8.1.2.1 q9 a1.toNatClampNeg) r8.2 a2 r11 er11) (gW_goodS hcm qw1224 qw1222 qw1223 qw68) hdX7_told ⟨Nat.le_of_ble_eq_true rfl, Nat.le_of_ble_eq_true rfl⟩ rfl rfl hZ hK hw rfl hl.1 rfl (Nat.le_of_ble_eq_true rfl) ⟨Nat.zero_le _, Nat.zero_le _⟩ dX7_moved_35 (fun H locs hw => ?_)
      exact r_lret hx hb hr hlocks hZ hK hw h dX7_moved_38
    · replace h := if_some_t c7 h
      exact hb15 _ _ h _ _ _ hw (lv_sub hl [0] rfl)
theorem dX7_meanOf_0 : decode cX7_meanOf 0 = .ok (.aload_n 0, 1) := by decide +kernel
theorem dX7_meanOf_1 : decode cX7_meanOf 1 = .ok (.invokevirtual 266, 3) := by decide +kernel
theorem dX7_meanOf_4 : decode cX7_meanOf 4 = .ok (.lstore_n 2, 1) := by decide +kernel
theorem dX7_meanOf_5 : decode cX7_meanOf 5 = .ok (.aload_n 0, 1) := by decide +kernel
theorem dX7_meanOf_6 : decode cX7_meanOf 6 = .ok (.getfield 39, 3) := by decide +kernel
theorem dX7_meanOf_9 : decode cX7_meanOf 9 = .ok (.iload_n 1, 1) := by decide +kernel
theorem dX7_meanOf_10 : decode cX7_meanOf 10 = .ok (.laload, 1) := by decide +kernel
theorem dX7_meanOf_11 : decode cX7_meanOf 11 = .ok (.lreturn, 1) := by decide +kernel
set_option maxHeartbeats 4000000 in
set_option maxRecDepth 100000 in
theorem c_X7_meanOf (l : Launch) (D : va_G) (cy : Nat → ClassId) (ad adK adV : Nat → Nat) (M : Mm) (o0 : Nat) (a1 : Int32) (res : Mm × Int64) (h : f_X7_meanOf M o0 a1 = some res) : Met l yX7_meanOf (wU yX7_meanOf cX7_meanOf 4 (some .long)) rmX7_meanOf (va_Pc [.ref (ad o0), .int a1] (Pre D cy shM ad nM adK adV M)) (va_Ql (fun r (M2 : Mm) => r = res.2 ∧ M2 = res.1) (Pre D cy shM ad nM adK adV) (Aw ad nM)) 0 0 (Aw ad nM) := by
  refine Met.ofW (cc := cX7_meanOf) (maxL := 4) (ret := (some .long)) (by decide) rfl ?_
  intro p e s m args below meth c s₁ B hml hv
  obtain ⟨hargs, hPre⟩ := hv
  have hx := B.exec
  have hb := B.bytes
  have hr := B.returns
  have hts := atoms_spec (ws := wU yX7_meanOf cX7_meanOf 4 (some .long)) B.pre
  have hq : ∀ w ∈ gW, w.before args s = true := fun w hw => hts w (List.mem_cons_of_mem _ hw)
  have hcm : ∀ w ∈ gW, w ∈ wU yX7_meanOf cX7_meanOf 4 (some .long) := fun w hw => List.mem_cons_of_mem _ hw
  have hown : s.vm.findClass RX7 = some m.cls := findClass_of_methodNamed B.named
  have hlocks := B.notSynchronized
  have hF : CallFix p m c cX7_meanOf 4 s args (wU yX7_meanOf cX7_meanOf 4 (some .long)) RX7 := ⟨hx, hb, hml, hown, hts⟩
  have hK := hPre.2.1
  have hZ := hPre.2.2.2
  have hw : Wd D cy shM ad nM (Aw ad nM) s.heap M s.heap [] := ⟨hPre.1, hPre.2.2.1, va_S.rf⟩
  have iw7 : ∀ w ∈ u_ws RX7 TX7 30, w ∈ wU yX7_meanOf cX7_meanOf 4 (some .long) := fun w hw => List.mem_cons_of_mem _ (iX7 w hw)
  rw [show entryFrame m args 4 = entryFrame m ([.ref (ad o0), .int a1] : List Value).toArray 4 from by rw [hargs]]
  have hl := lv_entry ([.ref (ad o0), .int a1]) (n := 4) (Nat.le_of_ble_eq_true rfl)
  rw [lg_entry_eq]
  generalize (lg_sl ([.ref (ad o0), .int a1]) ++ List.replicate (4 - (lg_sl ([.ref (ad o0), .int a1])).length) Slot.unset).toArray = ls at hl ⊢
  have hl : lv_has ls 4 [(0, .ref (ad o0)), (1, .int a1)] := hl
  unfold f_X7_meanOf at h
  refine lv_aload_n hx hb dX7_meanOf_0 rfl (lv_at hl 0 rfl) ?_
  replace h := gd_some h
  obtain ⟨g2, h⟩ := h
  replace h := bd_some h
  obtain ⟨r1, er1, h⟩ := h
  refine r_callVl (As := []) (rest := []) hF (c_X7_findWays l D cy ad adK adV M o0 r1 er1) (gW_goodV hcm qw1212 qw1209 qw1211 qw53 qw68) hdX7_findWays rfl ⟨Nat.le_of_ble_eq_true rfl, Nat.le_of_ble_eq_true rfl⟩ rfl rfl hZ hK hw g2 (by decide) rfl rfl hl.1 rfl (Nat.le_of_ble_eq_true rfl) ⟨Nat.zero_le _, Nat.zero_le _⟩ dX7_meanOf_1 (fun H locs hw => ?_)
  refine lv_lstore_n (lv' := [(2, .long r1.2), (0, .ref (ad o0)), (1, .int a1)]) hx hb dX7_meanOf_4 rfl hl (by decide) rfl (fun ls hl => ?_)
  refine lv_aload_n hx hb dX7_meanOf_5 rfl (lv_at hl 1 rfl) ?_
  replace h := bd_some h
  obtain ⟨q3, eq3, h⟩ := h
  refine r_getR hx hb hts iw7 hown hK hw o0 19 g2 (by decide) rfl (by decide) rfl (hq _ qw909) (fun _ h9 => h9) dX7_meanOf_6 eq3 ?_
  refine lv_iload_n hx hb dX7_meanOf_9 rfl (lv_at hl 2 rfl) ?_
  replace h := gd_some h
  obtain ⟨g4, h⟩ := h
  refine r_lald hx hb hK hw q3 g4 dX7_meanOf_10 ?_
  exact r_lret hx hb hr hlocks hZ hK hw h dX7_meanOf_11
theorem dX7_best_0 : decode cX7_best 0 = .ok (.aload_n 0, 1) := by decide +kernel
theorem dX7_best_1 : decode cX7_best 1 = .ok (.iload_n 1, 1) := by decide +kernel
theorem dX7_best_2 : decode cX7_best 2 = .ok (.invokevirtual 121, 3) := by decide +kernel
theorem dX7_best_5 : decode cX7_best 5 = .ok (.ifCond .ne 9, 3) := by decide +kernel
theorem dX7_best_8 : decode cX7_best 8 = .ok (.aload_n 0, 1) := by decide +kernel
theorem dX7_best_9 : decode cX7_best 9 = .ok (.iconst 0, 1) := by decide +kernel
theorem dX7_best_10 : decode cX7_best 10 = .ok (.invokevirtual 115, 3) := by decide +kernel
theorem dX7_best_13 : decode cX7_best 13 = .ok (.ireturn, 1) := by decide +kernel
theorem dX7_best_14 : decode cX7_best 14 = .ok (.aload_n 0, 1) := by decide +kernel
theorem dX7_best_15 : decode cX7_best 15 = .ok (.invokevirtual 227, 3) := by decide +kernel
theorem dX7_best_18 : decode cX7_best 18 = .ok (.ifCond .eq 9, 3) := by decide +kernel
theorem dX7_best_21 : decode cX7_best 21 = .ok (.aload_n 0, 1) := by decide +kernel
theorem dX7_best_22 : decode cX7_best 22 = .ok (.iconst 3, 1) := by decide +kernel
theorem dX7_best_23 : decode cX7_best 23 = .ok (.invokevirtual 115, 3) := by decide +kernel
theorem dX7_best_26 : decode cX7_best 26 = .ok (.ireturn, 1) := by decide +kernel
theorem dX7_best_27 : decode cX7_best 27 = .ok (.aload_n 0, 1) := by decide +kernel
theorem dX7_best_28 : decode cX7_best 28 = .ok (.iload_n 1, 1) := by decide +kernel
theorem dX7_best_29 : decode cX7_best 29 = .ok (.aload_n 0, 1) := by decide +kernel
theorem dX7_best_30 : decode cX7_best 30 = .ok (.getfield 7, 3) := by decide +kernel
theorem dX7_best_33 : decode cX7_best 33 = .ok (.iconst 2, 1) := by decide +kernel
theorem dX7_best_34 : decode cX7_best 34 = .ok (.iaload, 1) := by decide +kernel
theorem dX7_best_35 : decode cX7_best 35 = .ok (.invokevirtual 75, 3) := by decide +kernel
theorem dX7_best_38 : decode cX7_best 38 = .ok (.ifCond .ne 9, 3) := by decide +kernel
theorem dX7_best_41 : decode cX7_best 41 = .ok (.aload_n 0, 1) := by decide +kernel
theorem dX7_best_42 : decode cX7_best 42 = .ok (.iconst 4, 1) := by decide +kernel
theorem dX7_best_43 : decode cX7_best 43 = .ok (.invokevirtual 115, 3) := by decide +kernel
theorem dX7_best_46 : decode cX7_best 46 = .ok (.ireturn, 1) := by decide +kernel
theorem dX7_best_47 : decode cX7_best 47 = .ok (.aload_n 0, 1) := by decide +kernel
theorem dX7_best_48 : decode cX7_best 48 = .ok (.aload_n 0, 1) := by decide +kernel
theorem dX7_best_49 : decode cX7_best 49 = .ok (.getfield 7, 3) := by decide +kernel
theorem dX7_best_52 : decode cX7_best 52 = .ok (.iconst 2, 1) := by decide +kernel
theorem dX7_best_53 : decode cX7_best 53 = .ok (.iaload, 1) := by decide +kernel
theorem dX7_best_54 : decode cX7_best 54 = .ok (.putfield 22, 3) := by decide +kernel
theorem dX7_best_57 : decode cX7_best 57 = .ok (.aload_n 0, 1) := by decide +kernel
theorem dX7_best_58 : decode cX7_best 58 = .ok (.iload_n 1, 1) := by decide +kernel
theorem dX7_best_59 : decode cX7_best 59 = .ok (.putfield 79, 3) := by decide +kernel
theorem dX7_best_62 : decode cX7_best 62 = .ok (.iconst (-1), 1) := by decide +kernel
theorem dX7_best_63 : decode cX7_best 63 = .ok (.istore_n 2, 1) := by decide +kernel
theorem dX7_best_64 : decode cX7_best 64 = .ok (.lconst 0, 1) := by decide +kernel
theorem dX7_best_65 : decode cX7_best 65 = .ok (.lstore_n 3, 1) := by decide +kernel
theorem dX7_best_66 : decode cX7_best 66 = .ok (.iconst 0, 1) := by decide +kernel
theorem dX7_best_67 : decode cX7_best 67 = .ok (.istore 5, 2) := by decide +kernel
theorem dX7_best_69 : decode cX7_best 69 = .ok (.iload 5, 2) := by decide +kernel
theorem dX7_best_71 : decode cX7_best 71 = .ok (.iconst 3, 1) := by decide +kernel
theorem dX7_best_72 : decode cX7_best 72 = .ok (.if_icmp .gt 39, 3) := by decide +kernel
theorem dX7_best_75 : decode cX7_best 75 = .ok (.aload_n 0, 1) := by decide +kernel
theorem dX7_best_76 : decode cX7_best 76 = .ok (.iload 5, 2) := by decide +kernel
theorem dX7_best_78 : decode cX7_best 78 = .ok (.putfield 82, 3) := by decide +kernel
theorem dX7_best_81 : decode cX7_best 81 = .ok (.aload_n 0, 1) := by decide +kernel
theorem dX7_best_82 : decode cX7_best 82 = .ok (.iload_n 1, 1) := by decide +kernel
theorem dX7_best_83 : decode cX7_best 83 = .ok (.invokevirtual 273, 3) := by decide +kernel
theorem dX7_best_86 : decode cX7_best 86 = .ok (.lstore 6, 2) := by decide +kernel
theorem dX7_best_88 : decode cX7_best 88 = .ok (.iload_n 2, 1) := by decide +kernel
theorem dX7_best_89 : decode cX7_best 89 = .ok (.ifCond .lt 10, 3) := by decide +kernel
theorem dX7_best_92 : decode cX7_best 92 = .ok (.lload 6, 2) := by decide +kernel
theorem dX7_best_94 : decode cX7_best 94 = .ok (.lload_n 3, 1) := by decide +kernel
theorem dX7_best_95 : decode cX7_best 95 = .ok (.lcmp, 1) := by decide +kernel
theorem dX7_best_96 : decode cX7_best 96 = .ok (.ifCond .le 9, 3) := by decide +kernel
theorem dX7_best_99 : decode cX7_best 99 = .ok (.iload 5, 2) := by decide +kernel
theorem dX7_best_101 : decode cX7_best 101 = .ok (.istore_n 2, 1) := by decide +kernel
theorem dX7_best_102 : decode cX7_best 102 = .ok (.lload 6, 2) := by decide +kernel
theorem dX7_best_104 : decode cX7_best 104 = .ok (.lstore_n 3, 1) := by decide +kernel
theorem dX7_best_105 : decode cX7_best 105 = .ok (.iinc 5 1, 3) := by decide +kernel
theorem dX7_best_108 : decode cX7_best 108 = .ok (.goto (-39), 3) := by decide +kernel
theorem dX7_best_111 : decode cX7_best 111 = .ok (.aload_n 0, 1) := by decide +kernel
theorem dX7_best_112 : decode cX7_best 112 = .ok (.iconst (-1), 1) := by decide +kernel
theorem dX7_best_113 : decode cX7_best 113 = .ok (.putfield 22, 3) := by decide +kernel
theorem dX7_best_116 : decode cX7_best 116 = .ok (.iload_n 2, 1) := by decide +kernel
theorem dX7_best_117 : decode cX7_best 117 = .ok (.ireturn, 1) := by decide +kernel
set_option maxHeartbeats 4000000 in
set_option maxRecDepth 100000 in
theorem c_X7_best (l : Launch) (D : va_G) (cy : Nat → ClassId) (ad adK adV : Nat → Nat) (M : Mm) (o0 : Nat) (a1 : Int32) (res : Mm × Int32) (h : f_X7_best M o0 a1 = some res) : Met l yX7_best (wU yX7_best cX7_best 8 (some .int)) rmX7_best (va_Pc [.ref (ad o0), .int a1] (Pre D cy shM ad nM adK adV M)) (va_Qi (fun r (M2 : Mm) => r = res.2 ∧ M2 = res.1) (Pre D cy shM ad nM adK adV) (Aw ad nM)) 0 0 (Aw ad nM) := by
  refine Met.ofW (cc := cX7_best) (maxL := 8) (ret := (some .int)) (by decide) rfl ?_
  intro p e s m args below meth c s₁ B hml hv
  obtain ⟨hargs, hPre⟩ := hv
  have hx := B.exec
  have hb := B.bytes
  have hr := B.returns
  have hts := atoms_spec (ws := wU yX7_best cX7_best 8 (some .int)) B.pre
  have hq : ∀ w ∈ gW, w.before args s = true := fun w hw => hts w (List.mem_cons_of_mem _ hw)
  have hcm : ∀ w ∈ gW, w ∈ wU yX7_best cX7_best 8 (some .int) := fun w hw => List.mem_cons_of_mem _ hw
  have hown : s.vm.findClass RX7 = some m.cls := findClass_of_methodNamed B.named
  have hlocks := B.notSynchronized
  have hF : CallFix p m c cX7_best 8 s args (wU yX7_best cX7_best 8 (some .int)) RX7 := ⟨hx, hb, hml, hown, hts⟩
  have hK := hPre.2.1
  have hZ := hPre.2.2.2
  have hw : Wd D cy shM ad nM (Aw ad nM) s.heap M s.heap [] := ⟨hPre.1, hPre.2.2.1, va_S.rf⟩
  have iw7 : ∀ w ∈ u_ws RX7 TX7 30, w ∈ wU yX7_best cX7_best 8 (some .int) := fun w hw => List.mem_cons_of_mem _ (iX7 w hw)
  rw [show entryFrame m args 8 = entryFrame m ([.ref (ad o0), .int a1] : List Value).toArray 8 from by rw [hargs]]
  have hl := lv_entry ([.ref (ad o0), .int a1]) (n := 8) (Nat.le_of_ble_eq_true rfl)
  rw [lg_entry_eq]
  generalize (lg_sl ([.ref (ad o0), .int a1]) ++ List.replicate (8 - (lg_sl ([.ref (ad o0), .int a1])).length) Slot.unset).toArray = ls at hl ⊢
  have hl : lv_has ls 8 [(0, .ref (ad o0)), (1, .int a1)] := hl
  have hb105 : ∀ (k69 : Mm → Nat → Int32 → Int32 → Int64 → Int32 → Option (Mm × Int32)) (hk69 : ∀ (M : Mm) (x0 : Nat) (x1 : Int32) (x2 : Int32) (x3 : Int64) (x5 : Int32), k69 M x0 x1 x2 x3 x5 = some res → ∀ (H : Heap) (locs : List Loc) (ls : Array Slot), Wd D cy shM ad nM (Aw ad nM) s.heap M H locs → lv_has ls 8 [(0, .ref (ad x0)), (1, .int x1), (2, .int x2), (3, .long x3), (5, .int x5)] → W p l e (headSpec (wU yX7_best cX7_best 8 (some .int)) rmX7_best).room s m args below meth c H locs 0 0 (QI D cy shM ad nM adK adV below args s res) (F0 m 69 ls [])), ∀ (M : Mm) (x0 : Nat) (x1 : Int32) (x2 : Int32) (x3 : Int64) (x5 : Int32), f_X7_best_b105 k69 M x0 x1 x2 x3 x5 = some res → ∀ (H : Heap) (locs : List Loc) (ls : Array Slot), Wd D cy shM ad nM (Aw ad nM) s.heap M H locs → lv_has ls 8 [(0, .ref (ad x0)), (1, .int x1), (2, .int x2), (3, .long x3), (5, .int x5)] → W p l e (headSpec (wU yX7_best cX7_best 8 (some .int)) rmX7_best).room s m args below meth c H locs 0 0 (QI D cy shM ad nM adK adV below args s res) (F0 m 105 ls []) := by
    intro k69 hk69
    intro M x0 x1 x2 x3 x5 h H locs ls hw hl
    unfold f_X7_best_b105 at h
    refine lv_iinc (v := x5 + (1 : Int32)) (lv' := [(5, .int (x5 + (1 : Int32))), (0, .ref (ad x0)), (1, .int x1), (2, .int x2), (3, .long x3)]) hx hb dX7_best_105 hl (k := 4) rfl (congrArg (fun z => x5 + z) (by decide)) (by decide) rfl (fun ls hl => ?_)
    refine lv_goto (tgt := 69) hx hb dX7_best_108 (by decide) ?_
    exact hk69 _ _ _ _ _ _ h _ _ _ hw (lv_sub hl [1, 2, 3, 4, 0] rfl)
  have hb99 : ∀ (k69 : Mm → Nat → Int32 → Int32 → Int64 → Int32 → Option (Mm × Int32)) (hk69 : ∀ (M : Mm) (x0 : Nat) (x1 : Int32) (x2 : Int32) (x3 : Int64) (x5 : Int32), k69 M x0 x1 x2 x3 x5 = some res → ∀ (H : Heap) (locs : List Loc) (ls : Array Slot), Wd D cy shM ad nM (Aw ad nM) s.heap M H locs → lv_has ls 8 [(0, .ref (ad x0)), (1, .int x1), (2, .int x2), (3, .long x3), (5, .int x5)] → W p l e (headSpec (wU yX7_best cX7_best 8 (some .int)) rmX7_best).room s m args below meth c H locs 0 0 (QI D cy shM ad nM adK adV below args s res) (F0 m 69 ls [])), ∀ (M : Mm) (x0 : Nat) (x1 : Int32) (x5 : Int32) (x6 : Int64), f_X7_best_b99 k69 M x0 x1 x5 x6 = some res → ∀ (H : Heap) (locs : List Loc) (ls : Array Slot), Wd D cy shM ad nM (Aw ad nM) s.heap M H locs → lv_has ls 8 [(0, .ref (ad x0)), (1, .int x1), (5, .int x5), (6, .long x6)] → W p l e (headSpec (wU yX7_best cX7_best 8 (some .int)) rmX7_best).room s m args below meth c H locs 0 0 (QI D cy shM ad nM adK adV below args s res) (F0 m 99 ls []) := by
    intro k69 hk69
    intro M x0 x1 x5 x6 h H locs ls hw hl
    unfold f_X7_best_b99 at h
    refine lv_iload hx hb dX7_best_99 (lv_at hl 2 rfl) ?_
    refine lv_istore_n (lv' := [(2, .int x5), (0, .ref (ad x0)), (1, .int x1), (5, .int x5), (6, .long x6)]) hx hb dX7_best_101 rfl hl (by decide) rfl (fun ls hl => ?_)
    refine lv_lload hx hb dX7_best_102 (lv_at hl 4 rfl) ?_
    refine lv_lstore_n (lv' := [(3, .long x6), (2, .int x5), (0, .ref (ad x0)), (1, .int x1), (5, .int x5), (6, .long x6)]) hx hb dX7_best_104 rfl hl (by decide) rfl (fun ls hl => ?_)
    exact hb105 _ hk69 _ _ _ _ _ _ h _ _ _ hw (lv_sub hl [2, 3, 1, 0, 4] rfl)
  have hb69 : ∀ (nn : Nat), ∀ (M : Mm) (x0 : Nat) (x1 : Int32) (x2 : Int32) (x3 : Int64) (x5 : Int32), f_X7_best_b69 nn M x0 x1 x2 x3 x5 = some res → ∀ (H : Heap) (locs : List Loc) (ls : Array Slot), Wd D cy shM ad nM (Aw ad nM) s.heap M H locs → lv_has ls 8 [(0, .ref (ad x0)), (1, .int x1), (2, .int x2), (3, .long x3), (5, .int x5)] → W p l e (headSpec (wU yX7_best cX7_best 8 (some .int)) rmX7_best).room s m args below meth c H locs 0 0 (QI D cy shM ad nM adK adV below args s res) (F0 m 69 ls []) := by
    intro nn
    induction nn with
    | zero => intro M x0 x1 x2 x3 x5 h; simp [f_X7_best_b69] at h
    | succ nn ih =>
      intro M x0 x1 x2 x3 x5 h H locs ls hw hl
      unfold f_X7_best_b69 at h
      refine lv_iload hx hb dX7_best_69 (lv_at hl 4 rfl) ?_
      refine lv_iconst (v := (3 : Int32)) hx hb dX7_best_71 (by decide) ?_
      refine lv_icmp_gt (tgt := 111) hx hb dX7_best_72 (by decide) (fun c1 => ?_) (fun c1 => ?_)
      · replace h := if_some_t c1 h
        refine lv_aload_n hx hb dX7_best_111 rfl (lv_at hl 0 rfl) ?_
        refine lv_iconst (v := (-1 : Int32)) hx hb dX7_best_112 (by decide) ?_
        replace h := gd_some h
        obtain ⟨g2, h⟩ := h
        refine r_putI hx hb hts iw7 tyX7 tyX7_ok nmX7 hown hK hw x0 5 g2 (by decide) rfl (by decide) rfl (hq _ qw895) (fun _ h9 => h9) rfl rfl rfl dX7_best_113 (fun H locs hw => ?_)
        replace h := lt_some h
        obtain ⟨M3, eM3, h⟩ := h
        rw [← eM3] at hw
        refine lv_iload_n hx hb dX7_best_116 rfl (lv_at hl 2 rfl) ?_
        exact r_iret hx hb hr rfl hlocks hZ hK hw h dX7_best_117
      · replace h := if_some_f c1 h
        refine lv_aload_n hx hb dX7_best_75 rfl (lv_at hl 0 rfl) ?_
        refine lv_iload hx hb dX7_best_76 (lv_at hl 4 rfl) ?_
        replace h := gd_some h
        obtain ⟨g4, h⟩ := h
        refine r_putI hx hb hts iw7 tyX7 tyX7_ok nmX7 hown hK hw x0 7 g4 (by decide) rfl (by decide) rfl (hq _ qw897) (fun _ h9 => h9) rfl rfl rfl dX7_best_78 (fun H locs hw => ?_)
        replace h := lt_some h
        obtain ⟨M5, eM5, h⟩ := h
        rw [← eM5] at hw
        refine lv_aload_n hx hb dX7_best_81 rfl (lv_at hl 0 rfl) ?_
        refine lv_iload_n hx hb dX7_best_82 rfl (lv_at hl 1 rfl) ?_
        replace h := bd_some h
        obtain ⟨r6, er6, h⟩ := h
        refine r_callVl (As := [.int x1]) (rest := []) hF (c_X7_meanOf l D cy ad adK adV M5 x0 x1 r6 er6) (gW_goodV hcm qw1256 qw1253 qw1255 qw56 qw68) hdX7_meanOf rfl ⟨Nat.le_of_ble_eq_true rfl, Nat.le_of_ble_eq_true rfl⟩ rfl rfl hZ hK hw g4 (by decide) rfl rfl hl.1 rfl (Nat.le_of_ble_eq_true rfl) ⟨Nat.zero_le _, Nat.zero_le _⟩ dX7_best_83 (fun H locs hw => ?_)
        refine lv_lstore (lv' := [(6, .long r6.2), (0, .ref (ad x0)), (1, .int x1), (2, .int x2), (3, .long x3), (5, .int x5)]) hx hb dX7_best_86 hl (by decide) rfl (fun ls hl => ?_)
        refine lv_iload_n hx hb dX7_best_88 rfl (lv_at hl 3 rfl) ?_
        refine lv_if_lt (tgt := 99) hx hb dX7_best_89 (by decide) (fun c7 => ?_) (fun c7 => ?_)
        · replace h := if_some_t c7 h
          exact hb99 _ ih _ _ _ _ _ h _ _ _ hw (lv_sub hl [1, 2, 5, 0] rfl)
        · replace h := if_some_f c7 h
          refine lv_lload hx hb dX7_best_92 (lv_at hl 0 rfl) ?_
          refine lv_lload_n hx hb dX7_best_94 rfl (lv_at hl 4 rfl) ?_
          refine W.lcmp hx hb dX7_best_95 ?_
          refine lv_if_le (tgt := 105) hx hb dX7_best_96 (by decide) (fun c8 => ?_) (fun c8 => ?_)
          · replace h := if_some_t c8 h
            exact hb105 _ ih _ _ _ _ _ _ h _ _ _ hw (lv_sub hl [1, 2, 3, 4, 5] rfl)
          · replace h := if_some_f c8 h
            exact hb99 _ ih _ _ _ _ _ h _ _ _ hw (lv_sub hl [1, 2, 5, 0] rfl)
  unfold f_X7_best at h
  refine lv_aload_n hx hb dX7_best_0 rfl (lv_at hl 0 rfl) ?_
  refine lv_iload_n hx hb dX7_best_1 rfl (lv_at hl 1 rfl) ?_
  replace h := gd_some h
  obtain ⟨g10, h⟩ := h
  replace h := bd_some h
  obtain ⟨r9, er9, h⟩ := h
  refine r_callVi (As := [.int a1]) (rest := []) hF (c_X7_isSide l D cy ad adK adV M o0 a1 r9 er9) (gW_goodV hcm qw1004 qw1001 qw1003 qw21 qw68) hdX7_isSide rfl ⟨Nat.le_of_ble_eq_true rfl, Nat.le_of_ble_eq_true rfl⟩ rfl rfl hZ hK hw g10 (by decide) rfl rfl hl.1 rfl (Nat.le_of_ble_eq_true rfl) ⟨Nat.zero_le _, Nat.zero_le _⟩ dX7_best_2 (fun H locs hw => ?_)
  refine lv_if_ne (tgt := 14) hx hb dX7_best_5 (by decide) (fun c11 => ?_) (fun c11 => ?_)
  · replace h := if_some_f c11 h
    refine lv_aload_n hx hb dX7_best_14 rfl (lv_at hl 0 rfl) ?_
    replace h := bd_some h
    obtain ⟨r12, er12, h⟩ := h
    refine r_callVi (As := []) (rest := []) hF (c_X7_isOver l D cy ad adK adV r9.1 o0 r12 er12) (gW_goodV hcm qw1140 qw1137 qw1139 qw42 qw68) hdX7_isOver rfl ⟨Nat.le_of_ble_eq_true rfl, Nat.le_of_ble_eq_true rfl⟩ rfl rfl hZ hK hw g10 (by decide) rfl rfl hl.1 rfl (Nat.le_of_ble_eq_true rfl) ⟨Nat.zero_le _, Nat.zero_le _⟩ dX7_best_15 (fun H locs hw => ?_)
    refine lv_if_eq (tgt := 27) hx hb dX7_best_18 (by decide) (fun c13 => ?_) (fun c13 => ?_)
    · replace h := if_some_t c13 h
      refine lv_aload_n hx hb dX7_best_27 rfl (lv_at hl 0 rfl) ?_
      refine lv_iload_n hx hb dX7_best_28 rfl (lv_at hl 1 rfl) ?_
      refine lv_aload_n hx hb dX7_best_29 rfl (lv_at hl 0 rfl) ?_
      replace h := bd_some h
      obtain ⟨q14, eq14, h⟩ := h
      refine r_getR hx hb hts iw7 hown hK hw o0 0 g10 (by decide) rfl (by decide) rfl (hq _ qw890) (fun _ h9 => h9) dX7_best_30 eq14 ?_
      refine lv_iconst (v := (2 : Int32)) hx hb dX7_best_33 (by decide) ?_
      replace h := gd_some h
      obtain ⟨g15, h⟩ := h
      refine r_iald hx hb hK hw q14 g15 dX7_best_34 ?_
      replace h := bd_some h
      obtain ⟨r16, er16, h⟩ := h
      refine r_callVi (As := [.int a1, .int (r12.1.1 q14 (2 : Int32).toNatClampNeg)]) (rest := []) hF (c_X7_plays l D cy ad adK adV r12.1 o0 a1 (r12.1.1 q14 (2 : Int32).toNatClampNeg) r16 er16) (gW_goodV hcm qw1020 qw1017 qw1019 qw25 qw68) hdX7_plays rfl ⟨Nat.le_of_ble_eq_true rfl, Nat.le_of_ble_eq_true rfl⟩ rfl rfl hZ hK hw g10 (by decide) rfl rfl hl.1 rfl (Nat.le_of_ble_eq_true rfl) ⟨Nat.zero_le _, Nat.zero_le _⟩ dX7_best_35 (fun H locs hw => ?_)
      refine lv_if_ne (tgt := 47) hx hb dX7_best_38 (by decide) (fun c17 => ?_) (fun c17 => ?_)
      · replace h := if_some_f c17 h
        refine lv_aload_n hx hb dX7_best_47 rfl (lv_at hl 0 rfl) ?_
        refine lv_aload_n hx hb dX7_best_48 rfl (lv_at hl 0 rfl) ?_
        replace h := bd_some h
        obtain ⟨q18, eq18, h⟩ := h
        refine r_getR hx hb hts iw7 hown hK hw o0 0 g10 (by decide) rfl (by decide) rfl (hq _ qw890) (fun _ h9 => h9) dX7_best_49 eq18 ?_
        refine lv_iconst (v := (2 : Int32)) hx hb dX7_best_52 (by decide) ?_
        replace h := gd_some h
        obtain ⟨g19, h⟩ := h
        refine r_iald hx hb hK hw q18 g19 dX7_best_53 ?_
        refine r_putI hx hb hts iw7 tyX7 tyX7_ok nmX7 hown hK hw o0 5 g10 (by decide) rfl (by decide) rfl (hq _ qw895) (fun _ h9 => h9) rfl rfl rfl dX7_best_54 (fun H locs hw => ?_)
        replace h := lt_some h
        obtain ⟨M20, eM20, h⟩ := h
        rw [← eM20] at hw
        refine lv_aload_n hx hb dX7_best_57 rfl (lv_at hl 0 rfl) ?_
        refine lv_iload_n hx hb dX7_best_58 rfl (lv_at hl 1 rfl) ?_
        refine r_putI hx hb hts iw7 tyX7 tyX7_ok nmX7 hown hK hw o0 6 g10 (by decide) rfl (by decide) rfl (hq _ qw896) (fun _ h9 => h9) rfl rfl rfl dX7_best_59 (fun H locs hw => ?_)
        replace h := lt_some h
        obtain ⟨M21, eM21, h⟩ := h
        rw [← eM21] at hw
        refine lv_iconst (v := (-1 : Int32)) hx hb dX7_best_62 (by decide) ?_
        refine lv_istore_n (lv' := [(2, .int (-1 : Int32)), (0, .ref (ad o0)), (1, .int a1)]) hx hb dX7_best_63 rfl hl (by decide) rfl (fun ls hl => ?_)
        refine lv_lconst (v := (0 : Int64)) hx hb dX7_best_64 (by decide) ?_
        refine lv_lstore_n (lv' := [(3, .long (0 : Int64)), (2, .int (-1 : Int32)), (0, .ref (ad o0)), (1, .int a1)]) hx hb dX7_best_65 rfl hl (by decide) rfl (fun ls hl => ?_)
        refine lv_iconst (v := (0 : Int32)) hx hb dX7_best_66 (by decide) ?_
        refine lv_istore (lv' := [(5, .int (0 : Int32)), (3, .long (0 : Int64)), (2, .int (-1 : Int32)), (0, .ref (ad o0)), (1, .int a1)]) hx hb dX7_best_67 hl (by decide) rfl (fun ls hl => ?_)
        exact hb69 1000 _ _ _ _ _ _ h _ _ _ hw (lv_sub hl [3, 4, 2, 1, 0] rfl)
      · replace h := if_some_t c17 h
        refine lv_aload_n hx hb dX7_best_41 rfl (lv_at hl 0 rfl) ?_
        refine lv_iconst (v := (4 : Int32)) hx hb dX7_best_42 (by decide) ?_
        replace h := bd_some h
        obtain ⟨r22, er22, h⟩ := h
        refine r_callVi (As := [.int (4 : Int32)]) (rest := []) hF (c_X7_finding l D cy ad adK adV r16.1 o0 (4 : Int32) r22 er22) (gW_goodV hcm qw991 qw988 qw990 qw19 qw68) hdX7_finding rfl ⟨Nat.le_of_ble_eq_true rfl, Nat.le_of_ble_eq_true rfl⟩ rfl rfl hZ hK hw g10 (by decide) rfl rfl hl.1 rfl (Nat.le_of_ble_eq_true rfl) ⟨Nat.zero_le _, Nat.zero_le _⟩ dX7_best_43 (fun H locs hw => ?_)
        exact r_iret hx hb hr rfl hlocks hZ hK hw h dX7_best_46
    · replace h := if_some_f c13 h
      refine lv_aload_n hx hb dX7_best_21 rfl (lv_at hl 0 rfl) ?_
      refine lv_iconst (v := (3 : Int32)) hx hb dX7_best_22 (by decide) ?_
      replace h := bd_some h
      obtain ⟨r23, er23, h⟩ := h
      refine r_callVi (As := [.int (3 : Int32)]) (rest := []) hF (c_X7_finding l D cy ad adK adV r12.1 o0 (3 : Int32) r23 er23) (gW_goodV hcm qw991 qw988 qw990 qw19 qw68) hdX7_finding rfl ⟨Nat.le_of_ble_eq_true rfl, Nat.le_of_ble_eq_true rfl⟩ rfl rfl hZ hK hw g10 (by decide) rfl rfl hl.1 rfl (Nat.le_of_ble_eq_true rfl) ⟨Nat.zero_le _, Nat.zero_le _⟩ dX7_best_23 (fun H locs hw => ?_)
      exact r_iret hx hb hr rfl hlocks hZ hK hw h dX7_best_26
  · replace h := if_some_t c11 h
    refine lv_aload_n hx hb dX7_best_8 rfl (lv_at hl 0 rfl) ?_
    refine lv_iconst (v := (0 : Int32)) hx hb dX7_best_9 (by decide) ?_
    replace h := bd_some h
    obtain ⟨r24, er24, h⟩ := h
    refine r_callVi (As := [.int (0 : Int32)]) (rest := []) hF (c_X7_finding l D cy ad adK adV r9.1 o0 (0 : Int32) r24 er24) (gW_goodV hcm qw991 qw988 qw990 qw19 qw68) hdX7_finding rfl ⟨Nat.le_of_ble_eq_true rfl, Nat.le_of_ble_eq_true rfl⟩ rfl rfl hZ hK hw g10 (by decide) rfl rfl hl.1 rfl (Nat.le_of_ble_eq_true rfl) ⟨Nat.zero_le _, Nat.zero_le _⟩ dX7_best_10 (fun H locs hw => ?_)
    exact r_iret hx hb hr rfl hlocks hZ hK hw h dX7_best_13

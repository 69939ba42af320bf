theorem dX7_text_0 : decode cX7_text 0 = .ok (.aload_n 0, 1) := by decide +kernel
theorem dX7_text_1 : decode cX7_text 1 = .ok (.getfield 7, 3) := by decide +kernel
theorem dX7_text_4 : decode cX7_text 4 = .ok (.aload_n 0, 1) := by decide +kernel
theorem dX7_text_5 : decode cX7_text 5 = .ok (.getfield 16, 3) := by decide +kernel
theorem dX7_text_8 : decode cX7_text 8 = .ok (.invokestatic 220, 3) := by decide +kernel
theorem dX7_text_11 : decode cX7_text 11 = .ok (.aload_n 0, 1) := by decide +kernel
theorem dX7_text_12 : decode cX7_text 12 = .ok (.invokevirtual 224, 3) := by decide +kernel
theorem dX7_text_15 : decode cX7_text 15 = .ok (.istore_n 1, 1) := by decide +kernel
theorem dX7_text_16 : decode cX7_text 16 = .ok (.aload_n 0, 1) := by decide +kernel
theorem dX7_text_17 : decode cX7_text 17 = .ok (.iconst 0, 1) := by decide +kernel
theorem dX7_text_18 : decode cX7_text 18 = .ok (.putfield 138, 3) := by decide +kernel
theorem dX7_text_21 : decode cX7_text 21 = .ok (.iload_n 1, 1) := by decide +kernel
theorem dX7_text_22 : decode cX7_text 22 = .ok (.ifCond .ne 21, 3) := by decide +kernel
theorem dX7_text_25 : decode cX7_text 25 = .ok (.aload_n 0, 1) := by decide +kernel
theorem dX7_text_26 : decode cX7_text 26 = .ok (.getfield 16, 3) := by decide +kernel
theorem dX7_text_29 : decode cX7_text 29 = .ok (.aload_n 0, 1) := by decide +kernel
theorem dX7_text_30 : decode cX7_text 30 = .ok (.getfield 7, 3) := by decide +kernel
theorem dX7_text_33 : decode cX7_text 33 = .ok (.invokestatic 220, 3) := by decide +kernel
theorem dX7_text_36 : decode cX7_text 36 = .ok (.iconst (-1), 1) := by decide +kernel
theorem dX7_text_37 : decode cX7_text 37 = .ok (.aload_n 0, 1) := by decide +kernel
theorem dX7_text_38 : decode cX7_text 38 = .ok (.getfield 147, 3) := by decide +kernel
theorem dX7_text_41 : decode cX7_text 41 = .ok (.isub, 1) := by decide +kernel
theorem dX7_text_42 : decode cX7_text 42 = .ok (.ireturn, 1) := by decide +kernel
theorem dX7_text_43 : decode cX7_text 43 = .ok (.aload_n 0, 1) := by decide +kernel
theorem dX7_text_44 : decode cX7_text 44 = .ok (.getfield 214, 3) := by decide +kernel
theorem dX7_text_47 : decode cX7_text 47 = .ok (.ireturn, 1) := by decide +kernel
set_option maxHeartbeats 4000000 in
set_option maxRecDepth 100000 in
theorem c_X7_text (l : Launch) (D : va_G) (cy : Nat → ClassId) (ad adK adV : Nat → Nat) (M : Mm) (o0 : Nat) (res : Mm × Int32) (h : f_X7_text M o0 = some res) : Met l yX7_text (wU yX7_text cX7_text 2 (some .int)) rmX7_text (va_Pc [.ref (ad o0)] (Pre D cy shM ad nM adK adV M)) (va_Qi (fun r (M2 : Mm) => r = res.2 ∧ M2 = res.1) (Pre D cy shM ad nM adK adV) (Aw ad nM)) 0 0 (Aw ad nM) := by
  refine Met.ofW (cc := cX7_text) (maxL := 2) (ret := (some .int)) (by decide) rfl ?_
  intro p e s m args below meth c s₁ B hml hv
  obtain ⟨hargs, hPre⟩ := hv
  have hx := B.exec
  have hb := B.bytes
  have hr := B.returns
  have hts := atoms_spec (ws := wU yX7_text cX7_text 2 (some .int)) B.pre
  have hq : ∀ w ∈ gW, w.before args s = true := fun w hw => hts w (List.mem_cons_of_mem _ hw)
  have hcm : ∀ w ∈ gW, w ∈ wU yX7_text cX7_text 2 (some .int) := fun w hw => List.mem_cons_of_mem _ hw
  have hown : s.vm.findClass RX7 = some m.cls := findClass_of_methodNamed B.named
  have hlocks := B.notSynchronized
  have hF : CallFix p m c cX7_text 2 s args (wU yX7_text cX7_text 2 (some .int)) RX7 := ⟨hx, hb, hml, hown, hts⟩
  have hK := hPre.2.1
  have hZ := hPre.2.2.2
  have hw : Wd D cy shM ad nM (Aw ad nM) s.heap M s.heap [] := ⟨hPre.1, hPre.2.2.1, va_S.rf⟩
  have iw7 : ∀ w ∈ u_ws RX7 TX7 30, w ∈ wU yX7_text cX7_text 2 (some .int) := fun w hw => List.mem_cons_of_mem _ (iX7 w hw)
  rw [show entryFrame m args 2 = entryFrame m ([.ref (ad o0)] : List Value).toArray 2 from by rw [hargs]]
  have hl := lv_entry ([.ref (ad o0)]) (n := 2) (Nat.le_of_ble_eq_true rfl)
  rw [lg_entry_eq]
  generalize (lg_sl ([.ref (ad o0)]) ++ List.replicate (2 - (lg_sl ([.ref (ad o0)])).length) Slot.unset).toArray = ls at hl ⊢
  have hl : lv_has ls 2 [(0, .ref (ad o0))] := hl
  unfold f_X7_text at h
  refine lv_aload_n hx hb dX7_text_0 rfl (lv_at hl 0 rfl) ?_
  replace h := gd_some h
  obtain ⟨g1, h⟩ := h
  replace h := bd_some h
  obtain ⟨q2, eq2, h⟩ := h
  refine r_getR hx hb hts iw7 hown hK hw o0 0 g1 (by decide) rfl (by decide) rfl (hq _ qw890) (fun _ h9 => h9) dX7_text_1 eq2 ?_
  refine lv_aload_n hx hb dX7_text_4 rfl (lv_at hl 0 rfl) ?_
  replace h := bd_some h
  obtain ⟨q3, eq3, h⟩ := h
  refine r_getR hx hb hts iw7 hown hK hw o0 2 g1 (by decide) rfl (by decide) rfl (hq _ qw892) (fun _ h9 => h9) dX7_text_5 eq3 ?_
  replace h := bd_some h
  obtain ⟨r4, er4, h⟩ := h
  refine r_callSv (As := [.ref (ad q2), .ref (ad q3)]) (rest := []) hF (c_X7_carry l D cy ad adK adV M q2 q3 r4 er4) (gW_goodS hcm qw1079 qw1077 qw1078 qw68) hdX7_carry ⟨Nat.le_of_ble_eq_true rfl, Nat.le_of_ble_eq_true rfl⟩ rfl rfl hZ hK hw rfl hl.1 rfl (Nat.le_of_ble_eq_true rfl) ⟨Nat.zero_le _, Nat.zero_le _⟩ dX7_text_8 (fun H locs hw => ?_)
  refine lv_aload_n hx hb dX7_text_11 rfl (lv_at hl 0 rfl) ?_
  replace h := bd_some h
  obtain ⟨r5, er5, h⟩ := h
  refine r_callVi (As := []) (rest := []) hF (c_X7_takesAll l D cy ad adK adV r4.1 o0 r5 er5) (gW_goodV hcm qw1083 qw1080 qw1082 qw32 qw68) hdX7_takesAll rfl ⟨Nat.le_of_ble_eq_true rfl, Nat.le_of_ble_eq_true rfl⟩ rfl rfl hZ hK hw g1 (by decide) rfl rfl hl.1 rfl (Nat.le_of_ble_eq_true rfl) ⟨Nat.zero_le _, Nat.zero_le _⟩ dX7_text_12 (fun H locs hw => ?_)
  refine lv_istore_n (lv' := [(1, .int r5.2), (0, .ref (ad o0))]) hx hb dX7_text_15 rfl hl (by decide) rfl (fun ls hl => ?_)
  refine lv_aload_n hx hb dX7_text_16 rfl (lv_at hl 1 rfl) ?_
  refine lv_iconst (v := (0 : Int32)) hx hb dX7_text_17 (by decide) ?_
  refine r_putI hx hb hts iw7 tyX7 tyX7_ok nmX7 hown hK hw o0 9 g1 (by decide) rfl (by decide) rfl (hq _ qw899) (fun _ h9 => h9) rfl rfl rfl dX7_text_18 (fun H locs hw => ?_)
  replace h := lt_some h
  obtain ⟨M6, eM6, h⟩ := h
  rw [← eM6] at hw
  refine lv_iload_n hx hb dX7_text_21 rfl (lv_at hl 0 rfl) ?_
  refine lv_if_ne (tgt := 43) hx hb dX7_text_22 (by decide) (fun c7 => ?_) (fun c7 => ?_)
  · replace h := if_some_f c7 h
    refine lv_aload_n hx hb dX7_text_43 rfl (lv_at hl 1 rfl) ?_
    refine r_getI hx hb hts iw7 hown hK hw o0 15 g1 (by decide) rfl (by decide) rfl (hq _ qw905) (fun _ h9 => h9) dX7_text_44 ?_
    exact r_iret hx hb hr rfl hlocks hZ hK hw h dX7_text_47
  · replace h := if_some_t c7 h
    refine lv_aload_n hx hb dX7_text_25 rfl (lv_at hl 1 rfl) ?_
    replace h := bd_some h
    obtain ⟨q8, eq8, h⟩ := h
    refine r_getR hx hb hts iw7 hown hK hw o0 2 g1 (by decide) rfl (by decide) rfl (hq _ qw892) (fun _ h9 => h9) dX7_text_26 eq8 ?_
    refine lv_aload_n hx hb dX7_text_29 rfl (lv_at hl 1 rfl) ?_
    replace h := bd_some h
    obtain ⟨q9, eq9, h⟩ := h
    refine r_getR hx hb hts iw7 hown hK hw o0 0 g1 (by decide) rfl (by decide) rfl (hq _ qw890) (fun _ h9 => h9) dX7_text_30 eq9 ?_
    replace h := bd_some h
    obtain ⟨r10, er10, h⟩ := h
    refine r_callSv (As := [.ref (ad q8), .ref (ad q9)]) (rest := []) hF (c_X7_carry l D cy ad adK adV M6 q8 q9 r10 er10) (gW_goodS hcm qw1079 qw1077 qw1078 qw68) hdX7_carry ⟨Nat.le_of_ble_eq_true rfl, Nat.le_of_ble_eq_true rfl⟩ rfl rfl hZ hK hw rfl hl.1 rfl (Nat.le_of_ble_eq_true rfl) ⟨Nat.zero_le _, Nat.zero_le _⟩ dX7_text_33 (fun H locs hw => ?_)
    refine lv_iconst (v := (-1 : Int32)) hx hb dX7_text_36 (by decide) ?_
    refine lv_aload_n hx hb dX7_text_37 rfl (lv_at hl 1 rfl) ?_
    refine r_getI hx hb hts iw7 hown hK hw o0 12 g1 (by decide) rfl (by decide) rfl (hq _ qw902) (fun _ h9 => h9) dX7_text_38 ?_
    refine lv_isub hx hb dX7_text_41 ?_
    exact r_iret hx hb hr rfl hlocks hZ hK hw h dX7_text_42
theorem dX7_next_0 : decode cX7_next 0 = .ok (.iload_n 1, 1) := by decide +kernel
theorem dX7_next_1 : decode cX7_next 1 = .ok (.iconst 0, 1) := by decide +kernel
theorem dX7_next_2 : decode cX7_next 2 = .ok (.iconst 4, 1) := by decide +kernel
theorem dX7_next_3 : decode cX7_next 3 = .ok (.invokestatic 67, 3) := by decide +kernel
theorem dX7_next_6 : decode cX7_next 6 = .ok (.ifCond .ne 9, 3) := by decide +kernel
theorem dX7_next_9 : decode cX7_next 9 = .ok (.aload_n 0, 1) := by decide +kernel
theorem dX7_next_10 : decode cX7_next 10 = .ok (.iconst 0, 1) := by decide +kernel
theorem dX7_next_11 : decode cX7_next 11 = .ok (.invokevirtual 115, 3) := by decide +kernel
theorem dX7_next_14 : decode cX7_next 14 = .ok (.ireturn, 1) := by decide +kernel
theorem dX7_next_15 : decode cX7_next 15 = .ok (.aload_n 0, 1) := by decide +kernel
theorem dX7_next_16 : decode cX7_next 16 = .ok (.invokevirtual 227, 3) := by decide +kernel
theorem dX7_next_19 : decode cX7_next 19 = .ok (.ifCond .eq 9, 3) := by decide +kernel
theorem dX7_next_22 : decode cX7_next 22 = .ok (.aload_n 0, 1) := by decide +kernel
theorem dX7_next_23 : decode cX7_next 23 = .ok (.iconst 3, 1) := by decide +kernel
theorem dX7_next_24 : decode cX7_next 24 = .ok (.invokevirtual 115, 3) := by decide +kernel
theorem dX7_next_27 : decode cX7_next 27 = .ok (.ireturn, 1) := by decide +kernel
theorem dX7_next_28 : decode cX7_next 28 = .ok (.aload_n 0, 1) := by decide +kernel
theorem dX7_next_29 : decode cX7_next 29 = .ok (.getfield 7, 3) := by decide +kernel
theorem dX7_next_32 : decode cX7_next 32 = .ok (.iconst 2, 1) := by decide +kernel
theorem dX7_next_33 : decode cX7_next 33 = .ok (.iaload, 1) := by decide +kernel
theorem dX7_next_34 : decode cX7_next 34 = .ok (.istore_n 2, 1) := by decide +kernel
theorem dX7_next_35 : decode cX7_next 35 = .ok (.aload_n 0, 1) := by decide +kernel
theorem dX7_next_36 : decode cX7_next 36 = .ok (.aload_n 0, 1) := by decide +kernel
theorem dX7_next_37 : decode cX7_next 37 = .ok (.iload_n 2, 1) := by decide +kernel
theorem dX7_next_38 : decode cX7_next 38 = .ok (.iconst 0, 1) := by decide +kernel
theorem dX7_next_39 : decode cX7_next 39 = .ok (.invokevirtual 71, 3) := by decide +kernel
theorem dX7_next_42 : decode cX7_next 42 = .ok (.iload_n 2, 1) := by decide +kernel
theorem dX7_next_43 : decode cX7_next 43 = .ok (.invokevirtual 108, 3) := by decide +kernel
theorem dX7_next_46 : decode cX7_next 46 = .ok (.istore_n 3, 1) := by decide +kernel
theorem dX7_next_47 : decode cX7_next 47 = .ok (.aload_n 0, 1) := by decide +kernel
theorem dX7_next_48 : decode cX7_next 48 = .ok (.aload_n 0, 1) := by decide +kernel
theorem dX7_next_49 : decode cX7_next 49 = .ok (.iload_n 2, 1) := by decide +kernel
theorem dX7_next_50 : decode cX7_next 50 = .ok (.iconst 1, 1) := by decide +kernel
theorem dX7_next_51 : decode cX7_next 51 = .ok (.invokevirtual 71, 3) := by decide +kernel
theorem dX7_next_54 : decode cX7_next 54 = .ok (.iload_n 2, 1) := by decide +kernel
theorem dX7_next_55 : decode cX7_next 55 = .ok (.invokevirtual 108, 3) := by decide +kernel
theorem dX7_next_58 : decode cX7_next 58 = .ok (.istore 4, 2) := by decide +kernel
theorem dX7_next_60 : decode cX7_next 60 = .ok (.iload_n 1, 1) := by decide +kernel
theorem dX7_next_61 : decode cX7_next 61 = .ok (.tableswitch 57 0 3 #[31, 33, 36, 45], 31) := by decide +kernel
theorem dX7_next_92 : decode cX7_next 92 = .ok (.iload_n 3, 1) := by decide +kernel
theorem dX7_next_93 : decode cX7_next 93 = .ok (.ireturn, 1) := by decide +kernel
theorem dX7_next_94 : decode cX7_next 94 = .ok (.iload 4, 2) := by decide +kernel
theorem dX7_next_96 : decode cX7_next 96 = .ok (.ireturn, 1) := by decide +kernel
theorem dX7_next_97 : decode cX7_next 97 = .ok (.aload_n 0, 1) := by decide +kernel
theorem dX7_next_98 : decode cX7_next 98 = .ok (.iload_n 2, 1) := by decide +kernel
theorem dX7_next_99 : decode cX7_next 99 = .ok (.iload_n 3, 1) := by decide +kernel
theorem dX7_next_100 : decode cX7_next 100 = .ok (.iload 4, 2) := by decide +kernel
theorem dX7_next_102 : decode cX7_next 102 = .ok (.invokevirtual 230, 3) := by decide +kernel
theorem dX7_next_105 : decode cX7_next 105 = .ok (.ireturn, 1) := by decide +kernel
theorem dX7_next_106 : decode cX7_next 106 = .ok (.aload_n 0, 1) := by decide +kernel
theorem dX7_next_107 : decode cX7_next 107 = .ok (.aload_n 0, 1) := by decide +kernel
theorem dX7_next_108 : decode cX7_next 108 = .ok (.iload_n 2, 1) := by decide +kernel
theorem dX7_next_109 : decode cX7_next 109 = .ok (.iconst 0, 1) := by decide +kernel
theorem dX7_next_110 : decode cX7_next 110 = .ok (.invokevirtual 71, 3) := by decide +kernel
theorem dX7_next_113 : decode cX7_next 113 = .ok (.iload_n 3, 1) := by decide +kernel
theorem dX7_next_114 : decode cX7_next 114 = .ok (.invokevirtual 98, 3) := by decide +kernel
theorem dX7_next_117 : decode cX7_next 117 = .ok (.ireturn, 1) := by decide +kernel
theorem dX7_next_118 : decode cX7_next 118 = .ok (.aload_n 0, 1) := by decide +kernel
theorem dX7_next_119 : decode cX7_next 119 = .ok (.aload_n 0, 1) := by decide +kernel
theorem dX7_next_120 : decode cX7_next 120 = .ok (.iload_n 2, 1) := by decide +kernel
theorem dX7_next_121 : decode cX7_next 121 = .ok (.iconst 1, 1) := by decide +kernel
theorem dX7_next_122 : decode cX7_next 122 = .ok (.invokevirtual 71, 3) := by decide +kernel
theorem dX7_next_125 : decode cX7_next 125 = .ok (.iload 4, 2) := by decide +kernel
theorem dX7_next_127 : decode cX7_next 127 = .ok (.invokevirtual 98, 3) := by decide +kernel
theorem dX7_next_130 : decode cX7_next 130 = .ok (.ireturn, 1) := by decide +kernel
set_option maxHeartbeats 4000000 in
set_option maxRecDepth 100000 in
theorem c_X7_next (l : Launch) (D : va_G) (cy : Nat → ClassId) (ad adK adV : Nat → Nat) (M : Mm) (o0 : Nat) (a1 : Int32) (res : Mm × Int32) (h : f_X7_next M o0 a1 = some res) : Met l yX7_next (wU yX7_next cX7_next 5 (some .int)) rmX7_next (va_Pc [.ref (ad o0), .int a1] (Pre D cy shM ad nM adK adV M)) (va_Qi (fun r (M2 : Mm) => r = res.2 ∧ M2 = res.1) (Pre D cy shM ad nM adK adV) (Aw ad nM)) 0 0 (Aw ad nM) := by
  refine Met.ofW (cc := cX7_next) (maxL := 5) (ret := (some .int)) (by decide) rfl ?_
  intro p e s m args below meth c s₁ B hml hv
  obtain ⟨hargs, hPre⟩ := hv
  have hx := B.exec
  have hb := B.bytes
  have hr := B.returns
  have hts := atoms_spec (ws := wU yX7_next cX7_next 5 (some .int)) B.pre
  have hq : ∀ w ∈ gW, w.before args s = true := fun w hw => hts w (List.mem_cons_of_mem _ hw)
  have hcm : ∀ w ∈ gW, w ∈ wU yX7_next cX7_next 5 (some .int) := fun w hw => List.mem_cons_of_mem _ hw
  have hown : s.vm.findClass RX7 = some m.cls := findClass_of_methodNamed B.named
  have hlocks := B.notSynchronized
  have hF : CallFix p m c cX7_next 5 s args (wU yX7_next cX7_next 5 (some .int)) RX7 := ⟨hx, hb, hml, hown, hts⟩
  have hK := hPre.2.1
  have hZ := hPre.2.2.2
  have hw : Wd D cy shM ad nM (Aw ad nM) s.heap M s.heap [] := ⟨hPre.1, hPre.2.2.1, va_S.rf⟩
  have iw7 : ∀ w ∈ u_ws RX7 TX7 30, w ∈ wU yX7_next cX7_next 5 (some .int) := fun w hw => List.mem_cons_of_mem _ (iX7 w hw)
  rw [show entryFrame m args 5 = entryFrame m ([.ref (ad o0), .int a1] : List Value).toArray 5 from by rw [hargs]]
  have hl := lv_entry ([.ref (ad o0), .int a1]) (n := 5) (Nat.le_of_ble_eq_true rfl)
  rw [lg_entry_eq]
  generalize (lg_sl ([.ref (ad o0), .int a1]) ++ List.replicate (5 - (lg_sl ([.ref (ad o0), .int a1])).length) Slot.unset).toArray = ls at hl ⊢
  have hl : lv_has ls 5 [(0, .ref (ad o0)), (1, .int a1)] := hl
  unfold f_X7_next at h
  refine lv_iload_n hx hb dX7_next_0 rfl (lv_at hl 1 rfl) ?_
  refine lv_iconst (v := (0 : Int32)) hx hb dX7_next_1 (by decide) ?_
  refine lv_iconst (v := (4 : Int32)) hx hb dX7_next_2 (by decide) ?_
  replace h := bd_some h
  obtain ⟨r1, er1, h⟩ := h
  refine r_callSi (As := [.int a1, .int (0 : Int32), .int (4 : Int32)]) (rest := []) hF (c_X7_in l D cy ad adK adV M a1 (0 : Int32) (4 : Int32) r1 er1) (gW_goodS hcm qw987 qw985 qw986 qw68) hdX7_in ⟨Nat.le_of_ble_eq_true rfl, Nat.le_of_ble_eq_true rfl⟩ rfl rfl hZ hK hw rfl hl.1 rfl (Nat.le_of_ble_eq_true rfl) ⟨Nat.zero_le _, Nat.zero_le _⟩ dX7_next_3 (fun H locs hw => ?_)
  refine lv_if_ne (tgt := 15) hx hb dX7_next_6 (by decide) (fun c2 => ?_) (fun c2 => ?_)
  · replace h := if_some_f c2 h
    refine lv_aload_n hx hb dX7_next_15 rfl (lv_at hl 0 rfl) ?_
    replace h := gd_some h
    obtain ⟨g4, h⟩ := h
    replace h := bd_some h
    obtain ⟨r3, er3, h⟩ := h
    refine r_callVi (As := []) (rest := []) hF (c_X7_isOver l D cy ad adK adV r1.1 o0 r3 er3) (gW_goodV hcm qw1140 qw1137 qw1139 qw42 qw68) hdX7_isOver rfl ⟨Nat.le_of_ble_eq_true rfl, Nat.le_of_ble_eq_true rfl⟩ rfl rfl hZ hK hw g4 (by decide) rfl rfl hl.1 rfl (Nat.le_of_ble_eq_true rfl) ⟨Nat.zero_le _, Nat.zero_le _⟩ dX7_next_16 (fun H locs hw => ?_)
    refine lv_if_eq (tgt := 28) hx hb dX7_next_19 (by decide) (fun c5 => ?_) (fun c5 => ?_)
    · replace h := if_some_t c5 h
      refine lv_aload_n hx hb dX7_next_28 rfl (lv_at hl 0 rfl) ?_
      replace h := bd_some h
      obtain ⟨q6, eq6, h⟩ := h
      refine r_getR hx hb hts iw7 hown hK hw o0 0 g4 (by decide) rfl (by decide) rfl (hq _ qw890) (fun _ h9 => h9) dX7_next_29 eq6 ?_
      refine lv_iconst (v := (2 : Int32)) hx hb dX7_next_32 (by decide) ?_
      replace h := gd_some h
      obtain ⟨g7, h⟩ := h
      refine r_iald hx hb hK hw q6 g7 dX7_next_33 ?_
      refine lv_istore_n (lv' := [(2, .int (r3.1.1 q6 (2 : Int32).toNatClampNeg)), (0, .ref (ad o0)), (1, .int a1)]) hx hb dX7_next_34 rfl hl (by decide) rfl (fun ls hl => ?_)
      refine lv_aload_n hx hb dX7_next_35 rfl (lv_at hl 1 rfl) ?_
      refine lv_aload_n hx hb dX7_next_36 rfl (lv_at hl 1 rfl) ?_
      refine lv_iload_n hx hb dX7_next_37 rfl (lv_at hl 0 rfl) ?_
      refine lv_iconst (v := (0 : Int32)) hx hb dX7_next_38 (by decide) ?_
      replace h := bd_some h
      obtain ⟨r8, er8, h⟩ := h
      refine r_callVi (As := [.int (r3.1.1 q6 (2 : Int32).toNatClampNeg), .int (0 : Int32)]) (rest := [.ref (ad o0)]) hF (c_X7_of l D cy ad adK adV r3.1 o0 (r3.1.1 q6 (2 : Int32).toNatClampNeg) (0 : Int32) r8 er8) (gW_goodV hcm qw1012 qw1009 qw1011 qw23 qw68) hdX7_of rfl ⟨Nat.le_of_ble_eq_true rfl, Nat.le_of_ble_eq_true rfl⟩ rfl rfl hZ hK hw g4 (by decide) rfl rfl hl.1 rfl (Nat.le_of_ble_eq_true rfl) ⟨Nat.zero_le _, Nat.zero_le _⟩ dX7_next_39 (fun H locs hw => ?_)
      refine lv_iload_n hx hb dX7_next_42 rfl (lv_at hl 0 rfl) ?_
      replace h := bd_some h
      obtain ⟨r9, er9, h⟩ := h
      refine r_callVi (As := [.int r8.2, .int (r3.1.1 q6 (2 : Int32).toNatClampNeg)]) (rest := []) hF (c_X7_effort l D cy ad adK adV r8.1 o0 r8.2 (r3.1.1 q6 (2 : Int32).toNatClampNeg) r9 er9) (gW_goodV hcm qw1144 qw1141 qw1143 qw43 qw68) hdX7_effort rfl ⟨Nat.le_of_ble_eq_true rfl, Nat.le_of_ble_eq_true rfl⟩ rfl rfl hZ hK hw g4 (by decide) rfl rfl hl.1 rfl (Nat.le_of_ble_eq_true rfl) ⟨Nat.zero_le _, Nat.zero_le _⟩ dX7_next_43 (fun H locs hw => ?_)
      refine lv_istore_n (lv' := [(3, .int r9.2), (2, .int (r3.1.1 q6 (2 : Int32).toNatClampNeg)), (0, .ref (ad o0)), (1, .int a1)]) hx hb dX7_next_46 rfl hl (by decide) rfl (fun ls hl => ?_)
      refine lv_aload_n hx hb dX7_next_47 rfl (lv_at hl 2 rfl) ?_
      refine lv_aload_n hx hb dX7_next_48 rfl (lv_at hl 2 rfl) ?_
      refine lv_iload_n hx hb dX7_next_49 rfl (lv_at hl 1 rfl) ?_
      refine lv_iconst (v := (1 : Int32)) hx hb dX7_next_50 (by decide) ?_
      replace h := bd_some h
      obtain ⟨r10, er10, h⟩ := h
      refine r_callVi (As := [.int (r3.1.1 q6 (2 : Int32).toNatClampNeg), .int (1 : Int32)]) (rest := [.ref (ad o0)]) hF (c_X7_of l D cy ad adK adV r9.1 o0 (r3.1.1 q6 (2 : Int32).toNatClampNeg) (1 : Int32) r10 er10) (gW_goodV hcm qw1012 qw1009 qw1011 qw23 qw68) hdX7_of rfl ⟨Nat.le_of_ble_eq_true rfl, Nat.le_of_ble_eq_true rfl⟩ rfl rfl hZ hK hw g4 (by decide) rfl rfl hl.1 rfl (Nat.le_of_ble_eq_true rfl) ⟨Nat.zero_le _, Nat.zero_le _⟩ dX7_next_51 (fun H locs hw => ?_)
      refine lv_iload_n hx hb dX7_next_54 rfl (lv_at hl 1 rfl) ?_
      replace h := bd_some h
      obtain ⟨r11, er11, h⟩ := h
      refine r_callVi (As := [.int r10.2, .int (r3.1.1 q6 (2 : Int32).toNatClampNeg)]) (rest := []) hF (c_X7_effort l D cy ad adK adV r10.1 o0 r10.2 (r3.1.1 q6 (2 : Int32).toNatClampNeg) r11 er11) (gW_goodV hcm qw1144 qw1141 qw1143 qw43 qw68) hdX7_effort rfl ⟨Nat.le_of_ble_eq_true rfl, Nat.le_of_ble_eq_true rfl⟩ rfl rfl hZ hK hw g4 (by decide) rfl rfl hl.1 rfl (Nat.le_of_ble_eq_true rfl) ⟨Nat.zero_le _, Nat.zero_le _⟩ dX7_next_55 (fun H locs hw => ?_)
      refine lv_istore (lv' := [(4, .int r11.2), (3, .int r9.2), (2, .int (r3.1.1 q6 (2 : Int32).toNatClampNeg)), (0, .ref (ad o0)), (1, .int a1)]) hx hb dX7_next_58 hl (by decide) rfl (fun ls hl => ?_)
      refine lv_iload_n hx hb dX7_next_60 rfl (lv_at hl 4 rfl) ?_
      by_cases s12 : a1 = 0
      · replace h := if_some_t s12 h
        refine lv_tableIn (off := 31) (tgt := 92) hx hb dX7_next_61 (by rw [s12]; decide) (by rw [s12]; decide) (by rw [s12]; decide) (by decide) ?_
        refine lv_iload_n hx hb dX7_next_92 rfl (lv_at hl 1 rfl) ?_
        exact r_iret hx hb hr rfl hlocks hZ hK hw h dX7_next_93
      replace h := if_some_f s12 h
      by_cases s13 : a1 = 1
      · replace h := if_some_t s13 h
        refine lv_tableIn (off := 33) (tgt := 94) hx hb dX7_next_61 (by rw [s13]; decide) (by rw [s13]; decide) (by rw [s13]; decide) (by decide) ?_
        refine lv_iload hx hb dX7_next_94 (lv_at hl 0 rfl) ?_
        exact r_iret hx hb hr rfl hlocks hZ hK hw h dX7_next_96
      replace h := if_some_f s13 h
      by_cases s14 : a1 = 2
      · replace h := if_some_t s14 h
        refine lv_tableIn (off := 36) (tgt := 97) hx hb dX7_next_61 (by rw [s14]; decide) (by rw [s14]; decide) (by rw [s14]; decide) (by decide) ?_
        refine lv_aload_n hx hb dX7_next_97 rfl (lv_at hl 3 rfl) ?_
        refine lv_iload_n hx hb dX7_next_98 rfl (lv_at hl 2 rfl) ?_
        refine lv_iload_n hx hb dX7_next_99 rfl (lv_at hl 1 rfl) ?_
        refine lv_iload hx hb dX7_next_100 (lv_at hl 0 rfl) ?_
        replace h := bd_some h
        obtain ⟨r15, er15, h⟩ := h
        refine r_callVi (As := [.int (r3.1.1 q6 (2 : Int32).toNatClampNeg), .int r9.2, .int r11.2]) (rest := []) hF (c_X7_chance l D cy ad adK adV r11.1 o0 (r3.1.1 q6 (2 : Int32).toNatClampNeg) r9.2 r11.2 r15 er15) (gW_goodV hcm qw1152 qw1149 qw1151 qw45 qw68) hdX7_chance rfl ⟨Nat.le_of_ble_eq_true rfl, Nat.le_of_ble_eq_true rfl⟩ rfl rfl hZ hK hw g4 (by decide) rfl rfl hl.1 rfl (Nat.le_of_ble_eq_true rfl) ⟨Nat.zero_le _, Nat.zero_le _⟩ dX7_next_102 (fun H locs hw => ?_)
        exact r_iret hx hb hr rfl hlocks hZ hK hw h dX7_next_105
      replace h := if_some_f s14 h
      by_cases s16 : a1 = 3
      · replace h := if_some_t s16 h
        refine lv_tableIn (off := 45) (tgt := 106) hx hb dX7_next_61 (by rw [s16]; decide) (by rw [s16]; decide) (by rw [s16]; decide) (by decide) ?_
        refine lv_aload_n hx hb dX7_next_106 rfl (lv_at hl 3 rfl) ?_
        refine lv_aload_n hx hb dX7_next_107 rfl (lv_at hl 3 rfl) ?_
        refine lv_iload_n hx hb dX7_next_108 rfl (lv_at hl 2 rfl) ?_
        refine lv_iconst (v := (0 : Int32)) hx hb dX7_next_109 (by decide) ?_
        replace h := bd_some h
        obtain ⟨r17, er17, h⟩ := h
        refine r_callVi (As := [.int (r3.1.1 q6 (2 : Int32).toNatClampNeg), .int (0 : Int32)]) (rest := [.ref (ad o0)]) hF (c_X7_of l D cy ad adK adV r11.1 o0 (r3.1.1 q6 (2 : Int32).toNatClampNeg) (0 : Int32) r17 er17) (gW_goodV hcm qw1012 qw1009 qw1011 qw23 qw68) hdX7_of rfl ⟨Nat.le_of_ble_eq_true rfl, Nat.le_of_ble_eq_true rfl⟩ rfl rfl hZ hK hw g4 (by decide) rfl rfl hl.1 rfl (Nat.le_of_ble_eq_true rfl) ⟨Nat.zero_le _, Nat.zero_le _⟩ dX7_next_110 (fun H locs hw => ?_)
        refine lv_iload_n hx hb dX7_next_113 rfl (lv_at hl 1 rfl) ?_
        replace h := bd_some h
        obtain ⟨r18, er18, h⟩ := h
        refine r_callVi (As := [.int r17.2, .int r9.2]) (rest := []) hF (c_X7_force l D cy ad adK adV r17.1 o0 r17.2 r9.2 r18 er18) (gW_goodV hcm qw1156 qw1153 qw1155 qw46 qw68) hdX7_force rfl ⟨Nat.le_of_ble_eq_true rfl, Nat.le_of_ble_eq_true rfl⟩ rfl rfl hZ hK hw g4 (by decide) rfl rfl hl.1 rfl (Nat.le_of_ble_eq_true rfl) ⟨Nat.zero_le _, Nat.zero_le _⟩ dX7_next_114 (fun H locs hw => ?_)
        exact r_iret hx hb hr rfl hlocks hZ hK hw h dX7_next_117
      replace h := if_some_f s16 h
      have hout21 : a1.toInt < 0 ∨ 3 < a1.toInt := by
        refine tsw_out (fun cz h1 h2 => ?_)
        rcases (show cz = 0 ∨ cz = 1 ∨ cz = 2 ∨ cz = 3 by omega) with rfl | rfl | rfl | rfl
        · exact fun e9 => s12 (e9.trans (by decide))
        · exact fun e9 => s13 (e9.trans (by decide))
        · exact fun e9 => s14 (e9.trans (by decide))
        · exact fun e9 => s16 (e9.trans (by decide))
      refine lv_tableOut (tgt := 118) hx hb dX7_next_61 hout21 (by decide) ?_
      refine lv_aload_n hx hb dX7_next_118 rfl (lv_at hl 3 rfl) ?_
      refine lv_aload_n hx hb dX7_next_119 rfl (lv_at hl 3 rfl) ?_
      refine lv_iload_n hx hb dX7_next_120 rfl (lv_at hl 2 rfl) ?_
      refine lv_iconst (v := (1 : Int32)) hx hb dX7_next_121 (by decide) ?_
      replace h := bd_some h
      obtain ⟨r19, er19, h⟩ := h
      refine r_callVi (As := [.int (r3.1.1 q6 (2 : Int32).toNatClampNeg), .int (1 : Int32)]) (rest := [.ref (ad o0)]) hF (c_X7_of l D cy ad adK adV r11.1 o0 (r3.1.1 q6 (2 : Int32).toNatClampNeg) (1 : Int32) r19 er19) (gW_goodV hcm qw1012 qw1009 qw1011 qw23 qw68) hdX7_of rfl ⟨Nat.le_of_ble_eq_true rfl, Nat.le_of_ble_eq_true rfl⟩ rfl rfl hZ hK hw g4 (by decide) rfl rfl hl.1 rfl (Nat.le_of_ble_eq_true rfl) ⟨Nat.zero_le _, Nat.zero_le _⟩ dX7_next_122 (fun H locs hw => ?_)
      refine lv_iload hx hb dX7_next_125 (lv_at hl 0 rfl) ?_
      replace h := bd_some h
      obtain ⟨r20, er20, h⟩ := h
      refine r_callVi (As := [.int r19.2, .int r11.2]) (rest := []) hF (c_X7_force l D cy ad adK adV r19.1 o0 r19.2 r11.2 r20 er20) (gW_goodV hcm qw1156 qw1153 qw1155 qw46 qw68) hdX7_force rfl ⟨Nat.le_of_ble_eq_true rfl, Nat.le_of_ble_eq_true rfl⟩ rfl rfl hZ hK hw g4 (by decide) rfl rfl hl.1 rfl (Nat.le_of_ble_eq_true rfl) ⟨Nat.zero_le _, Nat.zero_le _⟩ dX7_next_127 (fun H locs hw => ?_)
      exact r_iret hx hb hr rfl hlocks hZ hK hw h dX7_next_130
    · replace h := if_some_f c5 h
      refine lv_aload_n hx hb dX7_next_22 rfl (lv_at hl 0 rfl) ?_
      refine lv_iconst (v := (3 : Int32)) hx hb dX7_next_23 (by decide) ?_
      replace h := bd_some h
      obtain ⟨r22, er22, h⟩ := h
      refine r_callVi (As := [.int (3 : Int32)]) (rest := []) hF (c_X7_finding l D cy ad adK adV r3.1 o0 (3 : Int32) r22 er22) (gW_goodV hcm qw991 qw988 qw990 qw19 qw68) hdX7_finding rfl ⟨Nat.le_of_ble_eq_true rfl, Nat.le_of_ble_eq_true rfl⟩ rfl rfl hZ hK hw g4 (by decide) rfl rfl hl.1 rfl (Nat.le_of_ble_eq_true rfl) ⟨Nat.zero_le _, Nat.zero_le _⟩ dX7_next_24 (fun H locs hw => ?_)
      exact r_iret hx hb hr rfl hlocks hZ hK hw h dX7_next_27
  · replace h := if_some_t c2 h
    refine lv_aload_n hx hb dX7_next_9 rfl (lv_at hl 0 rfl) ?_
    refine lv_iconst (v := (0 : Int32)) hx hb dX7_next_10 (by decide) ?_
    replace h := gd_some h
    obtain ⟨g24, h⟩ := h
    replace h := bd_some h
    obtain ⟨r23, er23, h⟩ := h
    refine r_callVi (As := [.int (0 : Int32)]) (rest := []) hF (c_X7_finding l D cy ad adK adV r1.1 o0 (0 : Int32) r23 er23) (gW_goodV hcm qw991 qw988 qw990 qw19 qw68) hdX7_finding rfl ⟨Nat.le_of_ble_eq_true rfl, Nat.le_of_ble_eq_true rfl⟩ rfl rfl hZ hK hw g24 (by decide) rfl rfl hl.1 rfl (Nat.le_of_ble_eq_true rfl) ⟨Nat.zero_le _, Nat.zero_le _⟩ dX7_next_11 (fun H locs hw => ?_)
    exact r_iret hx hb hr rfl hlocks hZ hK hw h dX7_next_14
theorem dX7_win_0 : decode cX7_win 0 = .ok (.aload_n 0, 1) := by decide +kernel
theorem dX7_win_1 : decode cX7_win 1 = .ok (.invokevirtual 227, 3) := by decide +kernel
theorem dX7_win_4 : decode cX7_win 4 = .ok (.ifCond .eq 9, 3) := by decide +kernel
theorem dX7_win_7 : decode cX7_win 7 = .ok (.aload_n 0, 1) := by decide +kernel
theorem dX7_win_8 : decode cX7_win 8 = .ok (.iconst 3, 1) := by decide +kernel
theorem dX7_win_9 : decode cX7_win 9 = .ok (.invokevirtual 115, 3) := by decide +kernel
theorem dX7_win_12 : decode cX7_win 12 = .ok (.ireturn, 1) := by decide +kernel
theorem dX7_win_13 : decode cX7_win 13 = .ok (.aload_n 0, 1) := by decide +kernel
theorem dX7_win_14 : decode cX7_win 14 = .ok (.iload_n 1, 1) := by decide +kernel
theorem dX7_win_15 : decode cX7_win 15 = .ok (.invokevirtual 121, 3) := by decide +kernel
theorem dX7_win_18 : decode cX7_win 18 = .ok (.ifCond .eq 17, 3) := by decide +kernel
theorem dX7_win_21 : decode cX7_win 21 = .ok (.aload_n 0, 1) := by decide +kernel
theorem dX7_win_22 : decode cX7_win 22 = .ok (.iload_n 1, 1) := by decide +kernel
theorem dX7_win_23 : decode cX7_win 23 = .ok (.aload_n 0, 1) := by decide +kernel
theorem dX7_win_24 : decode cX7_win 24 = .ok (.getfield 7, 3) := by decide +kernel
theorem dX7_win_27 : decode cX7_win 27 = .ok (.iconst 2, 1) := by decide +kernel
theorem dX7_win_28 : decode cX7_win 28 = .ok (.iaload, 1) := by decide +kernel
theorem dX7_win_29 : decode cX7_win 29 = .ok (.invokevirtual 75, 3) := by decide +kernel
theorem dX7_win_32 : decode cX7_win 32 = .ok (.ifCond .ne 9, 3) := by decide +kernel
theorem dX7_win_35 : decode cX7_win 35 = .ok (.aload_n 0, 1) := by decide +kernel
theorem dX7_win_36 : decode cX7_win 36 = .ok (.iconst 0, 1) := by decide +kernel
theorem dX7_win_37 : decode cX7_win 37 = .ok (.invokevirtual 115, 3) := by decide +kernel
theorem dX7_win_40 : decode cX7_win 40 = .ok (.ireturn, 1) := by decide +kernel
theorem dX7_win_41 : decode cX7_win 41 = .ok (.aload_n 0, 1) := by decide +kernel
theorem dX7_win_42 : decode cX7_win 42 = .ok (.iload_n 1, 1) := by decide +kernel
theorem dX7_win_43 : decode cX7_win 43 = .ok (.invokevirtual 234, 3) := by decide +kernel
theorem dX7_win_46 : decode cX7_win 46 = .ok (.aload_n 0, 1) := by decide +kernel
theorem dX7_win_47 : decode cX7_win 47 = .ok (.aload_n 0, 1) := by decide +kernel
theorem dX7_win_48 : decode cX7_win 48 = .ok (.getfield 7, 3) := by decide +kernel
theorem dX7_win_51 : decode cX7_win 51 = .ok (.iconst 2, 1) := by decide +kernel
theorem dX7_win_52 : decode cX7_win 52 = .ok (.iaload, 1) := by decide +kernel
theorem dX7_win_53 : decode cX7_win 53 = .ok (.iconst 1, 1) := by decide +kernel
theorem dX7_win_54 : decode cX7_win 54 = .ok (.isub, 1) := by decide +kernel
theorem dX7_win_55 : decode cX7_win 55 = .ok (.iconst 4, 1) := by decide +kernel
theorem dX7_win_56 : decode cX7_win 56 = .ok (.invokevirtual 71, 3) := by decide +kernel
theorem dX7_win_59 : decode cX7_win 59 = .ok (.ireturn, 1) := by decide +kernel
set_option maxHeartbeats 4000000 in
set_option maxRecDepth 100000 in
theorem c_X7_win (l : Launch) (D : va_G) (cy : Nat → ClassId) (ad adK adV : Nat → Nat) (M : Mm) (o0 : Nat) (a1 : Int32) (res : Mm × Int32) (h : f_X7_win M o0 a1 = some res) : Met l yX7_win (wU yX7_win cX7_win 2 (some .int)) rmX7_win (va_Pc [.ref (ad o0), .int a1] (Pre D cy shM ad nM adK adV M)) (va_Qi (fun r (M2 : Mm) => r = res.2 ∧ M2 = res.1) (Pre D cy shM ad nM adK adV) (Aw ad nM)) 0 0 (Aw ad nM) := by
  refine Met.ofW (cc := cX7_win) (maxL := 2) (ret := (some .int)) (by decide) rfl ?_
  intro p e s m args below meth c s₁ B hml hv
  obtain ⟨hargs, hPre⟩ := hv
  have hx := B.exec
  have hb := B.bytes
  have hr := B.returns
  have hts := atoms_spec (ws := wU yX7_win cX7_win 2 (some .int)) B.pre
  have hq : ∀ w ∈ gW, w.before args s = true := fun w hw => hts w (List.mem_cons_of_mem _ hw)
  have hcm : ∀ w ∈ gW, w ∈ wU yX7_win cX7_win 2 (some .int) := fun w hw => List.mem_cons_of_mem _ hw
  have hown : s.vm.findClass RX7 = some m.cls := findClass_of_methodNamed B.named
  have hlocks := B.notSynchronized
  have hF : CallFix p m c cX7_win 2 s args (wU yX7_win cX7_win 2 (some .int)) RX7 := ⟨hx, hb, hml, hown, hts⟩
  have hK := hPre.2.1
  have hZ := hPre.2.2.2
  have hw : Wd D cy shM ad nM (Aw ad nM) s.heap M s.heap [] := ⟨hPre.1, hPre.2.2.1, va_S.rf⟩
  have iw7 : ∀ w ∈ u_ws RX7 TX7 30, w ∈ wU yX7_win cX7_win 2 (some .int) := fun w hw => List.mem_cons_of_mem _ (iX7 w hw)
  rw [show entryFrame m args 2 = entryFrame m ([.ref (ad o0), .int a1] : List Value).toArray 2 from by rw [hargs]]
  have hl := lv_entry ([.ref (ad o0), .int a1]) (n := 2) (Nat.le_of_ble_eq_true rfl)
  rw [lg_entry_eq]
  generalize (lg_sl ([.ref (ad o0), .int a1]) ++ List.replicate (2 - (lg_sl ([.ref (ad o0), .int a1])).length) Slot.unset).toArray = ls at hl ⊢
  have hl : lv_has ls 2 [(0, .ref (ad o0)), (1, .int a1)] := hl
  have hb35 : ∀ (M : Mm) (x0 : Nat), f_X7_win_b35 M x0 = some res → ∀ (H : Heap) (locs : List Loc) (ls : Array Slot), Wd D cy shM ad nM (Aw ad nM) s.heap M H locs → lv_has ls 2 [(0, .ref (ad x0))] → W p l e (headSpec (wU yX7_win cX7_win 2 (some .int)) rmX7_win).room s m args below meth c H locs 0 0 (QI D cy shM ad nM adK adV below args s res) (F0 m 35 ls []) := by
    intro M x0 h H locs ls hw hl
    unfold f_X7_win_b35 at h
    refine lv_aload_n hx hb dX7_win_35 rfl (lv_at hl 0 rfl) ?_
    refine lv_iconst (v := (0 : Int32)) hx hb dX7_win_36 (by decide) ?_
    replace h := gd_some h
    obtain ⟨g2, h⟩ := h
    replace h := bd_some h
    obtain ⟨r1, er1, h⟩ := h
    refine r_callVi (As := [.int (0 : Int32)]) (rest := []) hF (c_X7_finding l D cy ad adK adV M x0 (0 : Int32) r1 er1) (gW_goodV hcm qw991 qw988 qw990 qw19 qw68) hdX7_finding rfl ⟨Nat.le_of_ble_eq_true rfl, Nat.le_of_ble_eq_true rfl⟩ rfl rfl hZ hK hw g2 (by decide) rfl rfl hl.1 rfl (Nat.le_of_ble_eq_true rfl) ⟨Nat.zero_le _, Nat.zero_le _⟩ dX7_win_37 (fun H locs hw => ?_)
    exact r_iret hx hb hr rfl hlocks hZ hK hw h dX7_win_40
  unfold f_X7_win at h
  refine lv_aload_n hx hb dX7_win_0 rfl (lv_at hl 0 rfl) ?_
  replace h := gd_some h
  obtain ⟨g4, h⟩ := h
  replace h := bd_some h
  obtain ⟨r3, er3, h⟩ := h
  refine r_callVi (As := []) (rest := []) hF (c_X7_isOver l D cy ad adK adV M o0 r3 er3) (gW_goodV hcm qw1140 qw1137 qw1139 qw42 qw68) hdX7_isOver rfl ⟨Nat.le_of_ble_eq_true rfl, Nat.le_of_ble_eq_true rfl⟩ rfl rfl hZ hK hw g4 (by decide) rfl rfl hl.1 rfl (Nat.le_of_ble_eq_true rfl) ⟨Nat.zero_le _, Nat.zero_le _⟩ dX7_win_1 (fun H locs hw => ?_)
  refine lv_if_eq (tgt := 13) hx hb dX7_win_4 (by decide) (fun c5 => ?_) (fun c5 => ?_)
  · replace h := if_some_t c5 h
    refine lv_aload_n hx hb dX7_win_13 rfl (lv_at hl 0 rfl) ?_
    refine lv_iload_n hx hb dX7_win_14 rfl (lv_at hl 1 rfl) ?_
    replace h := bd_some h
    obtain ⟨r6, er6, h⟩ := h
    refine r_callVi (As := [.int a1]) (rest := []) hF (c_X7_isSide l D cy ad adK adV r3.1 o0 a1 r6 er6) (gW_goodV hcm qw1004 qw1001 qw1003 qw21 qw68) hdX7_isSide rfl ⟨Nat.le_of_ble_eq_true rfl, Nat.le_of_ble_eq_true rfl⟩ rfl rfl hZ hK hw g4 (by decide) rfl rfl hl.1 rfl (Nat.le_of_ble_eq_true rfl) ⟨Nat.zero_le _, Nat.zero_le _⟩ dX7_win_15 (fun H locs hw => ?_)
    refine lv_if_eq (tgt := 35) hx hb dX7_win_18 (by decide) (fun c7 => ?_) (fun c7 => ?_)
    · replace h := if_some_t c7 h
      exact hb35 _ _ h _ _ _ hw (lv_sub hl [0] rfl)
    · replace h := if_some_f c7 h
      refine lv_aload_n hx hb dX7_win_21 rfl (lv_at hl 0 rfl) ?_
      refine lv_iload_n hx hb dX7_win_22 rfl (lv_at hl 1 rfl) ?_
      refine lv_aload_n hx hb dX7_win_23 rfl (lv_at hl 0 rfl) ?_
      replace h := bd_some h
      obtain ⟨q8, eq8, h⟩ := h
      refine r_getR hx hb hts iw7 hown hK hw o0 0 g4 (by decide) rfl (by decide) rfl (hq _ qw890) (fun _ h9 => h9) dX7_win_24 eq8 ?_
      refine lv_iconst (v := (2 : Int32)) hx hb dX7_win_27 (by decide) ?_
      replace h := gd_some h
      obtain ⟨g9, h⟩ := h
      refine r_iald hx hb hK hw q8 g9 dX7_win_28 ?_
      replace h := bd_some h
      obtain ⟨r10, er10, h⟩ := h
      refine r_callVi (As := [.int a1, .int (r6.1.1 q8 (2 : Int32).toNatClampNeg)]) (rest := []) hF (c_X7_plays l D cy ad adK adV r6.1 o0 a1 (r6.1.1 q8 (2 : Int32).toNatClampNeg) r10 er10) (gW_goodV hcm qw1020 qw1017 qw1019 qw25 qw68) hdX7_plays rfl ⟨Nat.le_of_ble_eq_true rfl, Nat.le_of_ble_eq_true rfl⟩ rfl rfl hZ hK hw g4 (by decide) rfl rfl hl.1 rfl (Nat.le_of_ble_eq_true rfl) ⟨Nat.zero_le _, Nat.zero_le _⟩ dX7_win_29 (fun H locs hw => ?_)
      refine lv_if_ne (tgt := 41) hx hb dX7_win_32 (by decide) (fun c11 => ?_) (fun c11 => ?_)
      · replace h := if_some_f c11 h
        refine lv_aload_n hx hb dX7_win_41 rfl (lv_at hl 0 rfl) ?_
        refine lv_iload_n hx hb dX7_win_42 rfl (lv_at hl 1 rfl) ?_
        replace h := bd_some h
        obtain ⟨r12, er12, h⟩ := h
        refine r_callVv (As := [.int a1]) (rest := []) hF (c_X7_winsNow l D cy ad adK adV r10.1 o0 a1 r12 er12) (gW_goodV hcm qw1164 qw1161 qw1163 qw47 qw68) hdX7_winsNow rfl ⟨Nat.le_of_ble_eq_true rfl, Nat.le_of_ble_eq_true rfl⟩ rfl rfl hZ hK hw g4 (by decide) rfl rfl hl.1 rfl (Nat.le_of_ble_eq_true rfl) ⟨Nat.zero_le _, Nat.zero_le _⟩ dX7_win_43 (fun H locs hw => ?_)
        refine lv_aload_n hx hb dX7_win_46 rfl (lv_at hl 0 rfl) ?_
        refine lv_aload_n hx hb dX7_win_47 rfl (lv_at hl 0 rfl) ?_
        replace h := bd_some h
        obtain ⟨q13, eq13, h⟩ := h
        refine r_getR hx hb hts iw7 hown hK hw o0 0 g4 (by decide) rfl (by decide) rfl (hq _ qw890) (fun _ h9 => h9) dX7_win_48 eq13 ?_
        refine lv_iconst (v := (2 : Int32)) hx hb dX7_win_51 (by decide) ?_
        replace h := gd_some h
        obtain ⟨g14, h⟩ := h
        refine r_iald hx hb hK hw q13 g14 dX7_win_52 ?_
        refine lv_iconst (v := (1 : Int32)) hx hb dX7_win_53 (by decide) ?_
        refine lv_isub hx hb dX7_win_54 ?_
        refine lv_iconst (v := (4 : Int32)) hx hb dX7_win_55 (by decide) ?_
        replace h := bd_some h
        obtain ⟨r15, er15, h⟩ := h
        refine r_callVi (As := [.int ((r12.1.1 q13 (2 : Int32).toNatClampNeg) - (1 : Int32)), .int (4 : Int32)]) (rest := []) hF (c_X7_of l D cy ad adK adV r12.1 o0 ((r12.1.1 q13 (2 : Int32).toNatClampNeg) - (1 : Int32)) (4 : Int32) r15 er15) (gW_goodV hcm qw1012 qw1009 qw1011 qw23 qw68) hdX7_of rfl ⟨Nat.le_of_ble_eq_true rfl, Nat.le_of_ble_eq_true rfl⟩ rfl rfl hZ hK hw g4 (by decide) rfl rfl hl.1 rfl (Nat.le_of_ble_eq_true rfl) ⟨Nat.zero_le _, Nat.zero_le _⟩ dX7_win_56 (fun H locs hw => ?_)
        exact r_iret hx hb hr rfl hlocks hZ hK hw h dX7_win_59
      · replace h := if_some_t c11 h
        exact hb35 _ _ h _ _ _ hw (lv_sub hl [0] rfl)
  · replace h := if_some_f c5 h
    refine lv_aload_n hx hb dX7_win_7 rfl (lv_at hl 0 rfl) ?_
    refine lv_iconst (v := (3 : Int32)) hx hb dX7_win_8 (by decide) ?_
    replace h := bd_some h
    obtain ⟨r16, er16, h⟩ := h
    refine r_callVi (As := [.int (3 : Int32)]) (rest := []) hF (c_X7_finding l D cy ad adK adV r3.1 o0 (3 : Int32) r16 er16) (gW_goodV hcm qw991 qw988 qw990 qw19 qw68) hdX7_finding rfl ⟨Nat.le_of_ble_eq_true rfl, Nat.le_of_ble_eq_true rfl⟩ rfl rfl hZ hK hw g4 (by decide) rfl rfl hl.1 rfl (Nat.le_of_ble_eq_true rfl) ⟨Nat.zero_le _, Nat.zero_le _⟩ dX7_win_9 (fun H locs hw => ?_)
    exact r_iret hx hb hr rfl hlocks hZ hK hw h dX7_win_12
theorem dX7_draw_0 : decode cX7_draw 0 = .ok (.aload_n 0, 1) := by decide +kernel
theorem dX7_draw_1 : decode cX7_draw 1 = .ok (.getfield 7, 3) := by decide +kernel
theorem dX7_draw_4 : decode cX7_draw 4 = .ok (.iconst 4, 1) := by decide +kernel
theorem dX7_draw_5 : decode cX7_draw 5 = .ok (.aload_n 0, 1) := by decide +kernel
theorem dX7_draw_6 : decode cX7_draw 6 = .ok (.getfield 7, 3) := by decide +kernel
theorem dX7_draw_9 : decode cX7_draw 9 = .ok (.iconst 4, 1) := by decide +kernel
theorem dX7_draw_10 : decode cX7_draw 10 = .ok (.iaload, 1) := by decide +kernel
theorem dX7_draw_11 : decode cX7_draw 11 = .ok (.ldc 238, 2) := by decide +kernel
theorem dX7_draw_13 : decode cX7_draw 13 = .ok (.imul, 1) := by decide +kernel
theorem dX7_draw_14 : decode cX7_draw 14 = .ok (.sipush 12345, 3) := by decide +kernel
theorem dX7_draw_17 : decode cX7_draw 17 = .ok (.iadd, 1) := by decide +kernel
theorem dX7_draw_18 : decode cX7_draw 18 = .ok (.iastore, 1) := by decide +kernel
theorem dX7_draw_19 : decode cX7_draw 19 = .ok (.aload_n 0, 1) := by decide +kernel
theorem dX7_draw_20 : decode cX7_draw 20 = .ok (.getfield 7, 3) := by decide +kernel
theorem dX7_draw_23 : decode cX7_draw 23 = .ok (.iconst 4, 1) := by decide +kernel
theorem dX7_draw_24 : decode cX7_draw 24 = .ok (.iaload, 1) := by decide +kernel
theorem dX7_draw_25 : decode cX7_draw 25 = .ok (.bipush 8, 2) := by decide +kernel
theorem dX7_draw_27 : decode cX7_draw 27 = .ok (.iushr, 1) := by decide +kernel
theorem dX7_draw_28 : decode cX7_draw 28 = .ok (.ireturn, 1) := by decide +kernel
set_option maxHeartbeats 4000000 in
set_option maxRecDepth 100000 in
theorem c_X7_draw (l : Launch) (D : va_G) (cy : Nat → ClassId) (ad adK adV : Nat → Nat) (M : Mm) (o0 : Nat) (res : Mm × Int32) (h : f_X7_draw M o0 = some res) : Met l yX7_draw (wU yX7_draw cX7_draw 1 (some .int)) rmX7_draw (va_Pc [.ref (ad o0)] (Pre D cy shM ad nM adK adV M)) (va_Qi (fun r (M2 : Mm) => r = res.2 ∧ M2 = res.1) (Pre D cy shM ad nM adK adV) (Aw ad nM)) 0 0 (Aw ad nM) := by
  refine Met.ofW (cc := cX7_draw) (maxL := 1) (ret := (some .int)) (by decide) rfl ?_
  intro p e s m args below meth c s₁ B hml hv
  obtain ⟨hargs, hPre⟩ := hv
  have hx := B.exec
  have hb := B.bytes
  have hr := B.returns
  have hts := atoms_spec (ws := wU yX7_draw cX7_draw 1 (some .int)) B.pre
  have hq : ∀ w ∈ gW, w.before args s = true := fun w hw => hts w (List.mem_cons_of_mem _ hw)
  have hcm : ∀ w ∈ gW, w ∈ wU yX7_draw cX7_draw 1 (some .int) := fun w hw => List.mem_cons_of_mem _ hw
  have hown : s.vm.findClass RX7 = some m.cls := findClass_of_methodNamed B.named
  have hlocks := B.notSynchronized
  have hF : CallFix p m c cX7_draw 1 s args (wU yX7_draw cX7_draw 1 (some .int)) RX7 := ⟨hx, hb, hml, hown, hts⟩
  have hK := hPre.2.1
  have hZ := hPre.2.2.2
  have hw : Wd D cy shM ad nM (Aw ad nM) s.heap M s.heap [] := ⟨hPre.1, hPre.2.2.1, va_S.rf⟩
  have iw7 : ∀ w ∈ u_ws RX7 TX7 30, w ∈ wU yX7_draw cX7_draw 1 (some .int) := fun w hw => List.mem_cons_of_mem _ (iX7 w hw)
  rw [show entryFrame m args 1 = entryFrame m ([.ref (ad o0)] : List Value).toArray 1 from by rw [hargs]]
  have hl := lv_entry ([.ref (ad o0)]) (n := 1) (Nat.le_of_ble_eq_true rfl)
  rw [lg_entry_eq]
  generalize (lg_sl ([.ref (ad o0)]) ++ List.replicate (1 - (lg_sl ([.ref (ad o0)])).length) Slot.unset).toArray = ls at hl ⊢
  have hl : lv_has ls 1 [(0, .ref (ad o0))] := hl
  unfold f_X7_draw at h
  refine lv_aload_n hx hb dX7_draw_0 rfl (lv_at hl 0 rfl) ?_
  replace h := gd_some h
  obtain ⟨g1, h⟩ := h
  replace h := bd_some h
  obtain ⟨q2, eq2, h⟩ := h
  refine r_getR hx hb hts iw7 hown hK hw o0 0 g1 (by decide) rfl (by decide) rfl (hq _ qw890) (fun _ h9 => h9) dX7_draw_1 eq2 ?_
  refine lv_iconst (v := (4 : Int32)) hx hb dX7_draw_4 (by decide) ?_
  refine lv_aload_n hx hb dX7_draw_5 rfl (lv_at hl 0 rfl) ?_
  replace h := bd_some h
  obtain ⟨q3, eq3, h⟩ := h
  refine r_getR hx hb hts iw7 hown hK hw o0 0 g1 (by decide) rfl (by decide) rfl (hq _ qw890) (fun _ h9 => h9) dX7_draw_6 eq3 ?_
  refine lv_iconst (v := (4 : Int32)) hx hb dX7_draw_9 (by decide) ?_
  replace h := gd_some h
  obtain ⟨g4, h⟩ := h
  refine r_iald hx hb hK hw q3 g4 dX7_draw_10 ?_
  refine lv_ldc (v := (1103515245 : Int32)) hx hb hown (hq _ qw1185) dX7_draw_11 ?_
  refine lv_imul hx hb dX7_draw_13 ?_
  refine lv_sipush (v := (12345 : Int32)) hx hb dX7_draw_14 (by decide) ?_
  refine lv_iadd hx hb dX7_draw_17 ?_
  replace h := gd_some h
  obtain ⟨g5, h⟩ := h
  refine r_iast hx hb hK hw q2 g5 dX7_draw_18 (fun H locs hw => ?_)
  replace h := lt_some h
  obtain ⟨M6, eM6, h⟩ := h
  rw [← eM6] at hw
  refine lv_aload_n hx hb dX7_draw_19 rfl (lv_at hl 0 rfl) ?_
  replace h := bd_some h
  obtain ⟨q7, eq7, h⟩ := h
  refine r_getR hx hb hts iw7 hown hK hw o0 0 g1 (by decide) rfl (by decide) rfl (hq _ qw890) (fun _ h9 => h9) dX7_draw_20 eq7 ?_
  refine lv_iconst (v := (4 : Int32)) hx hb dX7_draw_23 (by decide) ?_
  replace h := gd_some h
  obtain ⟨g8, h⟩ := h
  refine r_iald hx hb hK hw q7 g8 dX7_draw_24 ?_
  refine lv_bipush (v := (8 : Int32)) hx hb dX7_draw_25 (by decide) ?_
  refine lv_iushr (v := ((M6.1 q7 (4 : Int32).toNatClampNeg).toUInt32 >>> ((8 : Int32).toUInt32 &&& Int32.toUInt32 31)).toInt32) hx hb dX7_draw_27 rfl ?_
  exact r_iret hx hb hr rfl hlocks hZ hK hw h dX7_draw_28
theorem dX7_drawsNext_0 : decode cX7_drawsNext 0 = .ok (.aload_n 0, 1) := by decide +kernel
theorem dX7_drawsNext_1 : decode cX7_drawsNext 1 = .ok (.getfield 7, 3) := by decide +kernel
theorem dX7_drawsNext_4 : decode cX7_drawsNext 4 = .ok (.iconst 2, 1) := by decide +kernel
theorem dX7_drawsNext_5 : decode cX7_drawsNext 5 = .ok (.iaload, 1) := by decide +kernel
theorem dX7_drawsNext_6 : decode cX7_drawsNext 6 = .ok (.istore_n 1, 1) := by decide +kernel
theorem dX7_drawsNext_7 : decode cX7_drawsNext 7 = .ok (.aload_n 0, 1) := by decide +kernel
theorem dX7_drawsNext_8 : decode cX7_drawsNext 8 = .ok (.aload_n 0, 1) := by decide +kernel
theorem dX7_drawsNext_9 : decode cX7_drawsNext 9 = .ok (.iload_n 1, 1) := by decide +kernel
theorem dX7_drawsNext_10 : decode cX7_drawsNext 10 = .ok (.iconst 0, 1) := by decide +kernel
theorem dX7_drawsNext_11 : decode cX7_drawsNext 11 = .ok (.invokevirtual 71, 3) := by decide +kernel
theorem dX7_drawsNext_14 : decode cX7_drawsNext 14 = .ok (.iload_n 1, 1) := by decide +kernel
theorem dX7_drawsNext_15 : decode cX7_drawsNext 15 = .ok (.invokevirtual 108, 3) := by decide +kernel
theorem dX7_drawsNext_18 : decode cX7_drawsNext 18 = .ok (.istore_n 2, 1) := by decide +kernel
theorem dX7_drawsNext_19 : decode cX7_drawsNext 19 = .ok (.aload_n 0, 1) := by decide +kernel
theorem dX7_drawsNext_20 : decode cX7_drawsNext 20 = .ok (.aload_n 0, 1) := by decide +kernel
theorem dX7_drawsNext_21 : decode cX7_drawsNext 21 = .ok (.iload_n 1, 1) := by decide +kernel
theorem dX7_drawsNext_22 : decode cX7_drawsNext 22 = .ok (.iconst 1, 1) := by decide +kernel
theorem dX7_drawsNext_23 : decode cX7_drawsNext 23 = .ok (.invokevirtual 71, 3) := by decide +kernel
theorem dX7_drawsNext_26 : decode cX7_drawsNext 26 = .ok (.iload_n 1, 1) := by decide +kernel
theorem dX7_drawsNext_27 : decode cX7_drawsNext 27 = .ok (.invokevirtual 108, 3) := by decide +kernel
theorem dX7_drawsNext_30 : decode cX7_drawsNext 30 = .ok (.istore_n 3, 1) := by decide +kernel
theorem dX7_drawsNext_31 : decode cX7_drawsNext 31 = .ok (.aload_n 0, 1) := by decide +kernel
theorem dX7_drawsNext_32 : decode cX7_drawsNext 32 = .ok (.aload_n 0, 1) := by decide +kernel
theorem dX7_drawsNext_33 : decode cX7_drawsNext 33 = .ok (.invokevirtual 239, 3) := by decide +kernel
theorem dX7_drawsNext_36 : decode cX7_drawsNext 36 = .ok (.bipush 10, 2) := by decide +kernel
theorem dX7_drawsNext_38 : decode cX7_drawsNext 38 = .ok (.irem, 1) := by decide +kernel
theorem dX7_drawsNext_39 : decode cX7_drawsNext 39 = .ok (.aload_n 0, 1) := by decide +kernel
theorem dX7_drawsNext_40 : decode cX7_drawsNext 40 = .ok (.iload_n 1, 1) := by decide +kernel
theorem dX7_drawsNext_41 : decode cX7_drawsNext 41 = .ok (.iload_n 2, 1) := by decide +kernel
theorem dX7_drawsNext_42 : decode cX7_drawsNext 42 = .ok (.iload_n 3, 1) := by decide +kernel
theorem dX7_drawsNext_43 : decode cX7_drawsNext 43 = .ok (.invokevirtual 230, 3) := by decide +kernel
theorem dX7_drawsNext_46 : decode cX7_drawsNext 46 = .ok (.if_icmp .ge 12, 3) := by decide +kernel
theorem dX7_drawsNext_49 : decode cX7_drawsNext 49 = .ok (.aload_n 0, 1) := by decide +kernel
theorem dX7_drawsNext_50 : decode cX7_drawsNext 50 = .ok (.iload_n 1, 1) := by decide +kernel
theorem dX7_drawsNext_51 : decode cX7_drawsNext 51 = .ok (.iconst 0, 1) := by decide +kernel
theorem dX7_drawsNext_52 : decode cX7_drawsNext 52 = .ok (.invokevirtual 71, 3) := by decide +kernel
theorem dX7_drawsNext_55 : decode cX7_drawsNext 55 = .ok (.goto 9, 3) := by decide +kernel
theorem dX7_drawsNext_58 : decode cX7_drawsNext 58 = .ok (.aload_n 0, 1) := by decide +kernel
theorem dX7_drawsNext_59 : decode cX7_drawsNext 59 = .ok (.iload_n 1, 1) := by decide +kernel
theorem dX7_drawsNext_60 : decode cX7_drawsNext 60 = .ok (.iconst 1, 1) := by decide +kernel
theorem dX7_drawsNext_61 : decode cX7_drawsNext 61 = .ok (.invokevirtual 71, 3) := by decide +kernel
theorem dX7_drawsNext_64 : decode cX7_drawsNext 64 = .ok (.iload_n 2, 1) := by decide +kernel
theorem dX7_drawsNext_65 : decode cX7_drawsNext 65 = .ok (.iload_n 3, 1) := by decide +kernel
theorem dX7_drawsNext_66 : decode cX7_drawsNext 66 = .ok (.invokevirtual 111, 3) := by decide +kernel
theorem dX7_drawsNext_69 : decode cX7_drawsNext 69 = .ok (.return_, 1) := by decide +kernel
set_option maxHeartbeats 4000000 in
set_option maxRecDepth 100000 in
theorem c_X7_drawsNext (l : Launch) (D : va_G) (cy : Nat → ClassId) (ad adK adV : Nat → Nat) (M : Mm) (o0 : Nat) (res : Mm × Unit) (h : f_X7_drawsNext M o0 = some res) : Met l yX7_drawsNext (wU yX7_drawsNext cX7_drawsNext 4 none) rmX7_drawsNext (va_Pc [.ref (ad o0)] (Pre D cy shM ad nM adK adV M)) (va_Qv (fun (M2 : Mm) => M2 = res.1) (Pre D cy shM ad nM adK adV) (Aw ad nM)) 0 0 (Aw ad nM) := by
  refine Met.ofW (cc := cX7_drawsNext) (maxL := 4) (ret := none) (by decide) rfl ?_
  intro p e s m args below meth c s₁ B hml hv
  obtain ⟨hargs, hPre⟩ := hv
  have hx := B.exec
  have hb := B.bytes
  have hr := B.returns
  have hts := atoms_spec (ws := wU yX7_drawsNext cX7_drawsNext 4 none) B.pre
  have hq : ∀ w ∈ gW, w.before args s = true := fun w hw => hts w (List.mem_cons_of_mem _ hw)
  have hcm : ∀ w ∈ gW, w ∈ wU yX7_drawsNext cX7_drawsNext 4 none := fun w hw => List.mem_cons_of_mem _ hw
  have hown : s.vm.findClass RX7 = some m.cls := findClass_of_methodNamed B.named
  have hlocks := B.notSynchronized
  have hF : CallFix p m c cX7_drawsNext 4 s args (wU yX7_drawsNext cX7_drawsNext 4 none) RX7 := ⟨hx, hb, hml, hown, hts⟩
  have hK := hPre.2.1
  have hZ := hPre.2.2.2
  have hw : Wd D cy shM ad nM (Aw ad nM) s.heap M s.heap [] := ⟨hPre.1, hPre.2.2.1, va_S.rf⟩
  have iw7 : ∀ w ∈ u_ws RX7 TX7 30, w ∈ wU yX7_drawsNext cX7_drawsNext 4 none := fun w hw => List.mem_cons_of_mem _ (iX7 w hw)
  rw [show entryFrame m args 4 = entryFrame m ([.ref (ad o0)] : List Value).toArray 4 from by rw [hargs]]
  have hl := lv_entry ([.ref (ad o0)]) (n := 4) (Nat.le_of_ble_eq_true rfl)
  rw [lg_entry_eq]
  generalize (lg_sl ([.ref (ad o0)]) ++ List.replicate (4 - (lg_sl ([.ref (ad o0)])).length) Slot.unset).toArray = ls at hl ⊢
  have hl : lv_has ls 4 [(0, .ref (ad o0))] := hl
  have hb64 : ∀ (M : Mm) (x2 : Int32) (x3 : Int32) (t0 : Nat) (t1 : Int32), f_X7_drawsNext_b64 M x2 x3 t0 t1 = some res → ∀ (H : Heap) (locs : List Loc) (ls : Array Slot), Wd D cy shM ad nM (Aw ad nM) s.heap M H locs → lv_has ls 4 [(2, .int x2), (3, .int x3)] → W p l e (headSpec (wU yX7_drawsNext cX7_drawsNext 4 none) rmX7_drawsNext).room s m args below meth c H locs 0 0 (QV D cy shM ad nM adK adV below args s res) (F0 m 64 ls [.int t1, .ref (ad t0)]) := by
    intro M x2 x3 t0 t1 h H locs ls hw hl
    unfold f_X7_drawsNext_b64 at h
    refine lv_iload_n hx hb dX7_drawsNext_64 rfl (lv_at hl 0 rfl) ?_
    refine lv_iload_n hx hb dX7_drawsNext_65 rfl (lv_at hl 1 rfl) ?_
    replace h := gd_some h
    obtain ⟨g2, h⟩ := h
    replace h := bd_some h
    obtain ⟨r1, er1, h⟩ := h
    refine r_callVv (As := [.int t1, .int x2, .int x3]) (rest := []) hF (c_X7_wins l D cy ad adK adV M t0 t1 x2 x3 r1 er1) (gW_goodV hcm qw1168 qw1165 qw1167 qw48 qw68) hdX7_wins rfl ⟨Nat.le_of_ble_eq_true rfl, Nat.le_of_ble_eq_true rfl⟩ rfl rfl hZ hK hw g2 (by decide) rfl rfl hl.1 rfl (Nat.le_of_ble_eq_true rfl) ⟨Nat.zero_le _, Nat.zero_le _⟩ dX7_drawsNext_66 (fun H locs hw => ?_)
    exact r_vret hx hb hr hlocks hZ hK hw h dX7_drawsNext_69
  unfold f_X7_drawsNext at h
  refine lv_aload_n hx hb dX7_drawsNext_0 rfl (lv_at hl 0 rfl) ?_
  replace h := gd_some h
  obtain ⟨g3, h⟩ := h
  replace h := bd_some h
  obtain ⟨q4, eq4, h⟩ := h
  refine r_getR hx hb hts iw7 hown hK hw o0 0 g3 (by decide) rfl (by decide) rfl (hq _ qw890) (fun _ h9 => h9) dX7_drawsNext_1 eq4 ?_
  refine lv_iconst (v := (2 : Int32)) hx hb dX7_drawsNext_4 (by decide) ?_
  replace h := gd_some h
  obtain ⟨g5, h⟩ := h
  refine r_iald hx hb hK hw q4 g5 dX7_drawsNext_5 ?_
  refine lv_istore_n (lv' := [(1, .int (M.1 q4 (2 : Int32).toNatClampNeg)), (0, .ref (ad o0))]) hx hb dX7_drawsNext_6 rfl hl (by decide) rfl (fun ls hl => ?_)
  refine lv_aload_n hx hb dX7_drawsNext_7 rfl (lv_at hl 1 rfl) ?_
  refine lv_aload_n hx hb dX7_drawsNext_8 rfl (lv_at hl 1 rfl) ?_
  refine lv_iload_n hx hb dX7_drawsNext_9 rfl (lv_at hl 0 rfl) ?_
  refine lv_iconst (v := (0 : Int32)) hx hb dX7_drawsNext_10 (by decide) ?_
  replace h := bd_some h
  obtain ⟨r6, er6, h⟩ := h
  refine r_callVi (As := [.int (M.1 q4 (2 : Int32).toNatClampNeg), .int (0 : Int32)]) (rest := [.ref (ad o0)]) hF (c_X7_of l D cy ad adK adV M o0 (M.1 q4 (2 : Int32).toNatClampNeg) (0 : Int32) r6 er6) (gW_goodV hcm qw1012 qw1009 qw1011 qw23 qw68) hdX7_of rfl ⟨Nat.le_of_ble_eq_true rfl, Nat.le_of_ble_eq_true rfl⟩ rfl rfl hZ hK hw g3 (by decide) rfl rfl hl.1 rfl (Nat.le_of_ble_eq_true rfl) ⟨Nat.zero_le _, Nat.zero_le _⟩ dX7_drawsNext_11 (fun H locs hw => ?_)
  refine lv_iload_n hx hb dX7_drawsNext_14 rfl (lv_at hl 0 rfl) ?_
  replace h := bd_some h
  obtain ⟨r7, er7, h⟩ := h
  refine r_callVi (As := [.int r6.2, .int (M.1 q4 (2 : Int32).toNatClampNeg)]) (rest := []) hF (c_X7_effort l D cy ad adK adV r6.1 o0 r6.2 (M.1 q4 (2 : Int32).toNatClampNeg) r7 er7) (gW_goodV hcm qw1144 qw1141 qw1143 qw43 qw68) hdX7_effort rfl ⟨Nat.le_of_ble_eq_true rfl, Nat.le_of_ble_eq_true rfl⟩ rfl rfl hZ hK hw g3 (by decide) rfl rfl hl.1 rfl (Nat.le_of_ble_eq_true rfl) ⟨Nat.zero_le _, Nat.zero_le _⟩ dX7_drawsNext_15 (fun H locs hw => ?_)
  refine lv_istore_n (lv' := [(2, .int r7.2), (1, .int (M.1 q4 (2 : Int32).toNatClampNeg)), (0, .ref (ad o0))]) hx hb dX7_drawsNext_18 rfl hl (by decide) rfl (fun ls hl => ?_)
  refine lv_aload_n hx hb dX7_drawsNext_19 rfl (lv_at hl 2 rfl) ?_
  refine lv_aload_n hx hb dX7_drawsNext_20 rfl (lv_at hl 2 rfl) ?_
  refine lv_iload_n hx hb dX7_drawsNext_21 rfl (lv_at hl 1 rfl) ?_
  refine lv_iconst (v := (1 : Int32)) hx hb dX7_drawsNext_22 (by decide) ?_
  replace h := bd_some h
  obtain ⟨r8, er8, h⟩ := h
  refine r_callVi (As := [.int (M.1 q4 (2 : Int32).toNatClampNeg), .int (1 : Int32)]) (rest := [.ref (ad o0)]) hF (c_X7_of l D cy ad adK adV r7.1 o0 (M.1 q4 (2 : Int32).toNatClampNeg) (1 : Int32) r8 er8) (gW_goodV hcm qw1012 qw1009 qw1011 qw23 qw68) hdX7_of rfl ⟨Nat.le_of_ble_eq_true rfl, Nat.le_of_ble_eq_true rfl⟩ rfl rfl hZ hK hw g3 (by decide) rfl rfl hl.1 rfl (Nat.le_of_ble_eq_true rfl) ⟨Nat.zero_le _, Nat.zero_le _⟩ dX7_drawsNext_23 (fun H locs hw => ?_)
  refine lv_iload_n hx hb dX7_drawsNext_26 rfl (lv_at hl 1 rfl) ?_
  replace h := bd_some h
  obtain ⟨r9, er9, h⟩ := h
  refine r_callVi (As := [.int r8.2, .int (M.1 q4 (2 : Int32).toNatClampNeg)]) (rest := []) hF (c_X7_effort l D cy ad adK adV r8.1 o0 r8.2 (M.1 q4 (2 : Int32).toNatClampNeg) r9 er9) (gW_goodV hcm qw1144 qw1141 qw1143 qw43 qw68) hdX7_effort rfl ⟨Nat.le_of_ble_eq_true rfl, Nat.le_of_ble_eq_true rfl⟩ rfl rfl hZ hK hw g3 (by decide) rfl rfl hl.1 rfl (Nat.le_of_ble_eq_true rfl) ⟨Nat.zero_le _, Nat.zero_le _⟩ dX7_drawsNext_27 (fun H locs hw => ?_)
  refine lv_istore_n (lv' := [(3, .int r9.2), (2, .int r7.2), (1, .int (M.1 q4 (2 : Int32).toNatClampNeg)), (0, .ref (ad o0))]) hx hb dX7_drawsNext_30 rfl hl (by decide) rfl (fun ls hl => ?_)
  refine lv_aload_n hx hb dX7_drawsNext_31 rfl (lv_at hl 3 rfl) ?_
  refine lv_aload_n hx hb dX7_drawsNext_32 rfl (lv_at hl 3 rfl) ?_
  replace h := bd_some h
  obtain ⟨r10, er10, h⟩ := h
  refine r_callVi (As := []) (rest := [.ref (ad o0)]) hF (c_X7_draw l D cy ad adK adV r9.1 o0 r10 er10) (gW_goodV hcm qw1184 qw1181 qw1183 qw51 qw68) hdX7_draw rfl ⟨Nat.le_of_ble_eq_true rfl, Nat.le_of_ble_eq_true rfl⟩ rfl rfl hZ hK hw g3 (by decide) rfl rfl hl.1 rfl (Nat.le_of_ble_eq_true rfl) ⟨Nat.zero_le _, Nat.zero_le _⟩ dX7_drawsNext_33 (fun H locs hw => ?_)
  refine lv_bipush (v := (10 : Int32)) hx hb dX7_drawsNext_36 (by decide) ?_
  refine lv_irem hx hb dX7_drawsNext_38 (by decide) ?_
  refine lv_aload_n hx hb dX7_drawsNext_39 rfl (lv_at hl 3 rfl) ?_
  refine lv_iload_n hx hb dX7_drawsNext_40 rfl (lv_at hl 2 rfl) ?_
  refine lv_iload_n hx hb dX7_drawsNext_41 rfl (lv_at hl 1 rfl) ?_
  refine lv_iload_n hx hb dX7_drawsNext_42 rfl (lv_at hl 0 rfl) ?_
  replace h := bd_some h
  obtain ⟨r11, er11, h⟩ := h
  refine r_callVi (As := [.int (M.1 q4 (2 : Int32).toNatClampNeg), .int r7.2, .int r9.2]) (rest := [.int (r10.2 - r10.2 / (10 : Int32) * (10 : Int32)), .ref (ad o0)]) hF (c_X7_chance l D cy ad adK adV r10.1 o0 (M.1 q4 (2 : Int32).toNatClampNeg) r7.2 r9.2 r11 er11) (gW_goodV hcm qw1152 qw1149 qw1151 qw45 qw68) hdX7_chance rfl ⟨Nat.le_of_ble_eq_true rfl, Nat.le_of_ble_eq_true rfl⟩ rfl rfl hZ hK hw g3 (by decide) rfl rfl hl.1 rfl (Nat.le_of_ble_eq_true rfl) ⟨Nat.zero_le _, Nat.zero_le _⟩ dX7_drawsNext_43 (fun H locs hw => ?_)
  refine lv_icmp_ge (tgt := 58) hx hb dX7_drawsNext_46 (by decide) (fun c12 => ?_) (fun c12 => ?_)
  · replace h := if_some_t c12 h
    refine lv_aload_n hx hb dX7_drawsNext_58 rfl (lv_at hl 3 rfl) ?_
    refine lv_iload_n hx hb dX7_drawsNext_59 rfl (lv_at hl 2 rfl) ?_
    refine lv_iconst (v := (1 : Int32)) hx hb dX7_drawsNext_60 (by decide) ?_
    replace h := bd_some h
    obtain ⟨r13, er13, h⟩ := h
    refine r_callVi (As := [.int (M.1 q4 (2 : Int32).toNatClampNeg), .int (1 : Int32)]) (rest := [.ref (ad o0)]) hF (c_X7_of l D cy ad adK adV r11.1 o0 (M.1 q4 (2 : Int32).toNatClampNeg) (1 : Int32) r13 er13) (gW_goodV hcm qw1012 qw1009 qw1011 qw23 qw68) hdX7_of rfl ⟨Nat.le_of_ble_eq_true rfl, Nat.le_of_ble_eq_true rfl⟩ rfl rfl hZ hK hw g3 (by decide) rfl rfl hl.1 rfl (Nat.le_of_ble_eq_true rfl) ⟨Nat.zero_le _, Nat.zero_le _⟩ dX7_drawsNext_61 (fun H locs hw => ?_)
    exact hb64 _ _ _ _ _ h _ _ _ hw (lv_sub hl [1, 0] rfl)
  · replace h := if_some_f c12 h
    refine lv_aload_n hx hb dX7_drawsNext_49 rfl (lv_at hl 3 rfl) ?_
    refine lv_iload_n hx hb dX7_drawsNext_50 rfl (lv_at hl 2 rfl) ?_
    refine lv_iconst (v := (0 : Int32)) hx hb dX7_drawsNext_51 (by decide) ?_
    replace h := bd_some h
    obtain ⟨r14, er14, h⟩ := h
    refine r_callVi (As := [.int (M.1 q4 (2 : Int32).toNatClampNeg), .int (0 : Int32)]) (rest := [.ref (ad o0)]) hF (c_X7_of l D cy ad adK adV r11.1 o0 (M.1 q4 (2 : Int32).toNatClampNeg) (0 : Int32) r14 er14) (gW_goodV hcm qw1012 qw1009 qw1011 qw23 qw68) hdX7_of rfl ⟨Nat.le_of_ble_eq_true rfl, Nat.le_of_ble_eq_true rfl⟩ rfl rfl hZ hK hw g3 (by decide) rfl rfl hl.1 rfl (Nat.le_of_ble_eq_true rfl) ⟨Nat.zero_le _, Nat.zero_le _⟩ dX7_drawsNext_52 (fun H locs hw => ?_)
    refine lv_goto (tgt := 64) hx hb dX7_drawsNext_55 (by decide) ?_
    exact hb64 _ _ _ _ _ h _ _ _ hw (lv_sub hl [1, 0] rfl)
theorem dX7_play_0 : decode cX7_play 0 = .ok (.aload_n 0, 1) := by decide +kernel
theorem dX7_play_1 : decode cX7_play 1 = .ok (.invokevirtual 227, 3) := by decide +kernel
theorem dX7_play_4 : decode cX7_play 4 = .ok (.ifCond .eq 9, 3) := by decide +kernel
theorem dX7_play_7 : decode cX7_play 7 = .ok (.aload_n 0, 1) := by decide +kernel
theorem dX7_play_8 : decode cX7_play 8 = .ok (.iconst 3, 1) := by decide +kernel
theorem dX7_play_9 : decode cX7_play 9 = .ok (.invokevirtual 115, 3) := by decide +kernel
theorem dX7_play_12 : decode cX7_play 12 = .ok (.ireturn, 1) := by decide +kernel
theorem dX7_play_13 : decode cX7_play 13 = .ok (.aload_n 0, 1) := by decide +kernel
theorem dX7_play_14 : decode cX7_play 14 = .ok (.invokevirtual 242, 3) := by decide +kernel
theorem dX7_play_17 : decode cX7_play 17 = .ok (.aload_n 0, 1) := by decide +kernel
theorem dX7_play_18 : decode cX7_play 18 = .ok (.aload_n 0, 1) := by decide +kernel
theorem dX7_play_19 : decode cX7_play 19 = .ok (.getfield 7, 3) := by decide +kernel
theorem dX7_play_22 : decode cX7_play 22 = .ok (.iconst 2, 1) := by decide +kernel
theorem dX7_play_23 : decode cX7_play 23 = .ok (.iaload, 1) := by decide +kernel
theorem dX7_play_24 : decode cX7_play 24 = .ok (.iconst 1, 1) := by decide +kernel
theorem dX7_play_25 : decode cX7_play 25 = .ok (.isub, 1) := by decide +kernel
theorem dX7_play_26 : decode cX7_play 26 = .ok (.iconst 4, 1) := by decide +kernel
theorem dX7_play_27 : decode cX7_play 27 = .ok (.invokevirtual 71, 3) := by decide +kernel
theorem dX7_play_30 : decode cX7_play 30 = .ok (.ireturn, 1) := by decide +kernel
set_option maxHeartbeats 4000000 in
set_option maxRecDepth 100000 in
theorem c_X7_play (l : Launch) (D : va_G) (cy : Nat → ClassId) (ad adK adV : Nat → Nat) (M : Mm) (o0 : Nat) (res : Mm × Int32) (h : f_X7_play M o0 = some res) : Met l yX7_play (wU yX7_play cX7_play 1 (some .int)) rmX7_play (va_Pc [.ref (ad o0)] (Pre D cy shM ad nM adK adV M)) (va_Qi (fun r (M2 : Mm) => r = res.2 ∧ M2 = res.1) (Pre D cy shM ad nM adK adV) (Aw ad nM)) 0 0 (Aw ad nM) := by
  refine Met.ofW (cc := cX7_play) (maxL := 1) (ret := (some .int)) (by decide) rfl ?_
  intro p e s m args below meth c s₁ B hml hv
  obtain ⟨hargs, hPre⟩ := hv
  have hx := B.exec
  have hb := B.bytes
  have hr := B.returns
  have hts := atoms_spec (ws := wU yX7_play cX7_play 1 (some .int)) B.pre
  have hq : ∀ w ∈ gW, w.before args s = true := fun w hw => hts w (List.mem_cons_of_mem _ hw)
  have hcm : ∀ w ∈ gW, w ∈ wU yX7_play cX7_play 1 (some .int) := fun w hw => List.mem_cons_of_mem _ hw
  have hown : s.vm.findClass RX7 = some m.cls := findClass_of_methodNamed B.named
  have hlocks := B.notSynchronized
  have hF : CallFix p m c cX7_play 1 s args (wU yX7_play cX7_play 1 (some .int)) RX7 := ⟨hx, hb, hml, hown, hts⟩
  have hK := hPre.2.1
  have hZ := hPre.2.2.2
  have hw : Wd D cy shM ad nM (Aw ad nM) s.heap M s.heap [] := ⟨hPre.1, hPre.2.2.1, va_S.rf⟩
  have iw7 : ∀ w ∈ u_ws RX7 TX7 30, w ∈ wU yX7_play cX7_play 1 (some .int) := fun w hw => List.mem_cons_of_mem _ (iX7 w hw)
  rw [show entryFrame m args 1 = entryFrame m ([.ref (ad o0)] : List Value).toArray 1 from by rw [hargs]]
  have hl := lv_entry ([.ref (ad o0)]) (n := 1) (Nat.le_of_ble_eq_true rfl)
  rw [lg_entry_eq]
  generalize (lg_sl ([.ref (ad o0)]) ++ List.replicate (1 - (lg_sl ([.ref (ad o0)])).length) Slot.unset).toArray = ls at hl ⊢
  have hl : lv_has ls 1 [(0, .ref (ad o0))] := hl
  unfold f_X7_play at h
  refine lv_aload_n hx hb dX7_play_0 rfl (lv_at hl 0 rfl) ?_
  replace h := gd_some h
  obtain ⟨g2, h⟩ := h
  replace h := bd_some h
  obtain ⟨r1, er1, h⟩ := h
  refine r_callVi (As := []) (rest := []) hF (c_X7_isOver l D cy ad adK adV M o0 r1 er1) (gW_goodV hcm qw1140 qw1137 qw1139 qw42 qw68) hdX7_isOver rfl ⟨Nat.le_of_ble_eq_true rfl, Nat.le_of_ble_eq_true rfl⟩ rfl rfl hZ hK hw g2 (by decide) rfl rfl hl.1 rfl (Nat.le_of_ble_eq_true rfl) ⟨Nat.zero_le _, Nat.zero_le _⟩ dX7_play_1 (fun H locs hw => ?_)
  refine lv_if_eq (tgt := 13) hx hb dX7_play_4 (by decide) (fun c3 => ?_) (fun c3 => ?_)
  · replace h := if_some_t c3 h
    refine lv_aload_n hx hb dX7_play_13 rfl (lv_at hl 0 rfl) ?_
    replace h := bd_some h
    obtain ⟨r4, er4, h⟩ := h
    refine r_callVv (As := []) (rest := []) hF (c_X7_drawsNext l D cy ad adK adV r1.1 o0 r4 er4) (gW_goodV hcm qw1180 qw1177 qw1179 qw50 qw68) hdX7_drawsNext rfl ⟨Nat.le_of_ble_eq_true rfl, Nat.le_of_ble_eq_true rfl⟩ rfl rfl hZ hK hw g2 (by decide) rfl rfl hl.1 rfl (Nat.le_of_ble_eq_true rfl) ⟨Nat.zero_le _, Nat.zero_le _⟩ dX7_play_14 (fun H locs hw => ?_)
    refine lv_aload_n hx hb dX7_play_17 rfl (lv_at hl 0 rfl) ?_
    refine lv_aload_n hx hb dX7_play_18 rfl (lv_at hl 0 rfl) ?_
    replace h := bd_some h
    obtain ⟨q5, eq5, h⟩ := h
    refine r_getR hx hb hts iw7 hown hK hw o0 0 g2 (by decide) rfl (by decide) rfl (hq _ qw890) (fun _ h9 => h9) dX7_play_19 eq5 ?_
    refine lv_iconst (v := (2 : Int32)) hx hb dX7_play_22 (by decide) ?_
    replace h := gd_some h
    obtain ⟨g6, h⟩ := h
    refine r_iald hx hb hK hw q5 g6 dX7_play_23 ?_
    refine lv_iconst (v := (1 : Int32)) hx hb dX7_play_24 (by decide) ?_
    refine lv_isub hx hb dX7_play_25 ?_
    refine lv_iconst (v := (4 : Int32)) hx hb dX7_play_26 (by decide) ?_
    replace h := bd_some h
    obtain ⟨r7, er7, h⟩ := h
    refine r_callVi (As := [.int ((r4.1.1 q5 (2 : Int32).toNatClampNeg) - (1 : Int32)), .int (4 : Int32)]) (rest := []) hF (c_X7_of l D cy ad adK adV r4.1 o0 ((r4.1.1 q5 (2 : Int32).toNatClampNeg) - (1 : Int32)) (4 : Int32) r7 er7) (gW_goodV hcm qw1012 qw1009 qw1011 qw23 qw68) hdX7_of rfl ⟨Nat.le_of_ble_eq_true rfl, Nat.le_of_ble_eq_true rfl⟩ rfl rfl hZ hK hw g2 (by decide) rfl rfl hl.1 rfl (Nat.le_of_ble_eq_true rfl) ⟨Nat.zero_le _, Nat.zero_le _⟩ dX7_play_27 (fun H locs hw => ?_)
    exact r_iret hx hb hr rfl hlocks hZ hK hw h dX7_play_30
  · replace h := if_some_f c3 h
    refine lv_aload_n hx hb dX7_play_7 rfl (lv_at hl 0 rfl) ?_
    refine lv_iconst (v := (3 : Int32)) hx hb dX7_play_8 (by decide) ?_
    replace h := bd_some h
    obtain ⟨r8, er8, h⟩ := h
    refine r_callVi (As := [.int (3 : Int32)]) (rest := []) hF (c_X7_finding l D cy ad adK adV r1.1 o0 (3 : Int32) r8 er8) (gW_goodV hcm qw991 qw988 qw990 qw19 qw68) hdX7_finding rfl ⟨Nat.le_of_ble_eq_true rfl, Nat.le_of_ble_eq_true rfl⟩ rfl rfl hZ hK hw g2 (by decide) rfl rfl hl.1 rfl (Nat.le_of_ble_eq_true rfl) ⟨Nat.zero_le _, Nat.zero_le _⟩ dX7_play_9 (fun H locs hw => ?_)
    exact r_iret hx hb hr rfl hlocks hZ hK hw h dX7_play_12
theorem dX7_anew_0 : decode cX7_anew 0 = .ok (.aload_n 0, 1) := by decide +kernel
theorem dX7_anew_1 : decode cX7_anew 1 = .ok (.getfield 7, 3) := by decide +kernel
theorem dX7_anew_4 : decode cX7_anew 4 = .ok (.iconst 2, 1) := by decide +kernel
theorem dX7_anew_5 : decode cX7_anew 5 = .ok (.iaload, 1) := by decide +kernel
theorem dX7_anew_6 : decode cX7_anew 6 = .ok (.istore_n 1, 1) := by decide +kernel
theorem dX7_anew_7 : decode cX7_anew 7 = .ok (.aload_n 0, 1) := by decide +kernel
theorem dX7_anew_8 : decode cX7_anew 8 = .ok (.getfield 7, 3) := by decide +kernel
theorem dX7_anew_11 : decode cX7_anew 11 = .ok (.iconst 2, 1) := by decide +kernel
theorem dX7_anew_12 : decode cX7_anew 12 = .ok (.iconst 0, 1) := by decide +kernel
theorem dX7_anew_13 : decode cX7_anew 13 = .ok (.iastore, 1) := by decide +kernel
theorem dX7_anew_14 : decode cX7_anew 14 = .ok (.iload_n 1, 1) := by decide +kernel
theorem dX7_anew_15 : decode cX7_anew 15 = .ok (.ireturn, 1) := by decide +kernel
set_option maxHeartbeats 4000000 in
set_option maxRecDepth 100000 in
theorem c_X7_anew (l : Launch) (D : va_G) (cy : Nat → ClassId) (ad adK adV : Nat → Nat) (M : Mm) (o0 : Nat) (res : Mm × Int32) (h : f_X7_anew M o0 = some res) : Met l yX7_anew (wU yX7_anew cX7_anew 2 (some .int)) rmX7_anew (va_Pc [.ref (ad o0)] (Pre D cy shM ad nM adK adV M)) (va_Qi (fun r (M2 : Mm) => r = res.2 ∧ M2 = res.1) (Pre D cy shM ad nM adK adV) (Aw ad nM)) 0 0 (Aw ad nM) := by
  refine Met.ofW (cc := cX7_anew) (maxL := 2) (ret := (some .int)) (by decide) rfl ?_
  intro p e s m args below meth c s₁ B hml hv
  obtain ⟨hargs, hPre⟩ := hv
  have hx := B.exec
  have hb := B.bytes
  have hr := B.returns
  have hts := atoms_spec (ws := wU yX7_anew cX7_anew 2 (some .int)) B.pre
  have hq : ∀ w ∈ gW, w.before args s = true := fun w hw => hts w (List.mem_cons_of_mem _ hw)
  have hcm : ∀ w ∈ gW, w ∈ wU yX7_anew cX7_anew 2 (some .int) := fun w hw => List.mem_cons_of_mem _ hw
  have hown : s.vm.findClass RX7 = some m.cls := findClass_of_methodNamed B.named
  have hlocks := B.notSynchronized
  have hF : CallFix p m c cX7_anew 2 s args (wU yX7_anew cX7_anew 2 (some .int)) RX7 := ⟨hx, hb, hml, hown, hts⟩
  have hK := hPre.2.1
  have hZ := hPre.2.2.2
  have hw : Wd D cy shM ad nM (Aw ad nM) s.heap M s.heap [] := ⟨hPre.1, hPre.2.2.1, va_S.rf⟩
  have iw7 : ∀ w ∈ u_ws RX7 TX7 30, w ∈ wU yX7_anew cX7_anew 2 (some .int) := fun w hw => List.mem_cons_of_mem _ (iX7 w hw)
  rw [show entryFrame m args 2 = entryFrame m ([.ref (ad o0)] : List Value).toArray 2 from by rw [hargs]]
  have hl := lv_entry ([.ref (ad o0)]) (n := 2) (Nat.le_of_ble_eq_true rfl)
  rw [lg_entry_eq]
  generalize (lg_sl ([.ref (ad o0)]) ++ List.replicate (2 - (lg_sl ([.ref (ad o0)])).length) Slot.unset).toArray = ls at hl ⊢
  have hl : lv_has ls 2 [(0, .ref (ad o0))] := hl
  unfold f_X7_anew at h
  refine lv_aload_n hx hb dX7_anew_0 rfl (lv_at hl 0 rfl) ?_
  replace h := gd_some h
  obtain ⟨g1, h⟩ := h
  replace h := bd_some h
  obtain ⟨q2, eq2, h⟩ := h
  refine r_getR hx hb hts iw7 hown hK hw o0 0 g1 (by decide) rfl (by decide) rfl (hq _ qw890) (fun _ h9 => h9) dX7_anew_1 eq2 ?_
  refine lv_iconst (v := (2 : Int32)) hx hb dX7_anew_4 (by decide) ?_
  replace h := gd_some h
  obtain ⟨g3, h⟩ := h
  refine r_iald hx hb hK hw q2 g3 dX7_anew_5 ?_
  refine lv_istore_n (lv' := [(1, .int (M.1 q2 (2 : Int32).toNatClampNeg)), (0, .ref (ad o0))]) hx hb dX7_anew_6 rfl hl (by decide) rfl (fun ls hl => ?_)
  refine lv_aload_n hx hb dX7_anew_7 rfl (lv_at hl 1 rfl) ?_
  replace h := bd_some h
  obtain ⟨q4, eq4, h⟩ := h
  refine r_getR hx hb hts iw7 hown hK hw o0 0 g1 (by decide) rfl (by decide) rfl (hq _ qw890) (fun _ h9 => h9) dX7_anew_8 eq4 ?_
  refine lv_iconst (v := (2 : Int32)) hx hb dX7_anew_11 (by decide) ?_
  refine lv_iconst (v := (0 : Int32)) hx hb dX7_anew_12 (by decide) ?_
  replace h := gd_some h
  obtain ⟨g5, h⟩ := h
  refine r_iast hx hb hK hw q4 g5 dX7_anew_13 (fun H locs hw => ?_)
  replace h := lt_some h
  obtain ⟨M6, eM6, h⟩ := h
  rw [← eM6] at hw
  refine lv_iload_n hx hb dX7_anew_14 rfl (lv_at hl 0 rfl) ?_
  exact r_iret hx hb hr rfl hlocks hZ hK hw h dX7_anew_15
theorem dX7_leads_0 : decode cX7_leads 0 = .ok (.aload_n 0, 1) := by decide +kernel
theorem dX7_leads_1 : decode cX7_leads 1 = .ok (.getfield 7, 3) := by decide +kernel
theorem dX7_leads_4 : decode cX7_leads 4 = .ok (.iconst 0, 1) := by decide +kernel
theorem dX7_leads_5 : decode cX7_leads 5 = .ok (.iaload, 1) := by decide +kernel
theorem dX7_leads_6 : decode cX7_leads 6 = .ok (.ifCond .ne 11, 3) := by decide +kernel
theorem dX7_leads_9 : decode cX7_leads 9 = .ok (.aload_n 0, 1) := by decide +kernel
theorem dX7_leads_10 : decode cX7_leads 10 = .ok (.iconst 3, 1) := by decide +kernel
theorem dX7_leads_11 : decode cX7_leads 11 = .ok (.invokevirtual 115, 3) := by decide +kernel
theorem dX7_leads_14 : decode cX7_leads 14 = .ok (.goto 7, 3) := by decide +kernel
theorem dX7_leads_17 : decode cX7_leads 17 = .ok (.aload_n 0, 1) := by decide +kernel
theorem dX7_leads_18 : decode cX7_leads 18 = .ok (.invokevirtual 245, 3) := by decide +kernel
theorem dX7_leads_21 : decode cX7_leads 21 = .ok (.ireturn, 1) := by decide +kernel
set_option maxHeartbeats 4000000 in
set_option maxRecDepth 100000 in
theorem c_X7_leads (l : Launch) (D : va_G) (cy : Nat → ClassId) (ad adK adV : Nat → Nat) (M : Mm) (o0 : Nat) (res : Mm × Int32) (h : f_X7_leads M o0 = some res) : Met l yX7_leads (wU yX7_leads cX7_leads 1 (some .int)) rmX7_leads (va_Pc [.ref (ad o0)] (Pre D cy shM ad nM adK adV M)) (va_Qi (fun r (M2 : Mm) => r = res.2 ∧ M2 = res.1) (Pre D cy shM ad nM adK adV) (Aw ad nM)) 0 0 (Aw ad nM) := by
  refine Met.ofW (cc := cX7_leads) (maxL := 1) (ret := (some .int)) (by decide) rfl ?_
  intro p e s m args below meth c s₁ B hml hv
  obtain ⟨hargs, hPre⟩ := hv
  have hx := B.exec
  have hb := B.bytes
  have hr := B.returns
  have hts := atoms_spec (ws := wU yX7_leads cX7_leads 1 (some .int)) B.pre
  have hq : ∀ w ∈ gW, w.before args s = true := fun w hw => hts w (List.mem_cons_of_mem _ hw)
  have hcm : ∀ w ∈ gW, w ∈ wU yX7_leads cX7_leads 1 (some .int) := fun w hw => List.mem_cons_of_mem _ hw
  have hown : s.vm.findClass RX7 = some m.cls := findClass_of_methodNamed B.named
  have hlocks := B.notSynchronized
  have hF : CallFix p m c cX7_leads 1 s args (wU yX7_leads cX7_leads 1 (some .int)) RX7 := ⟨hx, hb, hml, hown, hts⟩
  have hK := hPre.2.1
  have hZ := hPre.2.2.2
  have hw : Wd D cy shM ad nM (Aw ad nM) s.heap M s.heap [] := ⟨hPre.1, hPre.2.2.1, va_S.rf⟩
  have iw7 : ∀ w ∈ u_ws RX7 TX7 30, w ∈ wU yX7_leads cX7_leads 1 (some .int) := fun w hw => List.mem_cons_of_mem _ (iX7 w hw)
  rw [show entryFrame m args 1 = entryFrame m ([.ref (ad o0)] : List Value).toArray 1 from by rw [hargs]]
  have hl := lv_entry ([.ref (ad o0)]) (n := 1) (Nat.le_of_ble_eq_true rfl)
  rw [lg_entry_eq]
  generalize (lg_sl ([.ref (ad o0)]) ++ List.replicate (1 - (lg_sl ([.ref (ad o0)])).length) Slot.unset).toArray = ls at hl ⊢
  have hl : lv_has ls 1 [(0, .ref (ad o0))] := hl
  unfold f_X7_leads at h
  refine lv_aload_n hx hb dX7_leads_0 rfl (lv_at hl 0 rfl) ?_
  replace h := gd_some h
  obtain ⟨g1, h⟩ := h
  replace h := bd_some h
  obtain ⟨q2, eq2, h⟩ := h
  refine r_getR hx hb hts iw7 hown hK hw o0 0 g1 (by decide) rfl (by decide) rfl (hq _ qw890) (fun _ h9 => h9) dX7_leads_1 eq2 ?_
  refine lv_iconst (v := (0 : Int32)) hx hb dX7_leads_4 (by decide) ?_
  replace h := gd_some h
  obtain ⟨g3, h⟩ := h
  refine r_iald hx hb hK hw q2 g3 dX7_leads_5 ?_
  refine lv_if_ne (tgt := 17) hx hb dX7_leads_6 (by decide) (fun c4 => ?_) (fun c4 => ?_)
  · replace h := if_some_f c4 h
    refine lv_aload_n hx hb dX7_leads_17 rfl (lv_at hl 0 rfl) ?_
    replace h := bd_some h
    obtain ⟨r5, er5, h⟩ := h
    refine r_callVi (As := []) (rest := []) hF (c_X7_leader l D cy ad adK adV M o0 r5 er5) (gW_goodV hcm qw1197 qw1194 qw1196 qw52 qw68) hdX7_leader rfl ⟨Nat.le_of_ble_eq_true rfl, Nat.le_of_ble_eq_true rfl⟩ rfl rfl hZ hK hw g1 (by decide) rfl rfl hl.1 rfl (Nat.le_of_ble_eq_true rfl) ⟨Nat.zero_le _, Nat.zero_le _⟩ dX7_leads_18 (fun H locs hw => ?_)
    exact r_iret hx hb hr rfl hlocks hZ hK hw h dX7_leads_21
  · replace h := if_some_t c4 h
    refine lv_aload_n hx hb dX7_leads_9 rfl (lv_at hl 0 rfl) ?_
    refine lv_iconst (v := (3 : Int32)) hx hb dX7_leads_10 (by decide) ?_
    replace h := bd_some h
    obtain ⟨r6, er6, h⟩ := h
    refine r_callVi (As := [.int (3 : Int32)]) (rest := []) hF (c_X7_finding l D cy ad adK adV M o0 (3 : Int32) r6 er6) (gW_goodV hcm qw991 qw988 qw990 qw19 qw68) hdX7_finding rfl ⟨Nat.le_of_ble_eq_true rfl, Nat.le_of_ble_eq_true rfl⟩ rfl rfl hZ hK hw g1 (by decide) rfl rfl hl.1 rfl (Nat.le_of_ble_eq_true rfl) ⟨Nat.zero_le _, Nat.zero_le _⟩ dX7_leads_11 (fun H locs hw => ?_)
    refine lv_goto (tgt := 21) hx hb dX7_leads_14 (by decide) ?_
    exact r_iret hx hb hr rfl hlocks hZ hK hw h dX7_leads_21
theorem dX7_place_0 : decode cX7_place 0 = .ok (.aload_n 0, 1) := by decide +kernel
theorem dX7_place_1 : decode cX7_place 1 = .ok (.iload_n 1, 1) := by decide +kernel
theorem dX7_place_2 : decode cX7_place 2 = .ok (.invokevirtual 121, 3) := by decide +kernel
theorem dX7_place_5 : decode cX7_place 5 = .ok (.ifCond .ne 9, 3) := by decide +kernel
theorem dX7_place_8 : decode cX7_place 8 = .ok (.aload_n 0, 1) := by decide +kernel
theorem dX7_place_9 : decode cX7_place 9 = .ok (.iconst 0, 1) := by decide +kernel
theorem dX7_place_10 : decode cX7_place 10 = .ok (.invokevirtual 115, 3) := by decide +kernel
theorem dX7_place_13 : decode cX7_place 13 = .ok (.ireturn, 1) := by decide +kernel
theorem dX7_place_14 : decode cX7_place 14 = .ok (.iconst 1, 1) := by decide +kernel
theorem dX7_place_15 : decode cX7_place 15 = .ok (.istore_n 2, 1) := by decide +kernel
theorem dX7_place_16 : decode cX7_place 16 = .ok (.iconst 0, 1) := by decide +kernel
theorem dX7_place_17 : decode cX7_place 17 = .ok (.istore_n 3, 1) := by decide +kernel
theorem dX7_place_18 : decode cX7_place 18 = .ok (.iload_n 3, 1) := by decide +kernel
theorem dX7_place_19 : decode cX7_place 19 = .ok (.aload_n 0, 1) := by decide +kernel
theorem dX7_place_20 : decode cX7_place 20 = .ok (.getfield 7, 3) := by decide +kernel
theorem dX7_place_23 : decode cX7_place 23 = .ok (.iconst 0, 1) := by decide +kernel
theorem dX7_place_24 : decode cX7_place 24 = .ok (.iaload, 1) := by decide +kernel
theorem dX7_place_25 : decode cX7_place 25 = .ok (.if_icmp .ge 30, 3) := by decide +kernel
theorem dX7_place_28 : decode cX7_place 28 = .ok (.iload_n 2, 1) := by decide +kernel
theorem dX7_place_29 : decode cX7_place 29 = .ok (.aload_n 0, 1) := by decide +kernel
theorem dX7_place_30 : decode cX7_place 30 = .ok (.iload_n 3, 1) := by decide +kernel
theorem dX7_place_31 : decode cX7_place 31 = .ok (.invokevirtual 101, 3) := by decide +kernel
theorem dX7_place_34 : decode cX7_place 34 = .ok (.aload_n 0, 1) := by decide +kernel
theorem dX7_place_35 : decode cX7_place 35 = .ok (.iload_n 1, 1) := by decide +kernel
theorem dX7_place_36 : decode cX7_place 36 = .ok (.invokevirtual 101, 3) := by decide +kernel
theorem dX7_place_39 : decode cX7_place 39 = .ok (.if_icmp .le 7, 3) := by decide +kernel
theorem dX7_place_42 : decode cX7_place 42 = .ok (.iconst 1, 1) := by decide +kernel
theorem dX7_place_43 : decode cX7_place 43 = .ok (.goto 4, 3) := by decide +kernel
theorem dX7_place_46 : decode cX7_place 46 = .ok (.iconst 0, 1) := by decide +kernel
theorem dX7_place_47 : decode cX7_place 47 = .ok (.iadd, 1) := by decide +kernel
theorem dX7_place_48 : decode cX7_place 48 = .ok (.istore_n 2, 1) := by decide +kernel
theorem dX7_place_49 : decode cX7_place 49 = .ok (.iinc 3 1, 3) := by decide +kernel
theorem dX7_place_52 : decode cX7_place 52 = .ok (.goto (-34), 3) := by decide +kernel
theorem dX7_place_55 : decode cX7_place 55 = .ok (.iload_n 2, 1) := by decide +kernel
theorem dX7_place_56 : decode cX7_place 56 = .ok (.ireturn, 1) := by decide +kernel
set_option maxHeartbeats 4000000 in
set_option maxRecDepth 100000 in
theorem c_X7_place (l : Launch) (D : va_G) (cy : Nat → ClassId) (ad adK adV : Nat → Nat) (M : Mm) (o0 : Nat) (a1 : Int32) (res : Mm × Int32) (h : f_X7_place M o0 a1 = some res) : Met l yX7_place (wU yX7_place cX7_place 4 (some .int)) rmX7_place (va_Pc [.ref (ad o0), .int a1] (Pre D cy shM ad nM adK adV M)) (va_Qi (fun r (M2 : Mm) => r = res.2 ∧ M2 = res.1) (Pre D cy shM ad nM adK adV) (Aw ad nM)) 0 0 (Aw ad nM) := by
  refine Met.ofW (cc := cX7_place) (maxL := 4) (ret := (some .int)) (by decide) rfl ?_
  intro p e s m args below meth c s₁ B hml hv
  obtain ⟨hargs, hPre⟩ := hv
  have hx := B.exec
  have hb := B.bytes
  have hr := B.returns
  have hts := atoms_spec (ws := wU yX7_place cX7_place 4 (some .int)) B.pre
  have hq : ∀ w ∈ gW, w.before args s = true := fun w hw => hts w (List.mem_cons_of_mem _ hw)
  have hcm : ∀ w ∈ gW, w ∈ wU yX7_place cX7_place 4 (some .int) := fun w hw => List.mem_cons_of_mem _ hw
  have hown : s.vm.findClass RX7 = some m.cls := findClass_of_methodNamed B.named
  have hlocks := B.notSynchronized
  have hF : CallFix p m c cX7_place 4 s args (wU yX7_place cX7_place 4 (some .int)) RX7 := ⟨hx, hb, hml, hown, hts⟩
  have hK := hPre.2.1
  have hZ := hPre.2.2.2
  have hw : Wd D cy shM ad nM (Aw ad nM) s.heap M s.heap [] := ⟨hPre.1, hPre.2.2.1, va_S.rf⟩
  have iw7 : ∀ w ∈ u_ws RX7 TX7 30, w ∈ wU yX7_place cX7_place 4 (some .int) := fun w hw => List.mem_cons_of_mem _ (iX7 w hw)
  rw [show entryFrame m args 4 = entryFrame m ([.ref (ad o0), .int a1] : List Value).toArray 4 from by rw [hargs]]
  have hl := lv_entry ([.ref (ad o0), .int a1]) (n := 4) (Nat.le_of_ble_eq_true rfl)
  rw [lg_entry_eq]
  generalize (lg_sl ([.ref (ad o0), .int a1]) ++ List.replicate (4 - (lg_sl ([.ref (ad o0), .int a1])).length) Slot.unset).toArray = ls at hl ⊢
  have hl : lv_has ls 4 [(0, .ref (ad o0)), (1, .int a1)] := hl
  have hb47 : ∀ (k18 : Mm → Nat → Int32 → Int32 → Int32 → Option (Mm × Int32)) (hk18 : ∀ (M : Mm) (x0 : Nat) (x1 : Int32) (x2 : Int32) (x3 : Int32), k18 M x0 x1 x2 x3 = some res → ∀ (H : Heap) (locs : List Loc) (ls : Array Slot), Wd D cy shM ad nM (Aw ad nM) s.heap M H locs → lv_has ls 4 [(0, .ref (ad x0)), (1, .int x1), (2, .int x2), (3, .int x3)] → W p l e (headSpec (wU yX7_place cX7_place 4 (some .int)) rmX7_place).room s m args below meth c H locs 0 0 (QI D cy shM ad nM adK adV below args s res) (F0 m 18 ls [])), ∀ (M : Mm) (x0 : Nat) (x1 : Int32) (x3 : Int32) (t0 : Int32) (t1 : Int32), f_X7_place_b47 k18 M x0 x1 x3 t0 t1 = some res → ∀ (H : Heap) (locs : List Loc) (ls : Array Slot), Wd D cy shM ad nM (Aw ad nM) s.heap M H locs → lv_has ls 4 [(0, .ref (ad x0)), (1, .int x1), (3, .int x3)] → W p l e (headSpec (wU yX7_place cX7_place 4 (some .int)) rmX7_place).room s m args below meth c H locs 0 0 (QI D cy shM ad nM adK adV below args s res) (F0 m 47 ls [.int t1, .int t0]) := by
    intro k18 hk18
    intro M x0 x1 x3 t0 t1 h H locs ls hw hl
    unfold f_X7_place_b47 at h
    refine lv_iadd hx hb dX7_place_47 ?_
    refine lv_istore_n (lv' := [(2, .int (t0 + t1)), (0, .ref (ad x0)), (1, .int x1), (3, .int x3)]) hx hb dX7_place_48 rfl hl (by decide) rfl (fun ls hl => ?_)
    refine lv_iinc (v := x3 + (1 : Int32)) (lv' := [(3, .int (x3 + (1 : Int32))), (2, .int (t0 + t1)), (0, .ref (ad x0)), (1, .int x1)]) hx hb dX7_place_49 hl (k := 3) rfl (congrArg (fun z => x3 + z) (by decide)) (by decide) rfl (fun ls hl => ?_)
    refine lv_goto (tgt := 18) hx hb dX7_place_52 (by decide) ?_
    exact hk18 _ _ _ _ _ h _ _ _ hw (lv_sub hl [2, 3, 1, 0] rfl)
  have hb18 : ∀ (nn : Nat), ∀ (M : Mm) (x0 : Nat) (x1 : Int32) (x2 : Int32) (x3 : Int32), f_X7_place_b18 nn M x0 x1 x2 x3 = some res → ∀ (H : Heap) (locs : List Loc) (ls : Array Slot), Wd D cy shM ad nM (Aw ad nM) s.heap M H locs → lv_has ls 4 [(0, .ref (ad x0)), (1, .int x1), (2, .int x2), (3, .int x3)] → W p l e (headSpec (wU yX7_place cX7_place 4 (some .int)) rmX7_place).room s m args below meth c H locs 0 0 (QI D cy shM ad nM adK adV below args s res) (F0 m 18 ls []) := by
    intro nn
    induction nn with
    | zero => intro M x0 x1 x2 x3 h; simp [f_X7_place_b18] at h
    | succ nn ih =>
      intro M x0 x1 x2 x3 h H locs ls hw hl
      unfold f_X7_place_b18 at h
      refine lv_iload_n hx hb dX7_place_18 rfl (lv_at hl 3 rfl) ?_
      refine lv_aload_n hx hb dX7_place_19 rfl (lv_at hl 0 rfl) ?_
      replace h := gd_some h
      obtain ⟨g1, h⟩ := h
      replace h := bd_some h
      obtain ⟨q2, eq2, h⟩ := h
      refine r_getR hx hb hts iw7 hown hK hw x0 0 g1 (by decide) rfl (by decide) rfl (hq _ qw890) (fun _ h9 => h9) dX7_place_20 eq2 ?_
      refine lv_iconst (v := (0 : Int32)) hx hb dX7_place_23 (by decide) ?_
      replace h := gd_some h
      obtain ⟨g3, h⟩ := h
      refine r_iald hx hb hK hw q2 g3 dX7_place_24 ?_
      refine lv_icmp_ge (tgt := 55) hx hb dX7_place_25 (by decide) (fun c4 => ?_) (fun c4 => ?_)
      · replace h := if_some_t c4 h
        refine lv_iload_n hx hb dX7_place_55 rfl (lv_at hl 2 rfl) ?_
        exact r_iret hx hb hr rfl hlocks hZ hK hw h dX7_place_56
      · replace h := if_some_f c4 h
        refine lv_iload_n hx hb dX7_place_28 rfl (lv_at hl 2 rfl) ?_
        refine lv_aload_n hx hb dX7_place_29 rfl (lv_at hl 0 rfl) ?_
        refine lv_iload_n hx hb dX7_place_30 rfl (lv_at hl 3 rfl) ?_
        replace h := bd_some h
        obtain ⟨r5, er5, h⟩ := h
        refine r_callVi (As := [.int x3]) (rest := [.int x2]) hF (c_X7_points l D cy ad adK adV M x0 x3 r5 er5) (gW_goodV hcm qw1008 qw1005 qw1007 qw22 qw68) hdX7_points rfl ⟨Nat.le_of_ble_eq_true rfl, Nat.le_of_ble_eq_true rfl⟩ rfl rfl hZ hK hw g1 (by decide) rfl rfl hl.1 rfl (Nat.le_of_ble_eq_true rfl) ⟨Nat.zero_le _, Nat.zero_le _⟩ dX7_place_31 (fun H locs hw => ?_)
        refine lv_aload_n hx hb dX7_place_34 rfl (lv_at hl 0 rfl) ?_
        refine lv_iload_n hx hb dX7_place_35 rfl (lv_at hl 1 rfl) ?_
        replace h := bd_some h
        obtain ⟨r6, er6, h⟩ := h
        refine r_callVi (As := [.int x1]) (rest := [.int r5.2, .int x2]) hF (c_X7_points l D cy ad adK adV r5.1 x0 x1 r6 er6) (gW_goodV hcm qw1008 qw1005 qw1007 qw22 qw68) hdX7_points rfl ⟨Nat.le_of_ble_eq_true rfl, Nat.le_of_ble_eq_true rfl⟩ rfl rfl hZ hK hw g1 (by decide) rfl rfl hl.1 rfl (Nat.le_of_ble_eq_true rfl) ⟨Nat.zero_le _, Nat.zero_le _⟩ dX7_place_36 (fun H locs hw => ?_)
        refine lv_icmp_le (tgt := 46) hx hb dX7_place_39 (by decide) (fun c7 => ?_) (fun c7 => ?_)
        · replace h := if_some_t c7 h
          refine lv_iconst (v := (0 : Int32)) hx hb dX7_place_46 (by decide) ?_
          exact hb47 _ ih _ _ _ _ _ _ h _ _ _ hw (lv_sub hl [0, 1, 3] rfl)
        · replace h := if_some_f c7 h
          refine lv_iconst (v := (1 : Int32)) hx hb dX7_place_42 (by decide) ?_
          refine lv_goto (tgt := 47) hx hb dX7_place_43 (by decide) ?_
          exact hb47 _ ih _ _ _ _ _ _ h _ _ _ hw (lv_sub hl [0, 1, 3] rfl)
  unfold f_X7_place at h
  refine lv_aload_n hx hb dX7_place_0 rfl (lv_at hl 0 rfl) ?_
  refine lv_iload_n hx hb dX7_place_1 rfl (lv_at hl 1 rfl) ?_
  replace h := gd_some h
  obtain ⟨g9, h⟩ := h
  replace h := bd_some h
  obtain ⟨r8, er8, h⟩ := h
  refine r_callVi (As := [.int a1]) (rest := []) hF (c_X7_isSide l D cy ad adK adV M o0 a1 r8 er8) (gW_goodV hcm qw1004 qw1001 qw1003 qw21 qw68) hdX7_isSide rfl ⟨Nat.le_of_ble_eq_true rfl, Nat.le_of_ble_eq_true rfl⟩ rfl rfl hZ hK hw g9 (by decide) rfl rfl hl.1 rfl (Nat.le_of_ble_eq_true rfl) ⟨Nat.zero_le _, Nat.zero_le _⟩ dX7_place_2 (fun H locs hw => ?_)
  refine lv_if_ne (tgt := 14) hx hb dX7_place_5 (by decide) (fun c10 => ?_) (fun c10 => ?_)
  · replace h := if_some_f c10 h
    refine lv_iconst (v := (1 : Int32)) hx hb dX7_place_14 (by decide) ?_
    refine lv_istore_n (lv' := [(2, .int (1 : Int32)), (0, .ref (ad o0)), (1, .int a1)]) hx hb dX7_place_15 rfl hl (by decide) rfl (fun ls hl => ?_)
    refine lv_iconst (v := (0 : Int32)) hx hb dX7_place_16 (by decide) ?_
    refine lv_istore_n (lv' := [(3, .int (0 : Int32)), (2, .int (1 : Int32)), (0, .ref (ad o0)), (1, .int a1)]) hx hb dX7_place_17 rfl hl (by decide) rfl (fun ls hl => ?_)
    exact hb18 1000 _ _ _ _ _ h _ _ _ hw (lv_sub hl [2, 3, 1, 0] rfl)
  · replace h := if_some_t c10 h
    refine lv_aload_n hx hb dX7_place_8 rfl (lv_at hl 0 rfl) ?_
    refine lv_iconst (v := (0 : Int32)) hx hb dX7_place_9 (by decide) ?_
    replace h := bd_some h
    obtain ⟨r11, er11, h⟩ := h
    refine r_callVi (As := [.int (0 : Int32)]) (rest := []) hF (c_X7_finding l D cy ad adK adV r8.1 o0 (0 : Int32) r11 er11) (gW_goodV hcm qw991 qw988 qw990 qw19 qw68) hdX7_finding rfl ⟨Nat.le_of_ble_eq_true rfl, Nat.le_of_ble_eq_true rfl⟩ rfl rfl hZ hK hw g9 (by decide) rfl rfl hl.1 rfl (Nat.le_of_ble_eq_true rfl) ⟨Nat.zero_le _, Nat.zero_le _⟩ dX7_place_10 (fun H locs hw => ?_)
    exact r_iret hx hb hr rfl hlocks hZ hK hw h dX7_place_13
theorem dX7_ends_0 : decode cX7_ends 0 = .ok (.aload_n 0, 1) := by decide +kernel
theorem dX7_ends_1 : decode cX7_ends 1 = .ok (.dup, 1) := by decide +kernel
theorem dX7_ends_2 : decode cX7_ends 2 = .ok (.getfield 248, 3) := by decide +kernel
theorem dX7_ends_5 : decode cX7_ends 5 = .ok (.lload_n 1, 1) := by decide +kernel
theorem dX7_ends_6 : decode cX7_ends 6 = .ok (.lconst 0, 1) := by decide +kernel
theorem dX7_ends_7 : decode cX7_ends 7 = .ok (.lcmp, 1) := by decide +kernel
theorem dX7_ends_8 : decode cX7_ends 8 = .ok (.ifCond .le 7, 3) := by decide +kernel
theorem dX7_ends_11 : decode cX7_ends 11 = .ok (.iconst 1, 1) := by decide +kernel
theorem dX7_ends_12 : decode cX7_ends 12 = .ok (.goto 4, 3) := by decide +kernel
theorem dX7_ends_15 : decode cX7_ends 15 = .ok (.iconst 0, 1) := by decide +kernel
theorem dX7_ends_16 : decode cX7_ends 16 = .ok (.iadd, 1) := by decide +kernel
theorem dX7_ends_17 : decode cX7_ends 17 = .ok (.putfield 248, 3) := by decide +kernel
theorem dX7_ends_20 : decode cX7_ends 20 = .ok (.iconst 0, 1) := by decide +kernel
theorem dX7_ends_21 : decode cX7_ends 21 = .ok (.istore_n 3, 1) := by decide +kernel
theorem dX7_ends_22 : decode cX7_ends 22 = .ok (.iload_n 3, 1) := by decide +kernel
theorem dX7_ends_23 : decode cX7_ends 23 = .ok (.aload_n 0, 1) := by decide +kernel
theorem dX7_ends_24 : decode cX7_ends 24 = .ok (.getfield 7, 3) := by decide +kernel
theorem dX7_ends_27 : decode cX7_ends 27 = .ok (.iconst 1, 1) := by decide +kernel
theorem dX7_ends_28 : decode cX7_ends 28 = .ok (.iaload, 1) := by decide +kernel
theorem dX7_ends_29 : decode cX7_ends 29 = .ok (.if_icmp .ge 58, 3) := by decide +kernel
theorem dX7_ends_32 : decode cX7_ends 32 = .ok (.aload_n 0, 1) := by decide +kernel
theorem dX7_ends_33 : decode cX7_ends 33 = .ok (.getfield 29, 3) := by decide +kernel
theorem dX7_ends_36 : decode cX7_ends 36 = .ok (.bipush 6, 2) := by decide +kernel
theorem dX7_ends_38 : decode cX7_ends 38 = .ok (.iload_n 3, 1) := by decide +kernel
theorem dX7_ends_39 : decode cX7_ends 39 = .ok (.imul, 1) := by decide +kernel
theorem dX7_ends_40 : decode cX7_ends 40 = .ok (.aload_n 0, 1) := by decide +kernel
theorem dX7_ends_41 : decode cX7_ends 41 = .ok (.iload_n 3, 1) := by decide +kernel
theorem dX7_ends_42 : decode cX7_ends 42 = .ok (.iconst 4, 1) := by decide +kernel
theorem dX7_ends_43 : decode cX7_ends 43 = .ok (.invokevirtual 71, 3) := by decide +kernel
theorem dX7_ends_46 : decode cX7_ends 46 = .ok (.iadd, 1) := by decide +kernel
theorem dX7_ends_47 : decode cX7_ends 47 = .ok (.dup2, 1) := by decide +kernel
theorem dX7_ends_48 : decode cX7_ends 48 = .ok (.laload, 1) := by decide +kernel
theorem dX7_ends_49 : decode cX7_ends 49 = .ok (.lload_n 1, 1) := by decide +kernel
theorem dX7_ends_50 : decode cX7_ends 50 = .ok (.ladd, 1) := by decide +kernel
theorem dX7_ends_51 : decode cX7_ends 51 = .ok (.lastore, 1) := by decide +kernel
theorem dX7_ends_52 : decode cX7_ends 52 = .ok (.aload_n 0, 1) := by decide +kernel
theorem dX7_ends_53 : decode cX7_ends 53 = .ok (.getfield 33, 3) := by decide +kernel
theorem dX7_ends_56 : decode cX7_ends 56 = .ok (.iload_n 3, 1) := by decide +kernel
theorem dX7_ends_57 : decode cX7_ends 57 = .ok (.dup2, 1) := by decide +kernel
theorem dX7_ends_58 : decode cX7_ends 58 = .ok (.laload, 1) := by decide +kernel
theorem dX7_ends_59 : decode cX7_ends 59 = .ok (.aload_n 0, 1) := by decide +kernel
theorem dX7_ends_60 : decode cX7_ends 60 = .ok (.iload_n 3, 1) := by decide +kernel
theorem dX7_ends_61 : decode cX7_ends 61 = .ok (.iconst 4, 1) := by decide +kernel
theorem dX7_ends_62 : decode cX7_ends 62 = .ok (.invokevirtual 71, 3) := by decide +kernel
theorem dX7_ends_65 : decode cX7_ends 65 = .ok (.aload_n 0, 1) := by decide +kernel
theorem dX7_ends_66 : decode cX7_ends 66 = .ok (.iload_n 3, 1) := by decide +kernel
theorem dX7_ends_67 : decode cX7_ends 67 = .ok (.iconst 3, 1) := by decide +kernel
theorem dX7_ends_68 : decode cX7_ends 68 = .ok (.invokevirtual 71, 3) := by decide +kernel
theorem dX7_ends_71 : decode cX7_ends 71 = .ok (.if_icmp .ne 7, 3) := by decide +kernel
theorem dX7_ends_74 : decode cX7_ends 74 = .ok (.lconst 0, 1) := by decide +kernel
theorem dX7_ends_75 : decode cX7_ends 75 = .ok (.goto 4, 3) := by decide +kernel
theorem dX7_ends_78 : decode cX7_ends 78 = .ok (.lload_n 1, 1) := by decide +kernel
theorem dX7_ends_79 : decode cX7_ends 79 = .ok (.ladd, 1) := by decide +kernel
theorem dX7_ends_80 : decode cX7_ends 80 = .ok (.lastore, 1) := by decide +kernel
theorem dX7_ends_81 : decode cX7_ends 81 = .ok (.iinc 3 1, 3) := by decide +kernel
theorem dX7_ends_84 : decode cX7_ends 84 = .ok (.goto (-62), 3) := by decide +kernel
theorem dX7_ends_87 : decode cX7_ends 87 = .ok (.iconst 0, 1) := by decide +kernel
theorem dX7_ends_88 : decode cX7_ends 88 = .ok (.istore_n 3, 1) := by decide +kernel
theorem dX7_ends_89 : decode cX7_ends 89 = .ok (.iload_n 3, 1) := by decide +kernel
theorem dX7_ends_90 : decode cX7_ends 90 = .ok (.aload_n 0, 1) := by decide +kernel
theorem dX7_ends_91 : decode cX7_ends 91 = .ok (.getfield 7, 3) := by decide +kernel
theorem dX7_ends_94 : decode cX7_ends 94 = .ok (.iconst 0, 1) := by decide +kernel
theorem dX7_ends_95 : decode cX7_ends 95 = .ok (.iaload, 1) := by decide +kernel
theorem dX7_ends_96 : decode cX7_ends 96 = .ok (.if_icmp .ge 81, 3) := by decide +kernel
theorem dX7_ends_99 : decode cX7_ends 99 = .ok (.aload_n 0, 1) := by decide +kernel
theorem dX7_ends_100 : decode cX7_ends 100 = .ok (.iload_n 3, 1) := by decide +kernel
theorem dX7_ends_101 : decode cX7_ends 101 = .ok (.invokevirtual 101, 3) := by decide +kernel
theorem dX7_ends_104 : decode cX7_ends 104 = .ok (.istore 4, 2) := by decide +kernel
theorem dX7_ends_106 : decode cX7_ends 106 = .ok (.aload_n 0, 1) := by decide +kernel
theorem dX7_ends_107 : decode cX7_ends 107 = .ok (.getfield 39, 3) := by decide +kernel
theorem dX7_ends_110 : decode cX7_ends 110 = .ok (.iload_n 3, 1) := by decide +kernel
theorem dX7_ends_111 : decode cX7_ends 111 = .ok (.dup2, 1) := by decide +kernel
theorem dX7_ends_112 : decode cX7_ends 112 = .ok (.laload, 1) := by decide +kernel
theorem dX7_ends_113 : decode cX7_ends 113 = .ok (.iload 4, 2) := by decide +kernel
theorem dX7_ends_115 : decode cX7_ends 115 = .ok (.i2l, 1) := by decide +kernel
theorem dX7_ends_116 : decode cX7_ends 116 = .ok (.lload_n 1, 1) := by decide +kernel
theorem dX7_ends_117 : decode cX7_ends 117 = .ok (.lmul, 1) := by decide +kernel
theorem dX7_ends_118 : decode cX7_ends 118 = .ok (.ladd, 1) := by decide +kernel
theorem dX7_ends_119 : decode cX7_ends 119 = .ok (.lastore, 1) := by decide +kernel
theorem dX7_ends_120 : decode cX7_ends 120 = .ok (.aload_n 0, 1) := by decide +kernel
theorem dX7_ends_121 : decode cX7_ends 121 = .ok (.getfield 42, 3) := by decide +kernel
theorem dX7_ends_124 : decode cX7_ends 124 = .ok (.iload_n 3, 1) := by decide +kernel
theorem dX7_ends_125 : decode cX7_ends 125 = .ok (.iload 4, 2) := by decide +kernel
theorem dX7_ends_127 : decode cX7_ends 127 = .ok (.aload_n 0, 1) := by decide +kernel
theorem dX7_ends_128 : decode cX7_ends 128 = .ok (.getfield 42, 3) := by decide +kernel
theorem dX7_ends_131 : decode cX7_ends 131 = .ok (.iload_n 3, 1) := by decide +kernel
theorem dX7_ends_132 : decode cX7_ends 132 = .ok (.iaload, 1) := by decide +kernel
theorem dX7_ends_133 : decode cX7_ends 133 = .ok (.if_icmp .le 8, 3) := by decide +kernel
theorem dX7_ends_136 : decode cX7_ends 136 = .ok (.iload 4, 2) := by decide +kernel
theorem dX7_ends_138 : decode cX7_ends 138 = .ok (.goto 9, 3) := by decide +kernel
theorem dX7_ends_141 : decode cX7_ends 141 = .ok (.aload_n 0, 1) := by decide +kernel
theorem dX7_ends_142 : decode cX7_ends 142 = .ok (.getfield 42, 3) := by decide +kernel
theorem dX7_ends_145 : decode cX7_ends 145 = .ok (.iload_n 3, 1) := by decide +kernel
theorem dX7_ends_146 : decode cX7_ends 146 = .ok (.iaload, 1) := by decide +kernel
theorem dX7_ends_147 : decode cX7_ends 147 = .ok (.iastore, 1) := by decide +kernel
theorem dX7_ends_148 : decode cX7_ends 148 = .ok (.aload_n 0, 1) := by decide +kernel
theorem dX7_ends_149 : decode cX7_ends 149 = .ok (.getfield 45, 3) := by decide +kernel
theorem dX7_ends_152 : decode cX7_ends 152 = .ok (.iload_n 3, 1) := by decide +kernel
theorem dX7_ends_153 : decode cX7_ends 153 = .ok (.dup2, 1) := by decide +kernel
theorem dX7_ends_154 : decode cX7_ends 154 = .ok (.laload, 1) := by decide +kernel
theorem dX7_ends_155 : decode cX7_ends 155 = .ok (.iload 4, 2) := by decide +kernel
theorem dX7_ends_157 : decode cX7_ends 157 = .ok (.aload_n 0, 1) := by decide +kernel
theorem dX7_ends_158 : decode cX7_ends 158 = .ok (.getfield 251, 3) := by decide +kernel
theorem dX7_ends_161 : decode cX7_ends 161 = .ok (.if_icmp .lt 7, 3) := by decide +kernel
theorem dX7_ends_164 : decode cX7_ends 164 = .ok (.lload_n 1, 1) := by decide +kernel
theorem dX7_ends_165 : decode cX7_ends 165 = .ok (.goto 4, 3) := by decide +kernel
theorem dX7_ends_168 : decode cX7_ends 168 = .ok (.lconst 0, 1) := by decide +kernel
theorem dX7_ends_169 : decode cX7_ends 169 = .ok (.ladd, 1) := by decide +kernel
theorem dX7_ends_170 : decode cX7_ends 170 = .ok (.lastore, 1) := by decide +kernel
theorem dX7_ends_171 : decode cX7_ends 171 = .ok (.iinc 3 1, 3) := by decide +kernel
theorem dX7_ends_174 : decode cX7_ends 174 = .ok (.goto (-85), 3) := by decide +kernel
theorem dX7_ends_177 : decode cX7_ends 177 = .ok (.aload_n 0, 1) := by decide +kernel
theorem dX7_ends_178 : decode cX7_ends 178 = .ok (.getfield 36, 3) := by decide +kernel
theorem dX7_ends_181 : decode cX7_ends 181 = .ok (.aload_n 0, 1) := by decide +kernel
theorem dX7_ends_182 : decode cX7_ends 182 = .ok (.invokevirtual 245, 3) := by decide +kernel
theorem dX7_ends_185 : decode cX7_ends 185 = .ok (.dup2, 1) := by decide +kernel
theorem dX7_ends_186 : decode cX7_ends 186 = .ok (.laload, 1) := by decide +kernel
theorem dX7_ends_187 : decode cX7_ends 187 = .ok (.lload_n 1, 1) := by decide +kernel
theorem dX7_ends_188 : decode cX7_ends 188 = .ok (.ladd, 1) := by decide +kernel
theorem dX7_ends_189 : decode cX7_ends 189 = .ok (.lastore, 1) := by decide +kernel
theorem dX7_ends_190 : decode cX7_ends 190 = .ok (.return_, 1) := by decide +kernel
set_option maxHeartbeats 4000000 in
set_option maxRecDepth 100000 in
theorem c_X7_ends (l : Launch) (D : va_G) (cy : Nat → ClassId) (ad adK adV : Nat → Nat) (M : Mm) (o0 : Nat) (a1 : Int64) (res : Mm × Unit) (h : f_X7_ends M o0 a1 = some res) : Met l yX7_ends (wU yX7_ends cX7_ends 5 none) rmX7_ends (va_Pc [.ref (ad o0), .long a1] (Pre D cy shM ad nM adK adV M)) (va_Qv (fun (M2 : Mm) => M2 = res.1) (Pre D cy shM ad nM adK adV) (Aw ad nM)) 0 0 (Aw ad nM) := by
  refine Met.ofW (cc := cX7_ends) (maxL := 5) (ret := none) (by decide) rfl ?_
  intro p e s m args below meth c s₁ B hml hv
  obtain ⟨hargs, hPre⟩ := hv
  have hx := B.exec
  have hb := B.bytes
  have hr := B.returns
  have hts := atoms_spec (ws := wU yX7_ends cX7_ends 5 none) B.pre
  have hq : ∀ w ∈ gW, w.before args s = true := fun w hw => hts w (List.mem_cons_of_mem _ hw)
  have hcm : ∀ w ∈ gW, w ∈ wU yX7_ends cX7_ends 5 none := fun w hw => List.mem_cons_of_mem _ hw
  have hown : s.vm.findClass RX7 = some m.cls := findClass_of_methodNamed B.named
  have hlocks := B.notSynchronized
  have hF : CallFix p m c cX7_ends 5 s args (wU yX7_ends cX7_ends 5 none) RX7 := ⟨hx, hb, hml, hown, hts⟩
  have hK := hPre.2.1
  have hZ := hPre.2.2.2
  have hw : Wd D cy shM ad nM (Aw ad nM) s.heap M s.heap [] := ⟨hPre.1, hPre.2.2.1, va_S.rf⟩
  have iw7 : ∀ w ∈ u_ws RX7 TX7 30, w ∈ wU yX7_ends cX7_ends 5 none := fun w hw => List.mem_cons_of_mem _ (iX7 w hw)
  rw [show entryFrame m args 5 = entryFrame m ([.ref (ad o0), .long a1] : List Value).toArray 5 from by rw [hargs]]
  have hl := lv_entry ([.ref (ad o0), .long a1]) (n := 5) (Nat.le_of_ble_eq_true rfl)
  rw [lg_entry_eq]
  generalize (lg_sl ([.ref (ad o0), .long a1]) ++ List.replicate (5 - (lg_sl ([.ref (ad o0), .long a1])).length) Slot.unset).toArray = ls at hl ⊢
  have hl : lv_has ls 5 [(0, .ref (ad o0)), (1, .long a1)] := hl
  have hb169 : ∀ (k89 : Mm → Nat → Int64 → Int32 → Option (Mm × Unit)) (hk89 : ∀ (M : Mm) (x0 : Nat) (x1 : Int64) (x3 : Int32), k89 M x0 x1 x3 = some res → ∀ (H : Heap) (locs : List Loc) (ls : Array Slot), Wd D cy shM ad nM (Aw ad nM) s.heap M H locs → lv_has ls 5 [(0, .ref (ad x0)), (1, .long x1), (3, .int x3)] → W p l e (headSpec (wU yX7_ends cX7_ends 5 none) rmX7_ends).room s m args below meth c H locs 0 0 (QV D cy shM ad nM adK adV below args s res) (F0 m 89 ls [])), ∀ (M : Mm) (x0 : Nat) (x1 : Int64) (x3 : Int32) (t0 : Nat) (t1 : Int32) (t2 : Int64) (t3 : Int64), f_X7_ends_b169 k89 M x0 x1 x3 t0 t1 t2 t3 = some res → ∀ (H : Heap) (locs : List Loc) (ls : Array Slot), Wd D cy shM ad nM (Aw ad nM) s.heap M H locs → lv_has ls 5 [(0, .ref (ad x0)), (1, .long x1), (3, .int x3)] → W p l e (headSpec (wU yX7_ends cX7_ends 5 none) rmX7_ends).room s m args below meth c H locs 0 0 (QV D cy shM ad nM adK adV below args s res) (F0 m 169 ls [.long t3, .long t2, .int t1, .ref (ad t0)]) := by
    intro k89 hk89
    intro M x0 x1 x3 t0 t1 t2 t3 h H locs ls hw hl
    unfold f_X7_ends_b169 at h
    refine lv_ladd hx hb dX7_ends_169 ?_
    replace h := gd_some h
    obtain ⟨g1, h⟩ := h
    refine r_last hx hb hK hw t0 g1 dX7_ends_170 (fun H locs hw => ?_)
    replace h := lt_some h
    obtain ⟨M2, eM2, h⟩ := h
    rw [← eM2] at hw
    refine lv_iinc (v := x3 + (1 : Int32)) (lv' := [(3, .int (x3 + (1 : Int32))), (0, .ref (ad x0)), (1, .long x1)]) hx hb dX7_ends_171 hl (k := 2) rfl (congrArg (fun z => x3 + z) (by decide)) (by decide) rfl (fun ls hl => ?_)
    refine lv_goto (tgt := 89) hx hb dX7_ends_174 (by decide) ?_
    exact hk89 _ _ _ _ h _ _ _ hw (lv_sub hl [1, 2, 0] rfl)
  have hb147 : ∀ (k89 : Mm → Nat → Int64 → Int32 → Option (Mm × Unit)) (hk89 : ∀ (M : Mm) (x0 : Nat) (x1 : Int64) (x3 : Int32), k89 M x0 x1 x3 = some res → ∀ (H : Heap) (locs : List Loc) (ls : Array Slot), Wd D cy shM ad nM (Aw ad nM) s.heap M H locs → lv_has ls 5 [(0, .ref (ad x0)), (1, .long x1), (3, .int x3)] → W p l e (headSpec (wU yX7_ends cX7_ends 5 none) rmX7_ends).room s m args below meth c H locs 0 0 (QV D cy shM ad nM adK adV below args s res) (F0 m 89 ls [])), ∀ (M : Mm) (x0 : Nat) (x1 : Int64) (x3 : Int32) (x4 : Int32) (t0 : Nat) (t1 : Int32) (t2 : Int32), f_X7_ends_b147 k89 M x0 x1 x3 x4 t0 t1 t2 = some res → ∀ (H : Heap) (locs : List Loc) (ls : Array Slot), Wd D cy shM ad nM (Aw ad nM) s.heap M H locs → lv_has ls 5 [(0, .ref (ad x0)), (1, .long x1), (3, .int x3), (4, .int x4)] → W p l e (headSpec (wU yX7_ends cX7_ends 5 none) rmX7_ends).room s m args below meth c H locs 0 0 (QV D cy shM ad nM adK adV below args s res) (F0 m 147 ls [.int t2, .int t1, .ref (ad t0)]) := by
    intro k89 hk89
    intro M x0 x1 x3 x4 t0 t1 t2 h H locs ls hw hl
    unfold f_X7_ends_b147 at h
    replace h := gd_some h
    obtain ⟨g3, h⟩ := h
    refine r_iast hx hb hK hw t0 g3 dX7_ends_147 (fun H locs hw => ?_)
    replace h := lt_some h
    obtain ⟨M4, eM4, h⟩ := h
    rw [← eM4] at hw
    refine lv_aload_n hx hb dX7_ends_148 rfl (lv_at hl 0 rfl) ?_
    replace h := gd_some h
    obtain ⟨g5, h⟩ := h
    replace h := bd_some h
    obtain ⟨q6, eq6, h⟩ := h
    refine r_getR hx hb hts iw7 hown hK hw x0 22 g5 (by decide) rfl (by decide) rfl (hq _ qw912) (fun _ h9 => h9) dX7_ends_149 eq6 ?_
    refine lv_iload_n hx hb dX7_ends_152 rfl (lv_at hl 2 rfl) ?_
    refine lv_dup2_11 hx hb dX7_ends_153 rfl rfl ?_
    replace h := gd_some h
    obtain ⟨g7, h⟩ := h
    refine r_lald hx hb hK hw q6 g7 dX7_ends_154 ?_
    refine lv_iload hx hb dX7_ends_155 (lv_at hl 3 rfl) ?_
    refine lv_aload_n hx hb dX7_ends_157 rfl (lv_at hl 0 rfl) ?_
    refine r_getI hx hb hts iw7 hown hK hw x0 21 g5 (by decide) rfl (by decide) rfl (hq _ qw911) (fun _ h9 => h9) dX7_ends_158 ?_
    refine lv_icmp_lt (tgt := 168) hx hb dX7_ends_161 (by decide) (fun c8 => ?_) (fun c8 => ?_)
    · replace h := if_some_t c8 h
      refine lv_lconst (v := (0 : Int64)) hx hb dX7_ends_168 (by decide) ?_
      exact hb169 _ hk89 _ _ _ _ _ _ _ _ h _ _ _ hw (lv_sub hl [0, 1, 2] rfl)
    · replace h := if_some_f c8 h
      refine lv_lload_n hx hb dX7_ends_164 rfl (lv_at hl 1 rfl) ?_
      refine lv_goto (tgt := 169) hx hb dX7_ends_165 (by decide) ?_
      exact hb169 _ hk89 _ _ _ _ _ _ _ _ h _ _ _ hw (lv_sub hl [0, 1, 2] rfl)
  have hb89 : ∀ (nn : Nat), ∀ (M : Mm) (x0 : Nat) (x1 : Int64) (x3 : Int32), f_X7_ends_b89 nn M x0 x1 x3 = some res → ∀ (H : Heap) (locs : List Loc) (ls : Array Slot), Wd D cy shM ad nM (Aw ad nM) s.heap M H locs → lv_has ls 5 [(0, .ref (ad x0)), (1, .long x1), (3, .int x3)] → W p l e (headSpec (wU yX7_ends cX7_ends 5 none) rmX7_ends).room s m args below meth c H locs 0 0 (QV D cy shM ad nM adK adV below args s res) (F0 m 89 ls []) := by
    intro nn
    induction nn with
    | zero => intro M x0 x1 x3 h; simp [f_X7_ends_b89] at h
    | succ nn ih =>
      intro M x0 x1 x3 h H locs ls hw hl
      unfold f_X7_ends_b89 at h
      refine lv_iload_n hx hb dX7_ends_89 rfl (lv_at hl 2 rfl) ?_
      refine lv_aload_n hx hb dX7_ends_90 rfl (lv_at hl 0 rfl) ?_
      replace h := gd_some h
      obtain ⟨g9, h⟩ := h
      replace h := bd_some h
      obtain ⟨q10, eq10, h⟩ := h
      refine r_getR hx hb hts iw7 hown hK hw x0 0 g9 (by decide) rfl (by decide) rfl (hq _ qw890) (fun _ h9 => h9) dX7_ends_91 eq10 ?_
      refine lv_iconst (v := (0 : Int32)) hx hb dX7_ends_94 (by decide) ?_
      replace h := gd_some h
      obtain ⟨g11, h⟩ := h
      refine r_iald hx hb hK hw q10 g11 dX7_ends_95 ?_
      refine lv_icmp_ge (tgt := 177) hx hb dX7_ends_96 (by decide) (fun c12 => ?_) (fun c12 => ?_)
      · replace h := if_some_t c12 h
        refine lv_aload_n hx hb dX7_ends_177 rfl (lv_at hl 0 rfl) ?_
        replace h := bd_some h
        obtain ⟨q13, eq13, h⟩ := h
        refine r_getR hx hb hts iw7 hown hK hw x0 18 g9 (by decide) rfl (by decide) rfl (hq _ qw908) (fun _ h9 => h9) dX7_ends_178 eq13 ?_
        refine lv_aload_n hx hb dX7_ends_181 rfl (lv_at hl 0 rfl) ?_
        replace h := bd_some h
        obtain ⟨r14, er14, h⟩ := h
        refine r_callVi (As := []) (rest := [.ref (ad q13)]) hF (c_X7_leader l D cy ad adK adV M x0 r14 er14) (gW_goodV hcm qw1197 qw1194 qw1196 qw52 qw68) hdX7_leader rfl ⟨Nat.le_of_ble_eq_true rfl, Nat.le_of_ble_eq_true rfl⟩ rfl rfl hZ hK hw g9 (by decide) rfl rfl hl.1 rfl (Nat.le_of_ble_eq_true rfl) ⟨Nat.zero_le _, Nat.zero_le _⟩ dX7_ends_182 (fun H locs hw => ?_)
        refine lv_dup2_11 hx hb dX7_ends_185 rfl rfl ?_
        replace h := gd_some h
        obtain ⟨g15, h⟩ := h
        refine r_lald hx hb hK hw q13 g15 dX7_ends_186 ?_
        refine lv_lload_n hx hb dX7_ends_187 rfl (lv_at hl 1 rfl) ?_
        refine lv_ladd hx hb dX7_ends_188 ?_
        replace h := gd_some h
        obtain ⟨g16, h⟩ := h
        refine r_last hx hb hK hw q13 g16 dX7_ends_189 (fun H locs hw => ?_)
        replace h := lt_some h
        obtain ⟨M17, eM17, h⟩ := h
        rw [← eM17] at hw
        exact r_vret hx hb hr hlocks hZ hK hw h dX7_ends_190
      · replace h := if_some_f c12 h
        refine lv_aload_n hx hb dX7_ends_99 rfl (lv_at hl 0 rfl) ?_
        refine lv_iload_n hx hb dX7_ends_100 rfl (lv_at hl 2 rfl) ?_
        replace h := bd_some h
        obtain ⟨r18, er18, h⟩ := h
        refine r_callVi (As := [.int x3]) (rest := []) hF (c_X7_points l D cy ad adK adV M x0 x3 r18 er18) (gW_goodV hcm qw1008 qw1005 qw1007 qw22 qw68) hdX7_points rfl ⟨Nat.le_of_ble_eq_true rfl, Nat.le_of_ble_eq_true rfl⟩ rfl rfl hZ hK hw g9 (by decide) rfl rfl hl.1 rfl (Nat.le_of_ble_eq_true rfl) ⟨Nat.zero_le _, Nat.zero_le _⟩ dX7_ends_101 (fun H locs hw => ?_)
        refine lv_istore (lv' := [(4, .int r18.2), (0, .ref (ad x0)), (1, .long x1), (3, .int x3)]) hx hb dX7_ends_104 hl (by decide) rfl (fun ls hl => ?_)
        refine lv_aload_n hx hb dX7_ends_106 rfl (lv_at hl 1 rfl) ?_
        replace h := bd_some h
        obtain ⟨q19, eq19, h⟩ := h
        refine r_getR hx hb hts iw7 hown hK hw x0 19 g9 (by decide) rfl (by decide) rfl (hq _ qw909) (fun _ h9 => h9) dX7_ends_107 eq19 ?_
        refine lv_iload_n hx hb dX7_ends_110 rfl (lv_at hl 3 rfl) ?_
        refine lv_dup2_11 hx hb dX7_ends_111 rfl rfl ?_
        replace h := gd_some h
        obtain ⟨g20, h⟩ := h
        refine r_lald hx hb hK hw q19 g20 dX7_ends_112 ?_
        refine lv_iload hx hb dX7_ends_113 (lv_at hl 0 rfl) ?_
        refine lv_i2l (v := r18.2.toInt64) hx hb dX7_ends_115 rfl ?_
        refine lv_lload_n hx hb dX7_ends_116 rfl (lv_at hl 2 rfl) ?_
        refine lv_lmul hx hb dX7_ends_117 ?_
        refine lv_ladd hx hb dX7_ends_118 ?_
        replace h := gd_some h
        obtain ⟨g21, h⟩ := h
        refine r_last hx hb hK hw q19 g21 dX7_ends_119 (fun H locs hw => ?_)
        replace h := lt_some h
        obtain ⟨M22, eM22, h⟩ := h
        rw [← eM22] at hw
        refine lv_aload_n hx hb dX7_ends_120 rfl (lv_at hl 1 rfl) ?_
        replace h := bd_some h
        obtain ⟨q23, eq23, h⟩ := h
        refine r_getR hx hb hts iw7 hown hK hw x0 20 g9 (by decide) rfl (by decide) rfl (hq _ qw910) (fun _ h9 => h9) dX7_ends_121 eq23 ?_
        refine lv_iload_n hx hb dX7_ends_124 rfl (lv_at hl 3 rfl) ?_
        refine lv_iload hx hb dX7_ends_125 (lv_at hl 0 rfl) ?_
        refine lv_aload_n hx hb dX7_ends_127 rfl (lv_at hl 1 rfl) ?_
        replace h := bd_some h
        obtain ⟨q24, eq24, h⟩ := h
        refine r_getR hx hb hts iw7 hown hK hw x0 20 g9 (by decide) rfl (by decide) rfl (hq _ qw910) (fun _ h9 => h9) dX7_ends_128 eq24 ?_
        refine lv_iload_n hx hb dX7_ends_131 rfl (lv_at hl 3 rfl) ?_
        replace h := gd_some h
        obtain ⟨g25, h⟩ := h
        refine r_iald hx hb hK hw q24 g25 dX7_ends_132 ?_
        refine lv_icmp_le (tgt := 141) hx hb dX7_ends_133 (by decide) (fun c26 => ?_) (fun c26 => ?_)
        · replace h := if_some_t c26 h
          refine lv_aload_n hx hb dX7_ends_141 rfl (lv_at hl 1 rfl) ?_
          replace h := bd_some h
          obtain ⟨q27, eq27, h⟩ := h
          refine r_getR hx hb hts iw7 hown hK hw x0 20 g9 (by decide) rfl (by decide) rfl (hq _ qw910) (fun _ h9 => h9) dX7_ends_142 eq27 ?_
          refine lv_iload_n hx hb dX7_ends_145 rfl (lv_at hl 3 rfl) ?_
          replace h := gd_some h
          obtain ⟨g28, h⟩ := h
          refine r_iald hx hb hK hw q27 g28 dX7_ends_146 ?_
          exact hb147 _ ih _ _ _ _ _ _ _ _ h _ _ _ hw (lv_sub hl [1, 2, 3, 0] rfl)
        · replace h := if_some_f c26 h
          refine lv_iload hx hb dX7_ends_136 (lv_at hl 0 rfl) ?_
          refine lv_goto (tgt := 147) hx hb dX7_ends_138 (by decide) ?_
          exact hb147 _ ih _ _ _ _ _ _ _ _ h _ _ _ hw (lv_sub hl [1, 2, 3, 0] rfl)
  have hb79 : ∀ (k22 : Mm → Nat → Int64 → Int32 → Option (Mm × Unit)) (hk22 : ∀ (M : Mm) (x0 : Nat) (x1 : Int64) (x3 : Int32), k22 M x0 x1 x3 = some res → ∀ (H : Heap) (locs : List Loc) (ls : Array Slot), Wd D cy shM ad nM (Aw ad nM) s.heap M H locs → lv_has ls 5 [(0, .ref (ad x0)), (1, .long x1), (3, .int x3)] → W p l e (headSpec (wU yX7_ends cX7_ends 5 none) rmX7_ends).room s m args below meth c H locs 0 0 (QV D cy shM ad nM adK adV below args s res) (F0 m 22 ls [])), ∀ (M : Mm) (x0 : Nat) (x1 : Int64) (x3 : Int32) (t0 : Nat) (t1 : Int32) (t2 : Int64) (t3 : Int64), f_X7_ends_b79 k22 M x0 x1 x3 t0 t1 t2 t3 = some res → ∀ (H : Heap) (locs : List Loc) (ls : Array Slot), Wd D cy shM ad nM (Aw ad nM) s.heap M H locs → lv_has ls 5 [(0, .ref (ad x0)), (1, .long x1), (3, .int x3)] → W p l e (headSpec (wU yX7_ends cX7_ends 5 none) rmX7_ends).room s m args below meth c H locs 0 0 (QV D cy shM ad nM adK adV below args s res) (F0 m 79 ls [.long t3, .long t2, .int t1, .ref (ad t0)]) := by
    intro k22 hk22
    intro M x0 x1 x3 t0 t1 t2 t3 h H locs ls hw hl
    unfold f_X7_ends_b79 at h
    refine lv_ladd hx hb dX7_ends_79 ?_
    replace h := gd_some h
    obtain ⟨g29, h⟩ := h
    refine r_last hx hb hK hw t0 g29 dX7_ends_80 (fun H locs hw => ?_)
    replace h := lt_some h
    obtain ⟨M30, eM30, h⟩ := h
    rw [← eM30] at hw
    refine lv_iinc (v := x3 + (1 : Int32)) (lv' := [(3, .int (x3 + (1 : Int32))), (0, .ref (ad x0)), (1, .long x1)]) hx hb dX7_ends_81 hl (k := 2) rfl (congrArg (fun z => x3 + z) (by decide)) (by decide) rfl (fun ls hl => ?_)
    refine lv_goto (tgt := 22) hx hb dX7_ends_84 (by decide) ?_
    exact hk22 _ _ _ _ h _ _ _ hw (lv_sub hl [1, 2, 0] rfl)
  have hb22 : ∀ (nn : Nat), ∀ (M : Mm) (x0 : Nat) (x1 : Int64) (x3 : Int32), f_X7_ends_b22 nn M x0 x1 x3 = some res → ∀ (H : Heap) (locs : List Loc) (ls : Array Slot), Wd D cy shM ad nM (Aw ad nM) s.heap M H locs → lv_has ls 5 [(0, .ref (ad x0)), (1, .long x1), (3, .int x3)] → W p l e (headSpec (wU yX7_ends cX7_ends 5 none) rmX7_ends).room s m args below meth c H locs 0 0 (QV D cy shM ad nM adK adV below args s res) (F0 m 22 ls []) := by
    intro nn
    induction nn with
    | zero => intro M x0 x1 x3 h; simp [f_X7_ends_b22] at h
    | succ nn ih =>
      intro M x0 x1 x3 h H locs ls hw hl
      unfold f_X7_ends_b22 at h
      refine lv_iload_n hx hb dX7_ends_22 rfl (lv_at hl 2 rfl) ?_
      refine lv_aload_n hx hb dX7_ends_23 rfl (lv_at hl 0 rfl) ?_
      replace h := gd_some h
      obtain ⟨g31, h⟩ := h
      replace h := bd_some h
      obtain ⟨q32, eq32, h⟩ := h
      refine r_getR hx hb hts iw7 hown hK hw x0 0 g31 (by decide) rfl (by decide) rfl (hq _ qw890) (fun _ h9 => h9) dX7_ends_24 eq32 ?_
      refine lv_iconst (v := (1 : Int32)) hx hb dX7_ends_27 (by decide) ?_
      replace h := gd_some h
      obtain ⟨g33, h⟩ := h
      refine r_iald hx hb hK hw q32 g33 dX7_ends_28 ?_
      refine lv_icmp_ge (tgt := 87) hx hb dX7_ends_29 (by decide) (fun c34 => ?_) (fun c34 => ?_)
      · replace h := if_some_t c34 h
        refine lv_iconst (v := (0 : Int32)) hx hb dX7_ends_87 (by decide) ?_
        refine lv_istore_n (lv' := [(3, .int (0 : Int32)), (0, .ref (ad x0)), (1, .long x1)]) hx hb dX7_ends_88 rfl hl (by decide) rfl (fun ls hl => ?_)
        exact hb89 1000 _ _ _ _ h _ _ _ hw (lv_sub hl [1, 2, 0] rfl)
      · replace h := if_some_f c34 h
        refine lv_aload_n hx hb dX7_ends_32 rfl (lv_at hl 0 rfl) ?_
        replace h := bd_some h
        obtain ⟨q35, eq35, h⟩ := h
        refine r_getR hx hb hts iw7 hown hK hw x0 16 g31 (by decide) rfl (by decide) rfl (hq _ qw906) (fun _ h9 => h9) dX7_ends_33 eq35 ?_
        refine lv_bipush (v := (6 : Int32)) hx hb dX7_ends_36 (by decide) ?_
        refine lv_iload_n hx hb dX7_ends_38 rfl (lv_at hl 2 rfl) ?_
        refine lv_imul hx hb dX7_ends_39 ?_
        refine lv_aload_n hx hb dX7_ends_40 rfl (lv_at hl 0 rfl) ?_
        refine lv_iload_n hx hb dX7_ends_41 rfl (lv_at hl 2 rfl) ?_
        refine lv_iconst (v := (4 : Int32)) hx hb dX7_ends_42 (by decide) ?_
        replace h := bd_some h
        obtain ⟨r36, er36, h⟩ := h
        refine r_callVi (As := [.int x3, .int (4 : Int32)]) (rest := [.int ((6 : Int32) * x3), .ref (ad q35)]) hF (c_X7_of l D cy ad adK adV M x0 x3 (4 : Int32) r36 er36) (gW_goodV hcm qw1012 qw1009 qw1011 qw23 qw68) hdX7_of rfl ⟨Nat.le_of_ble_eq_true rfl, Nat.le_of_ble_eq_true rfl⟩ rfl rfl hZ hK hw g31 (by decide) rfl rfl hl.1 rfl (Nat.le_of_ble_eq_true rfl) ⟨Nat.zero_le _, Nat.zero_le _⟩ dX7_ends_43 (fun H locs hw => ?_)
        refine lv_iadd hx hb dX7_ends_46 ?_
        refine lv_dup2_11 hx hb dX7_ends_47 rfl rfl ?_
        replace h := gd_some h
        obtain ⟨g37, h⟩ := h
        refine r_lald hx hb hK hw q35 g37 dX7_ends_48 ?_
        refine lv_lload_n hx hb dX7_ends_49 rfl (lv_at hl 1 rfl) ?_
        refine lv_ladd hx hb dX7_ends_50 ?_
        replace h := gd_some h
        obtain ⟨g38, h⟩ := h
        refine r_last hx hb hK hw q35 g38 dX7_ends_51 (fun H locs hw => ?_)
        replace h := lt_some h
        obtain ⟨M39, eM39, h⟩ := h
        rw [← eM39] at hw
        refine lv_aload_n hx hb dX7_ends_52 rfl (lv_at hl 0 rfl) ?_
        replace h := bd_some h
        obtain ⟨q40, eq40, h⟩ := h
        refine r_getR hx hb hts iw7 hown hK hw x0 17 g31 (by decide) rfl (by decide) rfl (hq _ qw907) (fun _ h9 => h9) dX7_ends_53 eq40 ?_
        refine lv_iload_n hx hb dX7_ends_56 rfl (lv_at hl 2 rfl) ?_
        refine lv_dup2_11 hx hb dX7_ends_57 rfl rfl ?_
        replace h := gd_some h
        obtain ⟨g41, h⟩ := h
        refine r_lald hx hb hK hw q40 g41 dX7_ends_58 ?_
        refine lv_aload_n hx hb dX7_ends_59 rfl (lv_at hl 0 rfl) ?_
        refine lv_iload_n hx hb dX7_ends_60 rfl (lv_at hl 2 rfl) ?_
        refine lv_iconst (v := (4 : Int32)) hx hb dX7_ends_61 (by decide) ?_
        replace h := bd_some h
        obtain ⟨r42, er42, h⟩ := h
        refine r_callVi (As := [.int x3, .int (4 : Int32)]) (rest := [.long (M39.2.1 q40 x3.toNatClampNeg), .int x3, .ref (ad q40)]) hF (c_X7_of l D cy ad adK adV M39 x0 x3 (4 : Int32) r42 er42) (gW_goodV hcm qw1012 qw1009 qw1011 qw23 qw68) hdX7_of rfl ⟨Nat.le_of_ble_eq_true rfl, Nat.le_of_ble_eq_true rfl⟩ rfl rfl hZ hK hw g31 (by decide) rfl rfl hl.1 rfl (Nat.le_of_ble_eq_true rfl) ⟨Nat.zero_le _, Nat.zero_le _⟩ dX7_ends_62 (fun H locs hw => ?_)
        refine lv_aload_n hx hb dX7_ends_65 rfl (lv_at hl 0 rfl) ?_
        refine lv_iload_n hx hb dX7_ends_66 rfl (lv_at hl 2 rfl) ?_
        refine lv_iconst (v := (3 : Int32)) hx hb dX7_ends_67 (by decide) ?_
        replace h := bd_some h
        obtain ⟨r43, er43, h⟩ := h
        refine r_callVi (As := [.int x3, .int (3 : Int32)]) (rest := [.int r42.2, .long (M39.2.1 q40 x3.toNatClampNeg), .int x3, .ref (ad q40)]) hF (c_X7_of l D cy ad adK adV r42.1 x0 x3 (3 : Int32) r43 er43) (gW_goodV hcm qw1012 qw1009 qw1011 qw23 qw68) hdX7_of rfl ⟨Nat.le_of_ble_eq_true rfl, Nat.le_of_ble_eq_true rfl⟩ rfl rfl hZ hK hw g31 (by decide) rfl rfl hl.1 rfl (Nat.le_of_ble_eq_true rfl) ⟨Nat.zero_le _, Nat.zero_le _⟩ dX7_ends_68 (fun H locs hw => ?_)
        refine lv_icmp_ne (tgt := 78) hx hb dX7_ends_71 (by decide) (fun c44 => ?_) (fun c44 => ?_)
        · replace h := if_some_f c44 h
          refine lv_lload_n hx hb dX7_ends_78 rfl (lv_at hl 1 rfl) ?_
          exact hb79 _ ih _ _ _ _ _ _ _ _ h _ _ _ hw (lv_sub hl [0, 1, 2] rfl)
        · replace h := if_some_t c44 h
          refine lv_lconst (v := (0 : Int64)) hx hb dX7_ends_74 (by decide) ?_
          refine lv_goto (tgt := 79) hx hb dX7_ends_75 (by decide) ?_
          exact hb79 _ ih _ _ _ _ _ _ _ _ h _ _ _ hw (lv_sub hl [0, 1, 2] rfl)
  have hb16 : ∀ (M : Mm) (x0 : Nat) (x1 : Int64) (t0 : Nat) (t1 : Int32) (t2 : Int32), f_X7_ends_b16 M x0 x1 t0 t1 t2 = some res → ∀ (H : Heap) (locs : List Loc) (ls : Array Slot), Wd D cy shM ad nM (Aw ad nM) s.heap M H locs → lv_has ls 5 [(0, .ref (ad x0)), (1, .long x1)] → W p l e (headSpec (wU yX7_ends cX7_ends 5 none) rmX7_ends).room s m args below meth c H locs 0 0 (QV D cy shM ad nM adK adV below args s res) (F0 m 16 ls [.int t2, .int t1, .ref (ad t0)]) := by
    intro M x0 x1 t0 t1 t2 h H locs ls hw hl
    unfold f_X7_ends_b16 at h
    refine lv_iadd hx hb dX7_ends_16 ?_
    replace h := gd_some h
    obtain ⟨g45, h⟩ := h
    refine r_putI hx hb hts iw7 tyX7 tyX7_ok nmX7 hown hK hw t0 23 g45 (by decide) rfl (by decide) rfl (hq _ qw913) (fun _ h9 => h9) rfl rfl rfl dX7_ends_17 (fun H locs hw => ?_)
    replace h := lt_some h
    obtain ⟨M46, eM46, h⟩ := h
    rw [← eM46] at hw
    refine lv_iconst (v := (0 : Int32)) hx hb dX7_ends_20 (by decide) ?_
    refine lv_istore_n (lv' := [(3, .int (0 : Int32)), (0, .ref (ad x0)), (1, .long x1)]) hx hb dX7_ends_21 rfl hl (by decide) rfl (fun ls hl => ?_)
    exact hb22 1000 _ _ _ _ h _ _ _ hw (lv_sub hl [1, 2, 0] rfl)
  unfold f_X7_ends at h
  refine lv_aload_n hx hb dX7_ends_0 rfl (lv_at hl 0 rfl) ?_
  refine lv_dup hx hb dX7_ends_1 rfl ?_
  replace h := gd_some h
  obtain ⟨g47, h⟩ := h
  refine r_getI hx hb hts iw7 hown hK hw o0 23 g47 (by decide) rfl (by decide) rfl (hq _ qw913) (fun _ h9 => h9) dX7_ends_2 ?_
  refine lv_lload_n hx hb dX7_ends_5 rfl (lv_at hl 1 rfl) ?_
  refine lv_lconst (v := (0 : Int64)) hx hb dX7_ends_6 (by decide) ?_
  refine W.lcmp hx hb dX7_ends_7 ?_
  refine lv_if_le (tgt := 15) hx hb dX7_ends_8 (by decide) (fun c48 => ?_) (fun c48 => ?_)
  · replace h := if_some_t c48 h
    refine lv_iconst (v := (0 : Int32)) hx hb dX7_ends_15 (by decide) ?_
    exact hb16 _ _ _ _ _ _ h _ _ _ hw (lv_sub hl [0, 1] rfl)
  · replace h := if_some_f c48 h
    refine lv_iconst (v := (1 : Int32)) hx hb dX7_ends_11 (by decide) ?_
    refine lv_goto (tgt := 16) hx hb dX7_ends_12 (by decide) ?_
    exact hb16 _ _ _ _ _ _ h _ _ _ hw (lv_sub hl [0, 1] rfl)

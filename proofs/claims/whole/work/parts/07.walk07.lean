theorem dX6_undo_0 : decode cX6_undo 0 = .ok (.aload_n 0, 1) := by decide +kernel
theorem dX6_undo_1 : decode cX6_undo 1 = .ok (.getfield 19, 3) := by decide +kernel
theorem dX6_undo_4 : decode cX6_undo 4 = .ok (.ifCond .ne 9, 3) := by decide +kernel
theorem dX6_undo_7 : decode cX6_undo 7 = .ok (.aload_n 0, 1) := by decide +kernel
theorem dX6_undo_8 : decode cX6_undo 8 = .ok (.iconst 3, 1) := by decide +kernel
theorem dX6_undo_9 : decode cX6_undo 9 = .ok (.invokevirtual 59, 3) := by decide +kernel
theorem dX6_undo_12 : decode cX6_undo 12 = .ok (.ireturn, 1) := by decide +kernel
theorem dX6_undo_13 : decode cX6_undo 13 = .ok (.aload_n 0, 1) := by decide +kernel
theorem dX6_undo_14 : decode cX6_undo 14 = .ok (.getfield 10, 3) := by decide +kernel
theorem dX6_undo_17 : decode cX6_undo 17 = .ok (.aload_n 0, 1) := by decide +kernel
theorem dX6_undo_18 : decode cX6_undo 18 = .ok (.getfield 16, 3) := by decide +kernel
theorem dX6_undo_21 : decode cX6_undo 21 = .ok (.invokevirtual 151, 3) := by decide +kernel
theorem dX6_undo_24 : decode cX6_undo 24 = .ok (.aload_n 0, 1) := by decide +kernel
theorem dX6_undo_25 : decode cX6_undo 25 = .ok (.getfield 10, 3) := by decide +kernel
theorem dX6_undo_28 : decode cX6_undo 28 = .ok (.getfield 117, 3) := by decide +kernel
theorem dX6_undo_31 : decode cX6_undo 31 = .ok (.ireturn, 1) := by decide +kernel
set_option maxHeartbeats 4000000 in
set_option maxRecDepth 100000 in
theorem c_X6_undo (l : Launch) (D : va_G) (cy : Nat → ClassId) (ad adK adV : Nat → Nat) (M : Mm) (o0 : Nat) (res : Mm × Int32) (h : f_X6_undo M o0 = some res) : Met l yX6_undo (wU yX6_undo cX6_undo 1 (some .int)) rmX6_undo (va_Pc [.ref (ad o0)] (Pre D cy shX ad nX adK adV M)) (va_Qi (fun r (M2 : Mm) => r = res.2 ∧ M2 = res.1) (Pre D cy shX ad nX adK adV) (Aw ad nX)) 0 0 (Aw ad nX) := by
  refine Met.ofW (cc := cX6_undo) (maxL := 1) (ret := (some .int)) (by decide) rfl ?_
  intro p e s m args below meth c s₁ B hml hv
  obtain ⟨hargs, hPre⟩ := hv
  have hx := B.exec
  have hb := B.bytes
  have hr := B.returns
  have hts := atoms_spec (ws := wU yX6_undo cX6_undo 1 (some .int)) B.pre
  have hq : ∀ w ∈ gW, w.before args s = true := fun w hw => hts w (List.mem_cons_of_mem _ hw)
  have hcm : ∀ w ∈ gW, w ∈ wU yX6_undo cX6_undo 1 (some .int) := fun w hw => List.mem_cons_of_mem _ hw
  have hown : s.vm.findClass RX6 = some m.cls := findClass_of_methodNamed B.named
  have hlocks := B.notSynchronized
  have hF : CallFix p m c cX6_undo 1 s args (wU yX6_undo cX6_undo 1 (some .int)) RX6 := ⟨hx, hb, hml, hown, hts⟩
  have hK := hPre.2.1
  have hZ := hPre.2.2.2
  have hw : Wd D cy shX ad nX (Aw ad nX) s.heap M s.heap [] := ⟨hPre.1, hPre.2.2.1, va_S.rf⟩
  have iw1 : ∀ w ∈ u_ws RX1 TX1 11, w ∈ wU yX6_undo cX6_undo 1 (some .int) := fun w hw => List.mem_cons_of_mem _ (iX1 w hw)
  have iw6 : ∀ w ∈ u_ws RX6 TX6 8, w ∈ wU yX6_undo cX6_undo 1 (some .int) := fun w hw => List.mem_cons_of_mem _ (iX6 w hw)
  rw [show entryFrame m args 1 = entryFrame m ([.ref (ad o0)] : List Value).toArray 1 from by rw [hargs]]
  have hl := lv_entry ([.ref (ad o0)]) (n := 1) (Nat.le_of_ble_eq_true rfl)
  rw [lg_entry_eq]
  generalize (lg_sl ([.ref (ad o0)]) ++ List.replicate (1 - (lg_sl ([.ref (ad o0)])).length) Slot.unset).toArray = ls at hl ⊢
  have hl : lv_has ls 1 [(0, .ref (ad o0))] := hl
  unfold f_X6_undo at h
  refine lv_aload_n hx hb dX6_undo_0 rfl (lv_at hl 0 rfl) ?_
  replace h := gd_some h
  obtain ⟨g1, h⟩ := h
  refine r_getI hx hb hts iw6 hown hK hw o0 2 g1 (by decide) rfl (by decide) rfl (hq _ qw337) (fun _ h9 => h9) dX6_undo_1 ?_
  refine lv_if_ne (tgt := 13) hx hb dX6_undo_4 (by decide) (fun c2 => ?_) (fun c2 => ?_)
  · replace h := if_some_f c2 h
    refine lv_aload_n hx hb dX6_undo_13 rfl (lv_at hl 0 rfl) ?_
    replace h := bd_some h
    obtain ⟨q3, eq3, h⟩ := h
    refine r_getR hx hb hts iw6 hown hK hw o0 0 g1 (by decide) rfl (by decide) rfl (hq _ qw335) (fun _ h9 => h9) dX6_undo_14 eq3 ?_
    refine lv_aload_n hx hb dX6_undo_17 rfl (lv_at hl 0 rfl) ?_
    replace h := bd_some h
    obtain ⟨q4, eq4, h⟩ := h
    refine r_getR hx hb hts iw6 hown hK hw o0 1 g1 (by decide) rfl (by decide) rfl (hq _ qw336) (fun _ h9 => h9) dX6_undo_18 eq4 ?_
    replace h := gd_some h
    obtain ⟨g6, h⟩ := h
    replace h := bd_some h
    obtain ⟨r5, er5, h⟩ := h
    refine r_callVv (As := [.ref (ad q4)]) (rest := []) hF (c_X1_become l D cy ad adK adV M q3 q4 r5 er5) (gW_goodV hcm qw457 qw454 qw455 qw456 qw61) hdX1_become rfl ⟨Nat.le_of_ble_eq_true rfl, Nat.le_of_ble_eq_true rfl⟩ rfl rfl hZ hK hw g6 (by decide) rfl rfl hl.1 rfl (Nat.le_of_ble_eq_true rfl) ⟨Nat.zero_le _, Nat.zero_le _⟩ dX6_undo_21 (fun H locs hw => ?_)
    refine lv_aload_n hx hb dX6_undo_24 rfl (lv_at hl 0 rfl) ?_
    replace h := bd_some h
    obtain ⟨q7, eq7, h⟩ := h
    refine r_getR hx hb hts iw6 hown hK hw o0 0 g1 (by decide) rfl (by decide) rfl (hq _ qw335) (fun _ h9 => h9) dX6_undo_25 eq7 ?_
    replace h := gd_some h
    obtain ⟨g8, h⟩ := h
    refine r_getI hx hb hts iw1 hown hK hw q7 5 g8 (by decide) rfl (by decide) rfl (hq _ qw199) (fun _ h9 => h9) dX6_undo_28 ?_
    exact r_iret hx hb hr rfl hlocks hZ hK hw h dX6_undo_31
  · replace h := if_some_t c2 h
    refine lv_aload_n hx hb dX6_undo_7 rfl (lv_at hl 0 rfl) ?_
    refine lv_iconst (v := (3 : Int32)) hx hb dX6_undo_8 (by decide) ?_
    replace h := bd_some h
    obtain ⟨r9, er9, h⟩ := h
    refine r_callVi (As := [.int (3 : Int32)]) (rest := []) hF (c_X6_finding l D cy ad adK adV M o0 (3 : Int32) r9 er9) (gW_goodV hcm qw373 qw370 qw372 qw0 qw60) hdX6_finding rfl ⟨Nat.le_of_ble_eq_true rfl, Nat.le_of_ble_eq_true rfl⟩ rfl rfl hZ hK hw g1 (by decide) rfl rfl hl.1 rfl (Nat.le_of_ble_eq_true rfl) ⟨Nat.zero_le _, Nat.zero_le _⟩ dX6_undo_9 (fun H locs hw => ?_)
    exact r_iret hx hb hr rfl hlocks hZ hK hw h dX6_undo_12
theorem dX6_tear_0 : decode cX6_tear 0 = .ok (.aload_n 0, 1) := by decide +kernel
theorem dX6_tear_1 : decode cX6_tear 1 = .ok (.getfield 19, 3) := by decide +kernel
theorem dX6_tear_4 : decode cX6_tear 4 = .ok (.ifCond .eq 7, 3) := by decide +kernel
theorem dX6_tear_7 : decode cX6_tear 7 = .ok (.iconst 1, 1) := by decide +kernel
theorem dX6_tear_8 : decode cX6_tear 8 = .ok (.goto 4, 3) := by decide +kernel
theorem dX6_tear_11 : decode cX6_tear 11 = .ok (.iconst 0, 1) := by decide +kernel
theorem dX6_tear_12 : decode cX6_tear 12 = .ok (.istore_n 1, 1) := by decide +kernel
theorem dX6_tear_13 : decode cX6_tear 13 = .ok (.aload_n 0, 1) := by decide +kernel
theorem dX6_tear_14 : decode cX6_tear 14 = .ok (.iconst 0, 1) := by decide +kernel
theorem dX6_tear_15 : decode cX6_tear 15 = .ok (.putfield 19, 3) := by decide +kernel
theorem dX6_tear_18 : decode cX6_tear 18 = .ok (.iload_n 1, 1) := by decide +kernel
theorem dX6_tear_19 : decode cX6_tear 19 = .ok (.ireturn, 1) := by decide +kernel
set_option maxHeartbeats 4000000 in
set_option maxRecDepth 100000 in
theorem c_X6_tear (l : Launch) (D : va_G) (cy : Nat → ClassId) (ad adK adV : Nat → Nat) (M : Mm) (o0 : Nat) (res : Mm × Int32) (h : f_X6_tear M o0 = some res) : Met l yX6_tear (wU yX6_tear cX6_tear 2 (some .int)) rmX6_tear (va_Pc [.ref (ad o0)] (Pre D cy shX ad nX adK adV M)) (va_Qi (fun r (M2 : Mm) => r = res.2 ∧ M2 = res.1) (Pre D cy shX ad nX adK adV) (Aw ad nX)) 0 0 (Aw ad nX) := by
  refine Met.ofW (cc := cX6_tear) (maxL := 2) (ret := (some .int)) (by decide) rfl ?_
  intro p e s m args below meth c s₁ B hml hv
  obtain ⟨hargs, hPre⟩ := hv
  have hx := B.exec
  have hb := B.bytes
  have hr := B.returns
  have hts := atoms_spec (ws := wU yX6_tear cX6_tear 2 (some .int)) B.pre
  have hq : ∀ w ∈ gW, w.before args s = true := fun w hw => hts w (List.mem_cons_of_mem _ hw)
  have hcm : ∀ w ∈ gW, w ∈ wU yX6_tear cX6_tear 2 (some .int) := fun w hw => List.mem_cons_of_mem _ hw
  have hown : s.vm.findClass RX6 = some m.cls := findClass_of_methodNamed B.named
  have hlocks := B.notSynchronized
  have hF : CallFix p m c cX6_tear 2 s args (wU yX6_tear cX6_tear 2 (some .int)) RX6 := ⟨hx, hb, hml, hown, hts⟩
  have hK := hPre.2.1
  have hZ := hPre.2.2.2
  have hw : Wd D cy shX ad nX (Aw ad nX) s.heap M s.heap [] := ⟨hPre.1, hPre.2.2.1, va_S.rf⟩
  have iw6 : ∀ w ∈ u_ws RX6 TX6 8, w ∈ wU yX6_tear cX6_tear 2 (some .int) := fun w hw => List.mem_cons_of_mem _ (iX6 w hw)
  rw [show entryFrame m args 2 = entryFrame m ([.ref (ad o0)] : List Value).toArray 2 from by rw [hargs]]
  have hl := lv_entry ([.ref (ad o0)]) (n := 2) (Nat.le_of_ble_eq_true rfl)
  rw [lg_entry_eq]
  generalize (lg_sl ([.ref (ad o0)]) ++ List.replicate (2 - (lg_sl ([.ref (ad o0)])).length) Slot.unset).toArray = ls at hl ⊢
  have hl : lv_has ls 2 [(0, .ref (ad o0))] := hl
  have hb12 : ∀ (M : Mm) (x0 : Nat) (t0 : Int32), f_X6_tear_b12 M x0 t0 = some res → ∀ (H : Heap) (locs : List Loc) (ls : Array Slot), Wd D cy shX ad nX (Aw ad nX) s.heap M H locs → lv_has ls 2 [(0, .ref (ad x0))] → W p l e (headSpec (wU yX6_tear cX6_tear 2 (some .int)) rmX6_tear).room s m args below meth c H locs 0 0 (QI D cy shX ad nX adK adV below args s res) (F0 m 12 ls [.int t0]) := by
    intro M x0 t0 h H locs ls hw hl
    unfold f_X6_tear_b12 at h
    refine lv_istore_n (lv' := [(1, .int t0), (0, .ref (ad x0))]) hx hb dX6_tear_12 rfl hl (by decide) rfl (fun ls hl => ?_)
    refine lv_aload_n hx hb dX6_tear_13 rfl (lv_at hl 1 rfl) ?_
    refine lv_iconst (v := (0 : Int32)) hx hb dX6_tear_14 (by decide) ?_
    replace h := gd_some h
    obtain ⟨g1, h⟩ := h
    refine r_putI hx hb hts iw6 tyX6 tyX6_ok nmX6 hown hK hw x0 2 g1 (by decide) rfl (by decide) rfl (hq _ qw337) (fun _ h9 => h9) rfl rfl rfl dX6_tear_15 (fun H locs hw => ?_)
    replace h := lt_some h
    obtain ⟨M2, eM2, h⟩ := h
    rw [← eM2] at hw
    refine lv_iload_n hx hb dX6_tear_18 rfl (lv_at hl 0 rfl) ?_
    exact r_iret hx hb hr rfl hlocks hZ hK hw h dX6_tear_19
  unfold f_X6_tear at h
  refine lv_aload_n hx hb dX6_tear_0 rfl (lv_at hl 0 rfl) ?_
  replace h := gd_some h
  obtain ⟨g3, h⟩ := h
  refine r_getI hx hb hts iw6 hown hK hw o0 2 g3 (by decide) rfl (by decide) rfl (hq _ qw337) (fun _ h9 => h9) dX6_tear_1 ?_
  refine lv_if_eq (tgt := 11) hx hb dX6_tear_4 (by decide) (fun c4 => ?_) (fun c4 => ?_)
  · replace h := if_some_t c4 h
    refine lv_iconst (v := (0 : Int32)) hx hb dX6_tear_11 (by decide) ?_
    exact hb12 _ _ _ h _ _ _ hw (lv_sub hl [0] rfl)
  · replace h := if_some_f c4 h
    refine lv_iconst (v := (1 : Int32)) hx hb dX6_tear_7 (by decide) ?_
    refine lv_goto (tgt := 12) hx hb dX6_tear_8 (by decide) ?_
    exact hb12 _ _ _ h _ _ _ hw (lv_sub hl [0] rfl)
theorem dX6_count_0 : decode cX6_count 0 = .ok (.iload_n 1, 1) := by decide +kernel
theorem dX6_count_1 : decode cX6_count 1 = .ok (.tableswitch 99 0 6 #[43, 51, 59, 67, 75, 83, 91], 43) := by decide +kernel
theorem dX6_count_44 : decode cX6_count 44 = .ok (.aload_n 0, 1) := by decide +kernel
theorem dX6_count_45 : decode cX6_count 45 = .ok (.getfield 10, 3) := by decide +kernel
theorem dX6_count_48 : decode cX6_count 48 = .ok (.getfield 63, 3) := by decide +kernel
theorem dX6_count_51 : decode cX6_count 51 = .ok (.ireturn, 1) := by decide +kernel
theorem dX6_count_52 : decode cX6_count 52 = .ok (.aload_n 0, 1) := by decide +kernel
theorem dX6_count_53 : decode cX6_count 53 = .ok (.getfield 10, 3) := by decide +kernel
theorem dX6_count_56 : decode cX6_count 56 = .ok (.getfield 108, 3) := by decide +kernel
theorem dX6_count_59 : decode cX6_count 59 = .ok (.ireturn, 1) := by decide +kernel
theorem dX6_count_60 : decode cX6_count 60 = .ok (.aload_n 0, 1) := by decide +kernel
theorem dX6_count_61 : decode cX6_count 61 = .ok (.getfield 10, 3) := by decide +kernel
theorem dX6_count_64 : decode cX6_count 64 = .ok (.getfield 117, 3) := by decide +kernel
theorem dX6_count_67 : decode cX6_count 67 = .ok (.ireturn, 1) := by decide +kernel
theorem dX6_count_68 : decode cX6_count 68 = .ok (.aload_n 0, 1) := by decide +kernel
theorem dX6_count_69 : decode cX6_count 69 = .ok (.getfield 10, 3) := by decide +kernel
theorem dX6_count_72 : decode cX6_count 72 = .ok (.getfield 141, 3) := by decide +kernel
theorem dX6_count_75 : decode cX6_count 75 = .ok (.ireturn, 1) := by decide +kernel
theorem dX6_count_76 : decode cX6_count 76 = .ok (.aload_n 0, 1) := by decide +kernel
theorem dX6_count_77 : decode cX6_count 77 = .ok (.getfield 37, 3) := by decide +kernel
theorem dX6_count_80 : decode cX6_count 80 = .ok (.getfield 144, 3) := by decide +kernel
theorem dX6_count_83 : decode cX6_count 83 = .ok (.ireturn, 1) := by decide +kernel
theorem dX6_count_84 : decode cX6_count 84 = .ok (.aload_n 0, 1) := by decide +kernel
theorem dX6_count_85 : decode cX6_count 85 = .ok (.getfield 10, 3) := by decide +kernel
theorem dX6_count_88 : decode cX6_count 88 = .ok (.getfield 248, 3) := by decide +kernel
theorem dX6_count_91 : decode cX6_count 91 = .ok (.ireturn, 1) := by decide +kernel
theorem dX6_count_92 : decode cX6_count 92 = .ok (.aload_n 0, 1) := by decide +kernel
theorem dX6_count_93 : decode cX6_count 93 = .ok (.getfield 10, 3) := by decide +kernel
theorem dX6_count_96 : decode cX6_count 96 = .ok (.invokevirtual 293, 3) := by decide +kernel
theorem dX6_count_99 : decode cX6_count 99 = .ok (.ireturn, 1) := by decide +kernel
theorem dX6_count_100 : decode cX6_count 100 = .ok (.aload_n 0, 1) := by decide +kernel
theorem dX6_count_101 : decode cX6_count 101 = .ok (.iconst 0, 1) := by decide +kernel
theorem dX6_count_102 : decode cX6_count 102 = .ok (.invokevirtual 59, 3) := by decide +kernel
theorem dX6_count_105 : decode cX6_count 105 = .ok (.ireturn, 1) := by decide +kernel
set_option maxHeartbeats 4000000 in
set_option maxRecDepth 100000 in
theorem c_X6_count (l : Launch) (D : va_G) (cy : Nat → ClassId) (ad adK adV : Nat → Nat) (M : Mm) (o0 : Nat) (a1 : Int32) (res : Mm × Int32) (h : f_X6_count M o0 a1 = some res) : Met l yX6_count (wU yX6_count cX6_count 2 (some .int)) rmX6_count (va_Pc [.ref (ad o0), .int a1] (Pre D cy shX ad nX adK adV M)) (va_Qi (fun r (M2 : Mm) => r = res.2 ∧ M2 = res.1) (Pre D cy shX ad nX adK adV) (Aw ad nX)) 0 0 (Aw ad nX) := by
  refine Met.ofW (cc := cX6_count) (maxL := 2) (ret := (some .int)) (by decide) rfl ?_
  intro p e s m args below meth c s₁ B hml hv
  obtain ⟨hargs, hPre⟩ := hv
  have hx := B.exec
  have hb := B.bytes
  have hr := B.returns
  have hts := atoms_spec (ws := wU yX6_count cX6_count 2 (some .int)) B.pre
  have hq : ∀ w ∈ gW, w.before args s = true := fun w hw => hts w (List.mem_cons_of_mem _ hw)
  have hcm : ∀ w ∈ gW, w ∈ wU yX6_count cX6_count 2 (some .int) := fun w hw => List.mem_cons_of_mem _ hw
  have hown : s.vm.findClass RX6 = some m.cls := findClass_of_methodNamed B.named
  have hlocks := B.notSynchronized
  have hF : CallFix p m c cX6_count 2 s args (wU yX6_count cX6_count 2 (some .int)) RX6 := ⟨hx, hb, hml, hown, hts⟩
  have hK := hPre.2.1
  have hZ := hPre.2.2.2
  have hw : Wd D cy shX ad nX (Aw ad nX) s.heap M s.heap [] := ⟨hPre.1, hPre.2.2.1, va_S.rf⟩
  have iw1 : ∀ w ∈ u_ws RX1 TX1 11, w ∈ wU yX6_count cX6_count 2 (some .int) := fun w hw => List.mem_cons_of_mem _ (iX1 w hw)
  have iw4 : ∀ w ∈ u_ws RX4 TX4 6, w ∈ wU yX6_count cX6_count 2 (some .int) := fun w hw => List.mem_cons_of_mem _ (iX4 w hw)
  have iw6 : ∀ w ∈ u_ws RX6 TX6 8, w ∈ wU yX6_count cX6_count 2 (some .int) := fun w hw => List.mem_cons_of_mem _ (iX6 w hw)
  rw [show entryFrame m args 2 = entryFrame m ([.ref (ad o0), .int a1] : List Value).toArray 2 from by rw [hargs]]
  have hl := lv_entry ([.ref (ad o0), .int a1]) (n := 2) (Nat.le_of_ble_eq_true rfl)
  rw [lg_entry_eq]
  generalize (lg_sl ([.ref (ad o0), .int a1]) ++ List.replicate (2 - (lg_sl ([.ref (ad o0), .int a1])).length) Slot.unset).toArray = ls at hl ⊢
  have hl : lv_has ls 2 [(0, .ref (ad o0)), (1, .int a1)] := hl
  unfold f_X6_count at h
  refine lv_iload_n hx hb dX6_count_0 rfl (lv_at hl 1 rfl) ?_
  by_cases s1 : a1 = 0
  · replace h := if_some_t s1 h
    refine lv_tableIn (off := 43) (tgt := 44) hx hb dX6_count_1 (by rw [s1]; decide) (by rw [s1]; decide) (by rw [s1]; decide) (by decide) ?_
    refine lv_aload_n hx hb dX6_count_44 rfl (lv_at hl 0 rfl) ?_
    replace h := gd_some h
    obtain ⟨g2, h⟩ := h
    replace h := bd_some h
    obtain ⟨q3, eq3, h⟩ := h
    refine r_getR hx hb hts iw6 hown hK hw o0 0 g2 (by decide) rfl (by decide) rfl (hq _ qw335) (fun _ h9 => h9) dX6_count_45 eq3 ?_
    replace h := gd_some h
    obtain ⟨g4, h⟩ := h
    refine r_getI hx hb hts iw1 hown hK hw q3 3 g4 (by decide) rfl (by decide) rfl (hq _ qw190) (fun _ h9 => h9) dX6_count_48 ?_
    exact r_iret hx hb hr rfl hlocks hZ hK hw h dX6_count_51
  replace h := if_some_f s1 h
  by_cases s5 : a1 = 1
  · replace h := if_some_t s5 h
    refine lv_tableIn (off := 51) (tgt := 52) hx hb dX6_count_1 (by rw [s5]; decide) (by rw [s5]; decide) (by rw [s5]; decide) (by decide) ?_
    refine lv_aload_n hx hb dX6_count_52 rfl (lv_at hl 0 rfl) ?_
    replace h := gd_some h
    obtain ⟨g6, h⟩ := h
    replace h := bd_some h
    obtain ⟨q7, eq7, h⟩ := h
    refine r_getR hx hb hts iw6 hown hK hw o0 0 g6 (by decide) rfl (by decide) rfl (hq _ qw335) (fun _ h9 => h9) dX6_count_53 eq7 ?_
    replace h := gd_some h
    obtain ⟨g8, h⟩ := h
    refine r_getI hx hb hts iw1 hown hK hw q7 4 g8 (by decide) rfl (by decide) rfl (hq _ qw195) (fun _ h9 => h9) dX6_count_56 ?_
    exact r_iret hx hb hr rfl hlocks hZ hK hw h dX6_count_59
  replace h := if_some_f s5 h
  by_cases s9 : a1 = 2
  · replace h := if_some_t s9 h
    refine lv_tableIn (off := 59) (tgt := 60) hx hb dX6_count_1 (by rw [s9]; decide) (by rw [s9]; decide) (by rw [s9]; decide) (by decide) ?_
    refine lv_aload_n hx hb dX6_count_60 rfl (lv_at hl 0 rfl) ?_
    replace h := gd_some h
    obtain ⟨g10, h⟩ := h
    replace h := bd_some h
    obtain ⟨q11, eq11, h⟩ := h
    refine r_getR hx hb hts iw6 hown hK hw o0 0 g10 (by decide) rfl (by decide) rfl (hq _ qw335) (fun _ h9 => h9) dX6_count_61 eq11 ?_
    replace h := gd_some h
    obtain ⟨g12, h⟩ := h
    refine r_getI hx hb hts iw1 hown hK hw q11 5 g12 (by decide) rfl (by decide) rfl (hq _ qw199) (fun _ h9 => h9) dX6_count_64 ?_
    exact r_iret hx hb hr rfl hlocks hZ hK hw h dX6_count_67
  replace h := if_some_f s9 h
  by_cases s13 : a1 = 3
  · replace h := if_some_t s13 h
    refine lv_tableIn (off := 67) (tgt := 68) hx hb dX6_count_1 (by rw [s13]; decide) (by rw [s13]; decide) (by rw [s13]; decide) (by decide) ?_
    refine lv_aload_n hx hb dX6_count_68 rfl (lv_at hl 0 rfl) ?_
    replace h := gd_some h
    obtain ⟨g14, h⟩ := h
    replace h := bd_some h
    obtain ⟨q15, eq15, h⟩ := h
    refine r_getR hx hb hts iw6 hown hK hw o0 0 g14 (by decide) rfl (by decide) rfl (hq _ qw335) (fun _ h9 => h9) dX6_count_69 eq15 ?_
    replace h := gd_some h
    obtain ⟨g16, h⟩ := h
    refine r_getI hx hb hts iw1 hown hK hw q15 6 g16 (by decide) rfl (by decide) rfl (hq _ qw202) (fun _ h9 => h9) dX6_count_72 ?_
    exact r_iret hx hb hr rfl hlocks hZ hK hw h dX6_count_75
  replace h := if_some_f s13 h
  by_cases s17 : a1 = 4
  · replace h := if_some_t s17 h
    refine lv_tableIn (off := 75) (tgt := 76) hx hb dX6_count_1 (by rw [s17]; decide) (by rw [s17]; decide) (by rw [s17]; decide) (by decide) ?_
    refine lv_aload_n hx hb dX6_count_76 rfl (lv_at hl 0 rfl) ?_
    replace h := gd_some h
    obtain ⟨g18, h⟩ := h
    replace h := bd_some h
    obtain ⟨q19, eq19, h⟩ := h
    refine r_getR hx hb hts iw6 hown hK hw o0 5 g18 (by decide) rfl (by decide) rfl (hq _ qw340) (fun _ h9 => h9) dX6_count_77 eq19 ?_
    replace h := gd_some h
    obtain ⟨g20, h⟩ := h
    refine r_getI hx hb hts iw4 hown hK hw q19 1 g20 (by decide) rfl (by decide) rfl (hq _ qw297) (fun _ h9 => h9) dX6_count_80 ?_
    exact r_iret hx hb hr rfl hlocks hZ hK hw h dX6_count_83
  replace h := if_some_f s17 h
  by_cases s21 : a1 = 5
  · replace h := if_some_t s21 h
    refine lv_tableIn (off := 83) (tgt := 84) hx hb dX6_count_1 (by rw [s21]; decide) (by rw [s21]; decide) (by rw [s21]; decide) (by decide) ?_
    refine lv_aload_n hx hb dX6_count_84 rfl (lv_at hl 0 rfl) ?_
    replace h := gd_some h
    obtain ⟨g22, h⟩ := h
    replace h := bd_some h
    obtain ⟨q23, eq23, h⟩ := h
    refine r_getR hx hb hts iw6 hown hK hw o0 0 g22 (by decide) rfl (by decide) rfl (hq _ qw335) (fun _ h9 => h9) dX6_count_85 eq23 ?_
    replace h := gd_some h
    obtain ⟨g24, h⟩ := h
    refine r_getI hx hb hts iw1 hown hK hw q23 7 g24 (by decide) rfl (by decide) rfl (hq _ qw204) (fun _ h9 => h9) dX6_count_88 ?_
    exact r_iret hx hb hr rfl hlocks hZ hK hw h dX6_count_91
  replace h := if_some_f s21 h
  by_cases s25 : a1 = 6
  · replace h := if_some_t s25 h
    refine lv_tableIn (off := 91) (tgt := 92) hx hb dX6_count_1 (by rw [s25]; decide) (by rw [s25]; decide) (by rw [s25]; decide) (by decide) ?_
    refine lv_aload_n hx hb dX6_count_92 rfl (lv_at hl 0 rfl) ?_
    replace h := gd_some h
    obtain ⟨g26, h⟩ := h
    replace h := bd_some h
    obtain ⟨q27, eq27, h⟩ := h
    refine r_getR hx hb hts iw6 hown hK hw o0 0 g26 (by decide) rfl (by decide) rfl (hq _ qw335) (fun _ h9 => h9) dX6_count_93 eq27 ?_
    replace h := gd_some h
    obtain ⟨g29, h⟩ := h
    replace h := bd_some h
    obtain ⟨r28, er28, h⟩ := h
    refine r_callVi (As := []) (rest := []) hF (c_X1_spotsInUse l D cy ad adK adV M q27 r28 er28) (gW_goodV hcm qw877 qw874 qw875 qw876 qw61) hdX1_spotsInUse rfl ⟨Nat.le_of_ble_eq_true rfl, Nat.le_of_ble_eq_true rfl⟩ rfl rfl hZ hK hw g29 (by decide) rfl rfl hl.1 rfl (Nat.le_of_ble_eq_true rfl) ⟨Nat.zero_le _, Nat.zero_le _⟩ dX6_count_96 (fun H locs hw => ?_)
    exact r_iret hx hb hr rfl hlocks hZ hK hw h dX6_count_99
  replace h := if_some_f s25 h
  have hout32 : a1.toInt < 0 ∨ 6 < a1.toInt := by
    refine tsw_out (fun cz h1 h2 => ?_)
    rcases (show cz = 0 ∨ cz = 1 ∨ cz = 2 ∨ cz = 3 ∨ cz = 4 ∨ cz = 5 ∨ cz = 6 by omega) with rfl | rfl | rfl | rfl | rfl | rfl | rfl
    · exact fun e9 => s1 (e9.trans (by decide))
    · exact fun e9 => s5 (e9.trans (by decide))
    · exact fun e9 => s9 (e9.trans (by decide))
    · exact fun e9 => s13 (e9.trans (by decide))
    · exact fun e9 => s17 (e9.trans (by decide))
    · exact fun e9 => s21 (e9.trans (by decide))
    · exact fun e9 => s25 (e9.trans (by decide))
  refine lv_tableOut (tgt := 100) hx hb dX6_count_1 hout32 (by decide) ?_
  refine lv_aload_n hx hb dX6_count_100 rfl (lv_at hl 0 rfl) ?_
  refine lv_iconst (v := (0 : Int32)) hx hb dX6_count_101 (by decide) ?_
  replace h := gd_some h
  obtain ⟨g31, h⟩ := h
  replace h := bd_some h
  obtain ⟨r30, er30, h⟩ := h
  refine r_callVi (As := [.int (0 : Int32)]) (rest := []) hF (c_X6_finding l D cy ad adK adV M o0 (0 : Int32) r30 er30) (gW_goodV hcm qw373 qw370 qw372 qw0 qw60) hdX6_finding rfl ⟨Nat.le_of_ble_eq_true rfl, Nat.le_of_ble_eq_true rfl⟩ rfl rfl hZ hK hw g31 (by decide) rfl rfl hl.1 rfl (Nat.le_of_ble_eq_true rfl) ⟨Nat.zero_le _, Nat.zero_le _⟩ dX6_count_102 (fun H locs hw => ?_)
  exact r_iret hx hb hr rfl hlocks hZ hK hw h dX6_count_105
theorem dX6_status_0 : decode cX6_status 0 = .ok (.iload_n 1, 1) := by decide +kernel
theorem dX6_status_1 : decode cX6_status 1 = .ok (.iconst (-1), 1) := by decide +kernel
theorem dX6_status_2 : decode cX6_status 2 = .ok (.if_icmp .lt 9, 3) := by decide +kernel
theorem dX6_status_5 : decode cX6_status 5 = .ok (.iload_n 1, 1) := by decide +kernel
theorem dX6_status_6 : decode cX6_status 6 = .ok (.bipush 7, 2) := by decide +kernel
theorem dX6_status_8 : decode cX6_status 8 = .ok (.if_icmp .lt 9, 3) := by decide +kernel
theorem dX6_status_11 : decode cX6_status 11 = .ok (.aload_n 0, 1) := by decide +kernel
theorem dX6_status_12 : decode cX6_status 12 = .ok (.iconst 0, 1) := by decide +kernel
theorem dX6_status_13 : decode cX6_status 13 = .ok (.invokevirtual 59, 3) := by decide +kernel
theorem dX6_status_16 : decode cX6_status 16 = .ok (.ireturn, 1) := by decide +kernel
theorem dX6_status_17 : decode cX6_status 17 = .ok (.iload_n 1, 1) := by decide +kernel
theorem dX6_status_18 : decode cX6_status 18 = .ok (.ifCond .lt 10, 3) := by decide +kernel
theorem dX6_status_21 : decode cX6_status 21 = .ok (.aload_n 0, 1) := by decide +kernel
theorem dX6_status_22 : decode cX6_status 22 = .ok (.getfield 47, 3) := by decide +kernel
theorem dX6_status_25 : decode cX6_status 25 = .ok (.iload_n 1, 1) := by decide +kernel
theorem dX6_status_26 : decode cX6_status 26 = .ok (.iaload, 1) := by decide +kernel
theorem dX6_status_27 : decode cX6_status 27 = .ok (.ireturn, 1) := by decide +kernel
theorem dX6_status_28 : decode cX6_status 28 = .ok (.iconst 0, 1) := by decide +kernel
theorem dX6_status_29 : decode cX6_status 29 = .ok (.istore_n 2, 1) := by decide +kernel
theorem dX6_status_30 : decode cX6_status 30 = .ok (.iconst 0, 1) := by decide +kernel
theorem dX6_status_31 : decode cX6_status 31 = .ok (.istore_n 3, 1) := by decide +kernel
theorem dX6_status_32 : decode cX6_status 32 = .ok (.iload_n 3, 1) := by decide +kernel
theorem dX6_status_33 : decode cX6_status 33 = .ok (.bipush 7, 2) := by decide +kernel
theorem dX6_status_35 : decode cX6_status 35 = .ok (.if_icmp .ge 18, 3) := by decide +kernel
theorem dX6_status_38 : decode cX6_status 38 = .ok (.iload_n 2, 1) := by decide +kernel
theorem dX6_status_39 : decode cX6_status 39 = .ok (.aload_n 0, 1) := by decide +kernel
theorem dX6_status_40 : decode cX6_status 40 = .ok (.getfield 47, 3) := by decide +kernel
theorem dX6_status_43 : decode cX6_status 43 = .ok (.iload_n 3, 1) := by decide +kernel
theorem dX6_status_44 : decode cX6_status 44 = .ok (.iaload, 1) := by decide +kernel
theorem dX6_status_45 : decode cX6_status 45 = .ok (.iadd, 1) := by decide +kernel
theorem dX6_status_46 : decode cX6_status 46 = .ok (.istore_n 2, 1) := by decide +kernel
theorem dX6_status_47 : decode cX6_status 47 = .ok (.iinc 3 1, 3) := by decide +kernel
theorem dX6_status_50 : decode cX6_status 50 = .ok (.goto (-18), 3) := by decide +kernel
theorem dX6_status_53 : decode cX6_status 53 = .ok (.iload_n 2, 1) := by decide +kernel
theorem dX6_status_54 : decode cX6_status 54 = .ok (.ireturn, 1) := by decide +kernel
set_option maxHeartbeats 4000000 in
set_option maxRecDepth 100000 in
theorem c_X6_status (l : Launch) (D : va_G) (cy : Nat → ClassId) (ad adK adV : Nat → Nat) (M : Mm) (o0 : Nat) (a1 : Int32) (res : Mm × Int32) (h : f_X6_status M o0 a1 = some res) : Met l yX6_status (wU yX6_status cX6_status 4 (some .int)) rmX6_status (va_Pc [.ref (ad o0), .int a1] (Pre D cy shX ad nX adK adV M)) (va_Qi (fun r (M2 : Mm) => r = res.2 ∧ M2 = res.1) (Pre D cy shX ad nX adK adV) (Aw ad nX)) 0 0 (Aw ad nX) := by
  refine Met.ofW (cc := cX6_status) (maxL := 4) (ret := (some .int)) (by decide) rfl ?_
  intro p e s m args below meth c s₁ B hml hv
  obtain ⟨hargs, hPre⟩ := hv
  have hx := B.exec
  have hb := B.bytes
  have hr := B.returns
  have hts := atoms_spec (ws := wU yX6_status cX6_status 4 (some .int)) B.pre
  have hq : ∀ w ∈ gW, w.before args s = true := fun w hw => hts w (List.mem_cons_of_mem _ hw)
  have hcm : ∀ w ∈ gW, w ∈ wU yX6_status cX6_status 4 (some .int) := fun w hw => List.mem_cons_of_mem _ hw
  have hown : s.vm.findClass RX6 = some m.cls := findClass_of_methodNamed B.named
  have hlocks := B.notSynchronized
  have hF : CallFix p m c cX6_status 4 s args (wU yX6_status cX6_status 4 (some .int)) RX6 := ⟨hx, hb, hml, hown, hts⟩
  have hK := hPre.2.1
  have hZ := hPre.2.2.2
  have hw : Wd D cy shX ad nX (Aw ad nX) s.heap M s.heap [] := ⟨hPre.1, hPre.2.2.1, va_S.rf⟩
  have iw6 : ∀ w ∈ u_ws RX6 TX6 8, w ∈ wU yX6_status cX6_status 4 (some .int) := fun w hw => List.mem_cons_of_mem _ (iX6 w hw)
  rw [show entryFrame m args 4 = entryFrame m ([.ref (ad o0), .int a1] : List Value).toArray 4 from by rw [hargs]]
  have hl := lv_entry ([.ref (ad o0), .int a1]) (n := 4) (Nat.le_of_ble_eq_true rfl)
  rw [lg_entry_eq]
  generalize (lg_sl ([.ref (ad o0), .int a1]) ++ List.replicate (4 - (lg_sl ([.ref (ad o0), .int a1])).length) Slot.unset).toArray = ls at hl ⊢
  have hl : lv_has ls 4 [(0, .ref (ad o0)), (1, .int a1)] := hl
  have hb32 : ∀ (nn : Nat), ∀ (M : Mm) (x0 : Nat) (x2 : Int32) (x3 : Int32), f_X6_status_b32 nn M x0 x2 x3 = some res → ∀ (H : Heap) (locs : List Loc) (ls : Array Slot), Wd D cy shX ad nX (Aw ad nX) s.heap M H locs → lv_has ls 4 [(0, .ref (ad x0)), (2, .int x2), (3, .int x3)] → W p l e (headSpec (wU yX6_status cX6_status 4 (some .int)) rmX6_status).room s m args below meth c H locs 0 0 (QI D cy shX ad nX adK adV below args s res) (F0 m 32 ls []) := by
    intro nn
    induction nn with
    | zero => intro M x0 x2 x3 h; simp [f_X6_status_b32] at h
    | succ nn ih =>
      intro M x0 x2 x3 h H locs ls hw hl
      unfold f_X6_status_b32 at h
      refine lv_iload_n hx hb dX6_status_32 rfl (lv_at hl 2 rfl) ?_
      refine lv_bipush (v := (7 : Int32)) hx hb dX6_status_33 (by decide) ?_
      refine lv_icmp_ge (tgt := 53) hx hb dX6_status_35 (by decide) (fun c1 => ?_) (fun c1 => ?_)
      · replace h := if_some_t c1 h
        refine lv_iload_n hx hb dX6_status_53 rfl (lv_at hl 1 rfl) ?_
        exact r_iret hx hb hr rfl hlocks hZ hK hw h dX6_status_54
      · replace h := if_some_f c1 h
        refine lv_iload_n hx hb dX6_status_38 rfl (lv_at hl 1 rfl) ?_
        refine lv_aload_n hx hb dX6_status_39 rfl (lv_at hl 0 rfl) ?_
        replace h := gd_some h
        obtain ⟨g2, h⟩ := h
        replace h := bd_some h
        obtain ⟨q3, eq3, h⟩ := h
        refine r_getR hx hb hts iw6 hown hK hw x0 7 g2 (by decide) rfl (by decide) rfl (hq _ qw342) (fun _ h9 => h9) dX6_status_40 eq3 ?_
        refine lv_iload_n hx hb dX6_status_43 rfl (lv_at hl 2 rfl) ?_
        replace h := gd_some h
        obtain ⟨g4, h⟩ := h
        refine r_iald hx hb hK hw q3 g4 dX6_status_44 ?_
        refine lv_iadd hx hb dX6_status_45 ?_
        refine lv_istore_n (lv' := [(2, .int (x2 + (M.1 q3 x3.toNatClampNeg))), (0, .ref (ad x0)), (3, .int x3)]) hx hb dX6_status_46 rfl hl (by decide) rfl (fun ls hl => ?_)
        refine lv_iinc (v := x3 + (1 : Int32)) (lv' := [(3, .int (x3 + (1 : Int32))), (2, .int (x2 + (M.1 q3 x3.toNatClampNeg))), (0, .ref (ad x0))]) hx hb dX6_status_47 hl (k := 2) rfl (congrArg (fun z => x3 + z) (by decide)) (by decide) rfl (fun ls hl => ?_)
        refine lv_goto (tgt := 32) hx hb dX6_status_50 (by decide) ?_
        exact ih _ _ _ _ h _ _ _ hw (lv_sub hl [2, 1, 0] rfl)
  have hb11 : ∀ (M : Mm) (x0 : Nat), f_X6_status_b11 M x0 = some res → ∀ (H : Heap) (locs : List Loc) (ls : Array Slot), Wd D cy shX ad nX (Aw ad nX) s.heap M H locs → lv_has ls 4 [(0, .ref (ad x0))] → W p l e (headSpec (wU yX6_status cX6_status 4 (some .int)) rmX6_status).room s m args below meth c H locs 0 0 (QI D cy shX ad nX adK adV below args s res) (F0 m 11 ls []) := by
    intro M x0 h H locs ls hw hl
    unfold f_X6_status_b11 at h
    refine lv_aload_n hx hb dX6_status_11 rfl (lv_at hl 0 rfl) ?_
    refine lv_iconst (v := (0 : Int32)) hx hb dX6_status_12 (by decide) ?_
    replace h := gd_some h
    obtain ⟨g6, h⟩ := h
    replace h := bd_some h
    obtain ⟨r5, er5, h⟩ := h
    refine r_callVi (As := [.int (0 : Int32)]) (rest := []) hF (c_X6_finding l D cy ad adK adV M x0 (0 : Int32) r5 er5) (gW_goodV hcm qw373 qw370 qw372 qw0 qw60) hdX6_finding rfl ⟨Nat.le_of_ble_eq_true rfl, Nat.le_of_ble_eq_true rfl⟩ rfl rfl hZ hK hw g6 (by decide) rfl rfl hl.1 rfl (Nat.le_of_ble_eq_true rfl) ⟨Nat.zero_le _, Nat.zero_le _⟩ dX6_status_13 (fun H locs hw => ?_)
    exact r_iret hx hb hr rfl hlocks hZ hK hw h dX6_status_16
  unfold f_X6_status at h
  refine lv_iload_n hx hb dX6_status_0 rfl (lv_at hl 1 rfl) ?_
  refine lv_iconst (v := (-1 : Int32)) hx hb dX6_status_1 (by decide) ?_
  refine lv_icmp_lt (tgt := 11) hx hb dX6_status_2 (by decide) (fun c7 => ?_) (fun c7 => ?_)
  · replace h := if_some_t c7 h
    exact hb11 _ _ h _ _ _ hw (lv_sub hl [0] rfl)
  · replace h := if_some_f c7 h
    refine lv_iload_n hx hb dX6_status_5 rfl (lv_at hl 1 rfl) ?_
    refine lv_bipush (v := (7 : Int32)) hx hb dX6_status_6 (by decide) ?_
    refine lv_icmp_lt (tgt := 17) hx hb dX6_status_8 (by decide) (fun c8 => ?_) (fun c8 => ?_)
    · replace h := if_some_t c8 h
      refine lv_iload_n hx hb dX6_status_17 rfl (lv_at hl 1 rfl) ?_
      refine lv_if_lt (tgt := 28) hx hb dX6_status_18 (by decide) (fun c9 => ?_) (fun c9 => ?_)
      · replace h := if_some_t c9 h
        refine lv_iconst (v := (0 : Int32)) hx hb dX6_status_28 (by decide) ?_
        refine lv_istore_n (lv' := [(2, .int (0 : Int32)), (0, .ref (ad o0)), (1, .int a1)]) hx hb dX6_status_29 rfl hl (by decide) rfl (fun ls hl => ?_)
        refine lv_iconst (v := (0 : Int32)) hx hb dX6_status_30 (by decide) ?_
        refine lv_istore_n (lv' := [(3, .int (0 : Int32)), (2, .int (0 : Int32)), (0, .ref (ad o0)), (1, .int a1)]) hx hb dX6_status_31 rfl hl (by decide) rfl (fun ls hl => ?_)
        exact hb32 1000 _ _ _ _ h _ _ _ hw (lv_sub hl [2, 1, 0] rfl)
      · replace h := if_some_f c9 h
        refine lv_aload_n hx hb dX6_status_21 rfl (lv_at hl 0 rfl) ?_
        replace h := gd_some h
        obtain ⟨g10, h⟩ := h
        replace h := bd_some h
        obtain ⟨q11, eq11, h⟩ := h
        refine r_getR hx hb hts iw6 hown hK hw o0 7 g10 (by decide) rfl (by decide) rfl (hq _ qw342) (fun _ h9 => h9) dX6_status_22 eq11 ?_
        refine lv_iload_n hx hb dX6_status_25 rfl (lv_at hl 1 rfl) ?_
        replace h := gd_some h
        obtain ⟨g12, h⟩ := h
        refine r_iald hx hb hK hw q11 g12 dX6_status_26 ?_
        exact r_iret hx hb hr rfl hlocks hZ hK hw h dX6_status_27
    · replace h := if_some_f c8 h
      exact hb11 _ _ h _ _ _ hw (lv_sub hl [0] rfl)
theorem dX7_finding_0 : decode cX7_finding 0 = .ok (.aload_n 0, 1) := by decide +kernel
theorem dX7_finding_1 : decode cX7_finding 1 = .ok (.getfield 19, 3) := by decide +kernel
theorem dX7_finding_4 : decode cX7_finding 4 = .ok (.iload_n 1, 1) := by decide +kernel
theorem dX7_finding_5 : decode cX7_finding 5 = .ok (.dup2, 1) := by decide +kernel
theorem dX7_finding_6 : decode cX7_finding 6 = .ok (.iaload, 1) := by decide +kernel
theorem dX7_finding_7 : decode cX7_finding 7 = .ok (.iconst 1, 1) := by decide +kernel
theorem dX7_finding_8 : decode cX7_finding 8 = .ok (.iadd, 1) := by decide +kernel
theorem dX7_finding_9 : decode cX7_finding 9 = .ok (.iastore, 1) := by decide +kernel
theorem dX7_finding_10 : decode cX7_finding 10 = .ok (.ldc 66, 2) := by decide +kernel
theorem dX7_finding_12 : decode cX7_finding 12 = .ok (.iload_n 1, 1) := by decide +kernel
theorem dX7_finding_13 : decode cX7_finding 13 = .ok (.isub, 1) := by decide +kernel
theorem dX7_finding_14 : decode cX7_finding 14 = .ok (.ireturn, 1) := by decide +kernel
set_option maxHeartbeats 4000000 in
set_option maxRecDepth 100000 in
theorem c_X7_finding (l : Launch) (D : va_G) (cy : Nat → ClassId) (ad adK adV : Nat → Nat) (M : Mm) (o0 : Nat) (a1 : Int32) (res : Mm × Int32) (h : f_X7_finding M o0 a1 = some res) : Met l yX7_finding (wU yX7_finding cX7_finding 2 (some .int)) rmX7_finding (va_Pc [.ref (ad o0), .int a1] (Pre D cy shM ad nM adK adV M)) (va_Qi (fun r (M2 : Mm) => r = res.2 ∧ M2 = res.1) (Pre D cy shM ad nM adK adV) (Aw ad nM)) 0 0 (Aw ad nM) := by
  refine Met.ofW (cc := cX7_finding) (maxL := 2) (ret := (some .int)) (by decide) rfl ?_
  intro p e s m args below meth c s₁ B hml hv
  obtain ⟨hargs, hPre⟩ := hv
  have hx := B.exec
  have hb := B.bytes
  have hr := B.returns
  have hts := atoms_spec (ws := wU yX7_finding cX7_finding 2 (some .int)) B.pre
  have hq : ∀ w ∈ gW, w.before args s = true := fun w hw => hts w (List.mem_cons_of_mem _ hw)
  have hcm : ∀ w ∈ gW, w ∈ wU yX7_finding cX7_finding 2 (some .int) := fun w hw => List.mem_cons_of_mem _ hw
  have hown : s.vm.findClass RX7 = some m.cls := findClass_of_methodNamed B.named
  have hlocks := B.notSynchronized
  have hF : CallFix p m c cX7_finding 2 s args (wU yX7_finding cX7_finding 2 (some .int)) RX7 := ⟨hx, hb, hml, hown, hts⟩
  have hK := hPre.2.1
  have hZ := hPre.2.2.2
  have hw : Wd D cy shM ad nM (Aw ad nM) s.heap M s.heap [] := ⟨hPre.1, hPre.2.2.1, va_S.rf⟩
  have iw7 : ∀ w ∈ u_ws RX7 TX7 30, w ∈ wU yX7_finding cX7_finding 2 (some .int) := fun w hw => List.mem_cons_of_mem _ (iX7 w hw)
  rw [show entryFrame m args 2 = entryFrame m ([.ref (ad o0), .int a1] : List Value).toArray 2 from by rw [hargs]]
  have hl := lv_entry ([.ref (ad o0), .int a1]) (n := 2) (Nat.le_of_ble_eq_true rfl)
  rw [lg_entry_eq]
  generalize (lg_sl ([.ref (ad o0), .int a1]) ++ List.replicate (2 - (lg_sl ([.ref (ad o0), .int a1])).length) Slot.unset).toArray = ls at hl ⊢
  have hl : lv_has ls 2 [(0, .ref (ad o0)), (1, .int a1)] := hl
  unfold f_X7_finding at h
  refine lv_aload_n hx hb dX7_finding_0 rfl (lv_at hl 0 rfl) ?_
  replace h := gd_some h
  obtain ⟨g1, h⟩ := h
  replace h := bd_some h
  obtain ⟨q2, eq2, h⟩ := h
  refine r_getR hx hb hts iw7 hown hK hw o0 4 g1 (by decide) rfl (by decide) rfl (hq _ qw892) (fun _ h9 => h9) dX7_finding_1 eq2 ?_
  refine lv_iload_n hx hb dX7_finding_4 rfl (lv_at hl 1 rfl) ?_
  refine lv_dup2_11 hx hb dX7_finding_5 rfl rfl ?_
  replace h := gd_some h
  obtain ⟨g3, h⟩ := h
  refine r_iald hx hb hK hw q2 g3 dX7_finding_6 ?_
  refine lv_iconst (v := (1 : Int32)) hx hb dX7_finding_7 (by decide) ?_
  refine lv_iadd hx hb dX7_finding_8 ?_
  replace h := gd_some h
  obtain ⟨g4, h⟩ := h
  refine r_iast hx hb hK hw q2 g4 dX7_finding_9 (fun H locs hw => ?_)
  replace h := lt_some h
  obtain ⟨M5, eM5, h⟩ := h
  rw [← eM5] at hw
  refine lv_ldc (v := (-1000001 : Int32)) hx hb hown (hq _ qw990) dX7_finding_10 ?_
  refine lv_iload_n hx hb dX7_finding_12 rfl (lv_at hl 1 rfl) ?_
  refine lv_isub hx hb dX7_finding_13 ?_
  exact r_iret hx hb hr rfl hlocks hZ hK hw h dX7_finding_14
theorem dX7_in_0 : decode cX7_in 0 = .ok (.iload_n 0, 1) := by decide +kernel
theorem dX7_in_1 : decode cX7_in 1 = .ok (.iload_n 1, 1) := by decide +kernel
theorem dX7_in_2 : decode cX7_in 2 = .ok (.if_icmp .lt 12, 3) := by decide +kernel
theorem dX7_in_5 : decode cX7_in 5 = .ok (.iload_n 0, 1) := by decide +kernel
theorem dX7_in_6 : decode cX7_in 6 = .ok (.iload_n 2, 1) := by decide +kernel
theorem dX7_in_7 : decode cX7_in 7 = .ok (.if_icmp .gt 7, 3) := by decide +kernel
theorem dX7_in_10 : decode cX7_in 10 = .ok (.iconst 1, 1) := by decide +kernel
theorem dX7_in_11 : decode cX7_in 11 = .ok (.goto 4, 3) := by decide +kernel
theorem dX7_in_14 : decode cX7_in 14 = .ok (.iconst 0, 1) := by decide +kernel
theorem dX7_in_15 : decode cX7_in 15 = .ok (.ireturn, 1) := by decide +kernel
set_option maxHeartbeats 4000000 in
set_option maxRecDepth 100000 in
theorem c_X7_in (l : Launch) (D : va_G) (cy : Nat → ClassId) (ad adK adV : Nat → Nat) (M : Mm) (a0 : Int32) (a1 : Int32) (a2 : Int32) (res : Mm × Int32) (h : f_X7_in M a0 a1 a2 = some res) : Met l yX7_in (wU yX7_in cX7_in 3 (some .boolean)) rmX7_in (va_Pc [.int a0, .int a1, .int a2] (Pre D cy shM ad nM adK adV M)) (va_Qi (fun r (M2 : Mm) => r = res.2 ∧ M2 = res.1) (Pre D cy shM ad nM adK adV) (Aw ad nM)) 0 0 (Aw ad nM) := by
  refine Met.ofW (cc := cX7_in) (maxL := 3) (ret := (some .boolean)) (by decide) rfl ?_
  intro p e s m args below meth c s₁ B hml hv
  obtain ⟨hargs, hPre⟩ := hv
  have hx := B.exec
  have hb := B.bytes
  have hr := B.returns
  have hts := atoms_spec (ws := wU yX7_in cX7_in 3 (some .boolean)) B.pre
  have hq : ∀ w ∈ gW, w.before args s = true := fun w hw => hts w (List.mem_cons_of_mem _ hw)
  have hcm : ∀ w ∈ gW, w ∈ wU yX7_in cX7_in 3 (some .boolean) := fun w hw => List.mem_cons_of_mem _ hw
  have hown : s.vm.findClass RX7 = some m.cls := findClass_of_methodNamed B.named
  have hlocks := B.notSynchronized
  have hF : CallFix p m c cX7_in 3 s args (wU yX7_in cX7_in 3 (some .boolean)) RX7 := ⟨hx, hb, hml, hown, hts⟩
  have hK := hPre.2.1
  have hZ := hPre.2.2.2
  have hw : Wd D cy shM ad nM (Aw ad nM) s.heap M s.heap [] := ⟨hPre.1, hPre.2.2.1, va_S.rf⟩
  rw [show entryFrame m args 3 = entryFrame m ([.int a0, .int a1, .int a2] : List Value).toArray 3 from by rw [hargs]]
  have hl := lv_entry ([.int a0, .int a1, .int a2]) (n := 3) (Nat.le_of_ble_eq_true rfl)
  rw [lg_entry_eq]
  generalize (lg_sl ([.int a0, .int a1, .int a2]) ++ List.replicate (3 - (lg_sl ([.int a0, .int a1, .int a2])).length) Slot.unset).toArray = ls at hl ⊢
  have hl : lv_has ls 3 [(0, .int a0), (1, .int a1), (2, .int a2)] := hl
  unfold f_X7_in at h
  refine lv_iload_n hx hb dX7_in_0 rfl (lv_at hl 0 rfl) ?_
  refine lv_iload_n hx hb dX7_in_1 rfl (lv_at hl 1 rfl) ?_
  refine lv_icmp_lt (tgt := 14) hx hb dX7_in_2 (by decide) (fun c1 => ?_) (fun c1 => ?_)
  · replace h := if_some_t c1 h
    refine lv_iconst (v := (0 : Int32)) hx hb dX7_in_14 (by decide) ?_
    exact r_iret hx hb hr rfl hlocks hZ hK hw h dX7_in_15
  · replace h := if_some_f c1 h
    refine lv_iload_n hx hb dX7_in_5 rfl (lv_at hl 0 rfl) ?_
    refine lv_iload_n hx hb dX7_in_6 rfl (lv_at hl 2 rfl) ?_
    refine lv_icmp_gt (tgt := 14) hx hb dX7_in_7 (by decide) (fun c2 => ?_) (fun c2 => ?_)
    · replace h := if_some_t c2 h
      refine lv_iconst (v := (0 : Int32)) hx hb dX7_in_14 (by decide) ?_
      exact r_iret hx hb hr rfl hlocks hZ hK hw h dX7_in_15
    · replace h := if_some_f c2 h
      refine lv_iconst (v := (1 : Int32)) hx hb dX7_in_10 (by decide) ?_
      refine lv_goto (tgt := 15) hx hb dX7_in_11 (by decide) ?_
      exact r_iret hx hb hr rfl hlocks hZ hK hw h dX7_in_15
theorem dX7_carry_0 : decode cX7_carry 0 = .ok (.iconst 0, 1) := by decide +kernel
theorem dX7_carry_1 : decode cX7_carry 1 = .ok (.istore_n 2, 1) := by decide +kernel
theorem dX7_carry_2 : decode cX7_carry 2 = .ok (.iload_n 2, 1) := by decide +kernel
theorem dX7_carry_3 : decode cX7_carry 3 = .ok (.bipush 89, 2) := by decide +kernel
theorem dX7_carry_5 : decode cX7_carry 5 = .ok (.if_icmp .ge 15, 3) := by decide +kernel
theorem dX7_carry_8 : decode cX7_carry 8 = .ok (.aload_n 1, 1) := by decide +kernel
theorem dX7_carry_9 : decode cX7_carry 9 = .ok (.iload_n 2, 1) := by decide +kernel
theorem dX7_carry_10 : decode cX7_carry 10 = .ok (.aload_n 0, 1) := by decide +kernel
theorem dX7_carry_11 : decode cX7_carry 11 = .ok (.iload_n 2, 1) := by decide +kernel
theorem dX7_carry_12 : decode cX7_carry 12 = .ok (.iaload, 1) := by decide +kernel
theorem dX7_carry_13 : decode cX7_carry 13 = .ok (.iastore, 1) := by decide +kernel
theorem dX7_carry_14 : decode cX7_carry 14 = .ok (.iinc 2 1, 3) := by decide +kernel
theorem dX7_carry_17 : decode cX7_carry 17 = .ok (.goto (-15), 3) := by decide +kernel
theorem dX7_carry_20 : decode cX7_carry 20 = .ok (.return_, 1) := by decide +kernel
set_option maxHeartbeats 4000000 in
set_option maxRecDepth 100000 in
theorem c_X7_carry (l : Launch) (D : va_G) (cy : Nat → ClassId) (ad adK adV : Nat → Nat) (M : Mm) (a0 : Nat) (a1 : Nat) (res : Mm × Unit) (h : f_X7_carry M a0 a1 = some res) : Met l yX7_carry (wU yX7_carry cX7_carry 3 none) rmX7_carry (va_Pc [.ref (ad a0), .ref (ad a1)] (Pre D cy shM ad nM adK adV M)) (va_Qv (fun (M2 : Mm) => M2 = res.1) (Pre D cy shM ad nM adK adV) (Aw ad nM)) 0 0 (Aw ad nM) := by
  refine Met.ofW (cc := cX7_carry) (maxL := 3) (ret := none) (by decide) rfl ?_
  intro p e s m args below meth c s₁ B hml hv
  obtain ⟨hargs, hPre⟩ := hv
  have hx := B.exec
  have hb := B.bytes
  have hr := B.returns
  have hts := atoms_spec (ws := wU yX7_carry cX7_carry 3 none) B.pre
  have hq : ∀ w ∈ gW, w.before args s = true := fun w hw => hts w (List.mem_cons_of_mem _ hw)
  have hcm : ∀ w ∈ gW, w ∈ wU yX7_carry cX7_carry 3 none := fun w hw => List.mem_cons_of_mem _ hw
  have hown : s.vm.findClass RX7 = some m.cls := findClass_of_methodNamed B.named
  have hlocks := B.notSynchronized
  have hF : CallFix p m c cX7_carry 3 s args (wU yX7_carry cX7_carry 3 none) RX7 := ⟨hx, hb, hml, hown, hts⟩
  have hK := hPre.2.1
  have hZ := hPre.2.2.2
  have hw : Wd D cy shM ad nM (Aw ad nM) s.heap M s.heap [] := ⟨hPre.1, hPre.2.2.1, va_S.rf⟩
  rw [show entryFrame m args 3 = entryFrame m ([.ref (ad a0), .ref (ad a1)] : List Value).toArray 3 from by rw [hargs]]
  have hl := lv_entry ([.ref (ad a0), .ref (ad a1)]) (n := 3) (Nat.le_of_ble_eq_true rfl)
  rw [lg_entry_eq]
  generalize (lg_sl ([.ref (ad a0), .ref (ad a1)]) ++ List.replicate (3 - (lg_sl ([.ref (ad a0), .ref (ad a1)])).length) Slot.unset).toArray = ls at hl ⊢
  have hl : lv_has ls 3 [(0, .ref (ad a0)), (1, .ref (ad a1))] := hl
  have hb2 : ∀ (nn : Nat), ∀ (M : Mm) (x0 : Nat) (x1 : Nat) (x2 : Int32), f_X7_carry_b2 nn M x0 x1 x2 = some res → ∀ (H : Heap) (locs : List Loc) (ls : Array Slot), Wd D cy shM ad nM (Aw ad nM) s.heap M H locs → lv_has ls 3 [(0, .ref (ad x0)), (1, .ref (ad x1)), (2, .int x2)] → W p l e (headSpec (wU yX7_carry cX7_carry 3 none) rmX7_carry).room s m args below meth c H locs 0 0 (QV D cy shM ad nM adK adV below args s res) (F0 m 2 ls []) := by
    intro nn
    induction nn with
    | zero => intro M x0 x1 x2 h; simp [f_X7_carry_b2] at h
    | succ nn ih =>
      intro M x0 x1 x2 h H locs ls hw hl
      unfold f_X7_carry_b2 at h
      refine lv_iload_n hx hb dX7_carry_2 rfl (lv_at hl 2 rfl) ?_
      refine lv_bipush (v := (89 : Int32)) hx hb dX7_carry_3 (by decide) ?_
      refine lv_icmp_ge (tgt := 20) hx hb dX7_carry_5 (by decide) (fun c1 => ?_) (fun c1 => ?_)
      · replace h := if_some_t c1 h
        exact r_vret hx hb hr hlocks hZ hK hw h dX7_carry_20
      · replace h := if_some_f c1 h
        refine lv_aload_n hx hb dX7_carry_8 rfl (lv_at hl 1 rfl) ?_
        refine lv_iload_n hx hb dX7_carry_9 rfl (lv_at hl 2 rfl) ?_
        refine lv_aload_n hx hb dX7_carry_10 rfl (lv_at hl 0 rfl) ?_
        refine lv_iload_n hx hb dX7_carry_11 rfl (lv_at hl 2 rfl) ?_
        replace h := gd_some h
        obtain ⟨g2, h⟩ := h
        refine r_iald hx hb hK hw x0 g2 dX7_carry_12 ?_
        replace h := gd_some h
        obtain ⟨g3, h⟩ := h
        refine r_iast hx hb hK hw x1 g3 dX7_carry_13 (fun H locs hw => ?_)
        replace h := lt_some h
        obtain ⟨M4, eM4, h⟩ := h
        rw [← eM4] at hw
        refine lv_iinc (v := x2 + (1 : Int32)) (lv' := [(2, .int (x2 + (1 : Int32))), (0, .ref (ad x0)), (1, .ref (ad x1))]) hx hb dX7_carry_14 hl (k := 2) rfl (congrArg (fun z => x2 + z) (by decide)) (by decide) rfl (fun ls hl => ?_)
        refine lv_goto (tgt := 2) hx hb dX7_carry_17 (by decide) ?_
        exact ih _ _ _ _ h _ _ _ hw (lv_sub hl [1, 2, 0] rfl)
  unfold f_X7_carry at h
  refine lv_iconst (v := (0 : Int32)) hx hb dX7_carry_0 (by decide) ?_
  refine lv_istore_n (lv' := [(2, .int (0 : Int32)), (0, .ref (ad a0)), (1, .ref (ad a1))]) hx hb dX7_carry_1 rfl hl (by decide) rfl (fun ls hl => ?_)
  exact hb2 1000 _ _ _ _ h _ _ _ hw (lv_sub hl [1, 2, 0] rfl)
theorem dX7_isSide_0 : decode cX7_isSide 0 = .ok (.iload_n 1, 1) := by decide +kernel
theorem dX7_isSide_1 : decode cX7_isSide 1 = .ok (.iconst 0, 1) := by decide +kernel
theorem dX7_isSide_2 : decode cX7_isSide 2 = .ok (.aload_n 0, 1) := by decide +kernel
theorem dX7_isSide_3 : decode cX7_isSide 3 = .ok (.getfield 7, 3) := by decide +kernel
theorem dX7_isSide_6 : decode cX7_isSide 6 = .ok (.iconst 0, 1) := by decide +kernel
theorem dX7_isSide_7 : decode cX7_isSide 7 = .ok (.iaload, 1) := by decide +kernel
theorem dX7_isSide_8 : decode cX7_isSide 8 = .ok (.iconst 1, 1) := by decide +kernel
theorem dX7_isSide_9 : decode cX7_isSide 9 = .ok (.isub, 1) := by decide +kernel
theorem dX7_isSide_10 : decode cX7_isSide 10 = .ok (.invokestatic 67, 3) := by decide +kernel
theorem dX7_isSide_13 : decode cX7_isSide 13 = .ok (.ireturn, 1) := by decide +kernel
set_option maxHeartbeats 4000000 in
set_option maxRecDepth 100000 in
theorem c_X7_isSide (l : Launch) (D : va_G) (cy : Nat → ClassId) (ad adK adV : Nat → Nat) (M : Mm) (o0 : Nat) (a1 : Int32) (res : Mm × Int32) (h : f_X7_isSide M o0 a1 = some res) : Met l yX7_isSide (wU yX7_isSide cX7_isSide 2 (some .boolean)) rmX7_isSide (va_Pc [.ref (ad o0), .int a1] (Pre D cy shM ad nM adK adV M)) (va_Qi (fun r (M2 : Mm) => r = res.2 ∧ M2 = res.1) (Pre D cy shM ad nM adK adV) (Aw ad nM)) 0 0 (Aw ad nM) := by
  refine Met.ofW (cc := cX7_isSide) (maxL := 2) (ret := (some .boolean)) (by decide) rfl ?_
  intro p e s m args below meth c s₁ B hml hv
  obtain ⟨hargs, hPre⟩ := hv
  have hx := B.exec
  have hb := B.bytes
  have hr := B.returns
  have hts := atoms_spec (ws := wU yX7_isSide cX7_isSide 2 (some .boolean)) B.pre
  have hq : ∀ w ∈ gW, w.before args s = true := fun w hw => hts w (List.mem_cons_of_mem _ hw)
  have hcm : ∀ w ∈ gW, w ∈ wU yX7_isSide cX7_isSide 2 (some .boolean) := fun w hw => List.mem_cons_of_mem _ hw
  have hown : s.vm.findClass RX7 = some m.cls := findClass_of_methodNamed B.named
  have hlocks := B.notSynchronized
  have hF : CallFix p m c cX7_isSide 2 s args (wU yX7_isSide cX7_isSide 2 (some .boolean)) RX7 := ⟨hx, hb, hml, hown, hts⟩
  have hK := hPre.2.1
  have hZ := hPre.2.2.2
  have hw : Wd D cy shM ad nM (Aw ad nM) s.heap M s.heap [] := ⟨hPre.1, hPre.2.2.1, va_S.rf⟩
  have iw7 : ∀ w ∈ u_ws RX7 TX7 30, w ∈ wU yX7_isSide cX7_isSide 2 (some .boolean) := fun w hw => List.mem_cons_of_mem _ (iX7 w hw)
  rw [show entryFrame m args 2 = entryFrame m ([.ref (ad o0), .int a1] : List Value).toArray 2 from by rw [hargs]]
  have hl := lv_entry ([.ref (ad o0), .int a1]) (n := 2) (Nat.le_of_ble_eq_true rfl)
  rw [lg_entry_eq]
  generalize (lg_sl ([.ref (ad o0), .int a1]) ++ List.replicate (2 - (lg_sl ([.ref (ad o0), .int a1])).length) Slot.unset).toArray = ls at hl ⊢
  have hl : lv_has ls 2 [(0, .ref (ad o0)), (1, .int a1)] := hl
  unfold f_X7_isSide at h
  refine lv_iload_n hx hb dX7_isSide_0 rfl (lv_at hl 1 rfl) ?_
  refine lv_iconst (v := (0 : Int32)) hx hb dX7_isSide_1 (by decide) ?_
  refine lv_aload_n hx hb dX7_isSide_2 rfl (lv_at hl 0 rfl) ?_
  replace h := gd_some h
  obtain ⟨g1, h⟩ := h
  replace h := bd_some h
  obtain ⟨q2, eq2, h⟩ := h
  refine r_getR hx hb hts iw7 hown hK hw o0 0 g1 (by decide) rfl (by decide) rfl (hq _ qw888) (fun _ h9 => h9) dX7_isSide_3 eq2 ?_
  refine lv_iconst (v := (0 : Int32)) hx hb dX7_isSide_6 (by decide) ?_
  replace h := gd_some h
  obtain ⟨g3, h⟩ := h
  refine r_iald hx hb hK hw q2 g3 dX7_isSide_7 ?_
  refine lv_iconst (v := (1 : Int32)) hx hb dX7_isSide_8 (by decide) ?_
  refine lv_isub hx hb dX7_isSide_9 ?_
  replace h := bd_some h
  obtain ⟨r4, er4, h⟩ := h
  refine r_callSi (As := [.int a1, .int (0 : Int32), .int ((M.1 q2 (0 : Int32).toNatClampNeg) - (1 : Int32))]) (rest := []) hF (c_X7_in l D cy ad adK adV M a1 (0 : Int32) ((M.1 q2 (0 : Int32).toNatClampNeg) - (1 : Int32)) r4 er4) (gW_goodS hcm qw985 qw983 qw984 qw67) hdX7_in ⟨Nat.le_of_ble_eq_true rfl, Nat.le_of_ble_eq_true rfl⟩ rfl rfl hZ hK hw rfl hl.1 rfl (Nat.le_of_ble_eq_true rfl) ⟨Nat.zero_le _, Nat.zero_le _⟩ dX7_isSide_10 (fun H locs hw => ?_)
  replace h := gd_some h
  obtain ⟨z5, h⟩ := h
  exact r_iret hx hb hr (nar_bz z5) hlocks hZ hK hw h dX7_isSide_13
theorem dX7_isGame_0 : decode cX7_isGame 0 = .ok (.iload_n 1, 1) := by decide +kernel
theorem dX7_isGame_1 : decode cX7_isGame 1 = .ok (.iconst 0, 1) := by decide +kernel
theorem dX7_isGame_2 : decode cX7_isGame 2 = .ok (.aload_n 0, 1) := by decide +kernel
theorem dX7_isGame_3 : decode cX7_isGame 3 = .ok (.getfield 7, 3) := by decide +kernel
theorem dX7_isGame_6 : decode cX7_isGame 6 = .ok (.iconst 1, 1) := by decide +kernel
theorem dX7_isGame_7 : decode cX7_isGame 7 = .ok (.iaload, 1) := by decide +kernel
theorem dX7_isGame_8 : decode cX7_isGame 8 = .ok (.iconst 1, 1) := by decide +kernel
theorem dX7_isGame_9 : decode cX7_isGame 9 = .ok (.isub, 1) := by decide +kernel
theorem dX7_isGame_10 : decode cX7_isGame 10 = .ok (.invokestatic 67, 3) := by decide +kernel
theorem dX7_isGame_13 : decode cX7_isGame 13 = .ok (.ireturn, 1) := by decide +kernel
set_option maxHeartbeats 4000000 in
set_option maxRecDepth 100000 in
theorem c_X7_isGame (l : Launch) (D : va_G) (cy : Nat → ClassId) (ad adK adV : Nat → Nat) (M : Mm) (o0 : Nat) (a1 : Int32) (res : Mm × Int32) (h : f_X7_isGame M o0 a1 = some res) : Met l yX7_isGame (wU yX7_isGame cX7_isGame 2 (some .boolean)) rmX7_isGame (va_Pc [.ref (ad o0), .int a1] (Pre D cy shM ad nM adK adV M)) (va_Qi (fun r (M2 : Mm) => r = res.2 ∧ M2 = res.1) (Pre D cy shM ad nM adK adV) (Aw ad nM)) 0 0 (Aw ad nM) := by
  refine Met.ofW (cc := cX7_isGame) (maxL := 2) (ret := (some .boolean)) (by decide) rfl ?_
  intro p e s m args below meth c s₁ B hml hv
  obtain ⟨hargs, hPre⟩ := hv
  have hx := B.exec
  have hb := B.bytes
  have hr := B.returns
  have hts := atoms_spec (ws := wU yX7_isGame cX7_isGame 2 (some .boolean)) B.pre
  have hq : ∀ w ∈ gW, w.before args s = true := fun w hw => hts w (List.mem_cons_of_mem _ hw)
  have hcm : ∀ w ∈ gW, w ∈ wU yX7_isGame cX7_isGame 2 (some .boolean) := fun w hw => List.mem_cons_of_mem _ hw
  have hown : s.vm.findClass RX7 = some m.cls := findClass_of_methodNamed B.named
  have hlocks := B.notSynchronized
  have hF : CallFix p m c cX7_isGame 2 s args (wU yX7_isGame cX7_isGame 2 (some .boolean)) RX7 := ⟨hx, hb, hml, hown, hts⟩
  have hK := hPre.2.1
  have hZ := hPre.2.2.2
  have hw : Wd D cy shM ad nM (Aw ad nM) s.heap M s.heap [] := ⟨hPre.1, hPre.2.2.1, va_S.rf⟩
  have iw7 : ∀ w ∈ u_ws RX7 TX7 30, w ∈ wU yX7_isGame cX7_isGame 2 (some .boolean) := fun w hw => List.mem_cons_of_mem _ (iX7 w hw)
  rw [show entryFrame m args 2 = entryFrame m ([.ref (ad o0), .int a1] : List Value).toArray 2 from by rw [hargs]]
  have hl := lv_entry ([.ref (ad o0), .int a1]) (n := 2) (Nat.le_of_ble_eq_true rfl)
  rw [lg_entry_eq]
  generalize (lg_sl ([.ref (ad o0), .int a1]) ++ List.replicate (2 - (lg_sl ([.ref (ad o0), .int a1])).length) Slot.unset).toArray = ls at hl ⊢
  have hl : lv_has ls 2 [(0, .ref (ad o0)), (1, .int a1)] := hl
  unfold f_X7_isGame at h
  refine lv_iload_n hx hb dX7_isGame_0 rfl (lv_at hl 1 rfl) ?_
  refine lv_iconst (v := (0 : Int32)) hx hb dX7_isGame_1 (by decide) ?_
  refine lv_aload_n hx hb dX7_isGame_2 rfl (lv_at hl 0 rfl) ?_
  replace h := gd_some h
  obtain ⟨g1, h⟩ := h
  replace h := bd_some h
  obtain ⟨q2, eq2, h⟩ := h
  refine r_getR hx hb hts iw7 hown hK hw o0 0 g1 (by decide) rfl (by decide) rfl (hq _ qw888) (fun _ h9 => h9) dX7_isGame_3 eq2 ?_
  refine lv_iconst (v := (1 : Int32)) hx hb dX7_isGame_6 (by decide) ?_
  replace h := gd_some h
  obtain ⟨g3, h⟩ := h
  refine r_iald hx hb hK hw q2 g3 dX7_isGame_7 ?_
  refine lv_iconst (v := (1 : Int32)) hx hb dX7_isGame_8 (by decide) ?_
  refine lv_isub hx hb dX7_isGame_9 ?_
  replace h := bd_some h
  obtain ⟨r4, er4, h⟩ := h
  refine r_callSi (As := [.int a1, .int (0 : Int32), .int ((M.1 q2 (1 : Int32).toNatClampNeg) - (1 : Int32))]) (rest := []) hF (c_X7_in l D cy ad adK adV M a1 (0 : Int32) ((M.1 q2 (1 : Int32).toNatClampNeg) - (1 : Int32)) r4 er4) (gW_goodS hcm qw985 qw983 qw984 qw67) hdX7_in ⟨Nat.le_of_ble_eq_true rfl, Nat.le_of_ble_eq_true rfl⟩ rfl rfl hZ hK hw rfl hl.1 rfl (Nat.le_of_ble_eq_true rfl) ⟨Nat.zero_le _, Nat.zero_le _⟩ dX7_isGame_10 (fun H locs hw => ?_)
  replace h := gd_some h
  obtain ⟨z5, h⟩ := h
  exact r_iret hx hb hr (nar_bz z5) hlocks hZ hK hw h dX7_isGame_13
theorem dX7_its_0 : decode cX7_its 0 = .ok (.aload_n 0, 1) := by decide +kernel
theorem dX7_its_1 : decode cX7_its 1 = .ok (.getfield 7, 3) := by decide +kernel
theorem dX7_its_4 : decode cX7_its 4 = .ok (.iconst 5, 1) := by decide +kernel
theorem dX7_its_5 : decode cX7_its 5 = .ok (.iconst 3, 1) := by decide +kernel
theorem dX7_its_6 : decode cX7_its 6 = .ok (.iload_n 1, 1) := by decide +kernel
theorem dX7_its_7 : decode cX7_its 7 = .ok (.imul, 1) := by decide +kernel
theorem dX7_its_8 : decode cX7_its 8 = .ok (.iadd, 1) := by decide +kernel
theorem dX7_its_9 : decode cX7_its 9 = .ok (.iload_n 2, 1) := by decide +kernel
theorem dX7_its_10 : decode cX7_its 10 = .ok (.iadd, 1) := by decide +kernel
theorem dX7_its_11 : decode cX7_its 11 = .ok (.iaload, 1) := by decide +kernel
theorem dX7_its_12 : decode cX7_its 12 = .ok (.ireturn, 1) := by decide +kernel
set_option maxHeartbeats 4000000 in
set_option maxRecDepth 100000 in
theorem c_X7_its (l : Launch) (D : va_G) (cy : Nat → ClassId) (ad adK adV : Nat → Nat) (M : Mm) (o0 : Nat) (a1 : Int32) (a2 : Int32) (res : Mm × Int32) (h : f_X7_its M o0 a1 a2 = some res) : Met l yX7_its (wU yX7_its cX7_its 3 (some .int)) rmX7_its (va_Pc [.ref (ad o0), .int a1, .int a2] (Pre D cy shM ad nM adK adV M)) (va_Qi (fun r (M2 : Mm) => r = res.2 ∧ M2 = res.1) (Pre D cy shM ad nM adK adV) (Aw ad nM)) 0 0 (Aw ad nM) := by
  refine Met.ofW (cc := cX7_its) (maxL := 3) (ret := (some .int)) (by decide) rfl ?_
  intro p e s m args below meth c s₁ B hml hv
  obtain ⟨hargs, hPre⟩ := hv
  have hx := B.exec
  have hb := B.bytes
  have hr := B.returns
  have hts := atoms_spec (ws := wU yX7_its cX7_its 3 (some .int)) B.pre
  have hq : ∀ w ∈ gW, w.before args s = true := fun w hw => hts w (List.mem_cons_of_mem _ hw)
  have hcm : ∀ w ∈ gW, w ∈ wU yX7_its cX7_its 3 (some .int) := fun w hw => List.mem_cons_of_mem _ hw
  have hown : s.vm.findClass RX7 = some m.cls := findClass_of_methodNamed B.named
  have hlocks := B.notSynchronized
  have hF : CallFix p m c cX7_its 3 s args (wU yX7_its cX7_its 3 (some .int)) RX7 := ⟨hx, hb, hml, hown, hts⟩
  have hK := hPre.2.1
  have hZ := hPre.2.2.2
  have hw : Wd D cy shM ad nM (Aw ad nM) s.heap M s.heap [] := ⟨hPre.1, hPre.2.2.1, va_S.rf⟩
  have iw7 : ∀ w ∈ u_ws RX7 TX7 30, w ∈ wU yX7_its cX7_its 3 (some .int) := fun w hw => List.mem_cons_of_mem _ (iX7 w hw)
  rw [show entryFrame m args 3 = entryFrame m ([.ref (ad o0), .int a1, .int a2] : List Value).toArray 3 from by rw [hargs]]
  have hl := lv_entry ([.ref (ad o0), .int a1, .int a2]) (n := 3) (Nat.le_of_ble_eq_true rfl)
  rw [lg_entry_eq]
  generalize (lg_sl ([.ref (ad o0), .int a1, .int a2]) ++ List.replicate (3 - (lg_sl ([.ref (ad o0), .int a1, .int a2])).length) Slot.unset).toArray = ls at hl ⊢
  have hl : lv_has ls 3 [(0, .ref (ad o0)), (1, .int a1), (2, .int a2)] := hl
  unfold f_X7_its at h
  refine lv_aload_n hx hb dX7_its_0 rfl (lv_at hl 0 rfl) ?_
  replace h := gd_some h
  obtain ⟨g1, h⟩ := h
  replace h := bd_some h
  obtain ⟨q2, eq2, h⟩ := h
  refine r_getR hx hb hts iw7 hown hK hw o0 0 g1 (by decide) rfl (by decide) rfl (hq _ qw888) (fun _ h9 => h9) dX7_its_1 eq2 ?_
  refine lv_iconst (v := (5 : Int32)) hx hb dX7_its_4 (by decide) ?_
  refine lv_iconst (v := (3 : Int32)) hx hb dX7_its_5 (by decide) ?_
  refine lv_iload_n hx hb dX7_its_6 rfl (lv_at hl 1 rfl) ?_
  refine lv_imul hx hb dX7_its_7 ?_
  refine lv_iadd hx hb dX7_its_8 ?_
  refine lv_iload_n hx hb dX7_its_9 rfl (lv_at hl 2 rfl) ?_
  refine lv_iadd hx hb dX7_its_10 ?_
  replace h := gd_some h
  obtain ⟨g3, h⟩ := h
  refine r_iald hx hb hK hw q2 g3 dX7_its_11 ?_
  exact r_iret hx hb hr rfl hlocks hZ hK hw h dX7_its_12
theorem dX7_of_0 : decode cX7_of 0 = .ok (.aload_n 0, 1) := by decide +kernel
theorem dX7_of_1 : decode cX7_of 1 = .ok (.getfield 7, 3) := by decide +kernel
theorem dX7_of_4 : decode cX7_of 4 = .ok (.bipush 23, 2) := by decide +kernel
theorem dX7_of_6 : decode cX7_of 6 = .ok (.bipush 7, 2) := by decide +kernel
theorem dX7_of_8 : decode cX7_of 8 = .ok (.iload_n 1, 1) := by decide +kernel
theorem dX7_of_9 : decode cX7_of 9 = .ok (.imul, 1) := by decide +kernel
theorem dX7_of_10 : decode cX7_of 10 = .ok (.iadd, 1) := by decide +kernel
theorem dX7_of_11 : decode cX7_of 11 = .ok (.iload_n 2, 1) := by decide +kernel
theorem dX7_of_12 : decode cX7_of 12 = .ok (.iadd, 1) := by decide +kernel
theorem dX7_of_13 : decode cX7_of 13 = .ok (.iaload, 1) := by decide +kernel
theorem dX7_of_14 : decode cX7_of 14 = .ok (.ireturn, 1) := by decide +kernel
set_option maxHeartbeats 4000000 in
set_option maxRecDepth 100000 in
theorem c_X7_of (l : Launch) (D : va_G) (cy : Nat → ClassId) (ad adK adV : Nat → Nat) (M : Mm) (o0 : Nat) (a1 : Int32) (a2 : Int32) (res : Mm × Int32) (h : f_X7_of M o0 a1 a2 = some res) : Met l yX7_of (wU yX7_of cX7_of 3 (some .int)) rmX7_of (va_Pc [.ref (ad o0), .int a1, .int a2] (Pre D cy shM ad nM adK adV M)) (va_Qi (fun r (M2 : Mm) => r = res.2 ∧ M2 = res.1) (Pre D cy shM ad nM adK adV) (Aw ad nM)) 0 0 (Aw ad nM) := by
  refine Met.ofW (cc := cX7_of) (maxL := 3) (ret := (some .int)) (by decide) rfl ?_
  intro p e s m args below meth c s₁ B hml hv
  obtain ⟨hargs, hPre⟩ := hv
  have hx := B.exec
  have hb := B.bytes
  have hr := B.returns
  have hts := atoms_spec (ws := wU yX7_of cX7_of 3 (some .int)) B.pre
  have hq : ∀ w ∈ gW, w.before args s = true := fun w hw => hts w (List.mem_cons_of_mem _ hw)
  have hcm : ∀ w ∈ gW, w ∈ wU yX7_of cX7_of 3 (some .int) := fun w hw => List.mem_cons_of_mem _ hw
  have hown : s.vm.findClass RX7 = some m.cls := findClass_of_methodNamed B.named
  have hlocks := B.notSynchronized
  have hF : CallFix p m c cX7_of 3 s args (wU yX7_of cX7_of 3 (some .int)) RX7 := ⟨hx, hb, hml, hown, hts⟩
  have hK := hPre.2.1
  have hZ := hPre.2.2.2
  have hw : Wd D cy shM ad nM (Aw ad nM) s.heap M s.heap [] := ⟨hPre.1, hPre.2.2.1, va_S.rf⟩
  have iw7 : ∀ w ∈ u_ws RX7 TX7 30, w ∈ wU yX7_of cX7_of 3 (some .int) := fun w hw => List.mem_cons_of_mem _ (iX7 w hw)
  rw [show entryFrame m args 3 = entryFrame m ([.ref (ad o0), .int a1, .int a2] : List Value).toArray 3 from by rw [hargs]]
  have hl := lv_entry ([.ref (ad o0), .int a1, .int a2]) (n := 3) (Nat.le_of_ble_eq_true rfl)
  rw [lg_entry_eq]
  generalize (lg_sl ([.ref (ad o0), .int a1, .int a2]) ++ List.replicate (3 - (lg_sl ([.ref (ad o0), .int a1, .int a2])).length) Slot.unset).toArray = ls at hl ⊢
  have hl : lv_has ls 3 [(0, .ref (ad o0)), (1, .int a1), (2, .int a2)] := hl
  unfold f_X7_of at h
  refine lv_aload_n hx hb dX7_of_0 rfl (lv_at hl 0 rfl) ?_
  replace h := gd_some h
  obtain ⟨g1, h⟩ := h
  replace h := bd_some h
  obtain ⟨q2, eq2, h⟩ := h
  refine r_getR hx hb hts iw7 hown hK hw o0 0 g1 (by decide) rfl (by decide) rfl (hq _ qw888) (fun _ h9 => h9) dX7_of_1 eq2 ?_
  refine lv_bipush (v := (23 : Int32)) hx hb dX7_of_4 (by decide) ?_
  refine lv_bipush (v := (7 : Int32)) hx hb dX7_of_6 (by decide) ?_
  refine lv_iload_n hx hb dX7_of_8 rfl (lv_at hl 1 rfl) ?_
  refine lv_imul hx hb dX7_of_9 ?_
  refine lv_iadd hx hb dX7_of_10 ?_
  refine lv_iload_n hx hb dX7_of_11 rfl (lv_at hl 2 rfl) ?_
  refine lv_iadd hx hb dX7_of_12 ?_
  replace h := gd_some h
  obtain ⟨g3, h⟩ := h
  refine r_iald hx hb hK hw q2 g3 dX7_of_13 ?_
  exact r_iret hx hb hr rfl hlocks hZ hK hw h dX7_of_14
theorem dX7_plays_0 : decode cX7_plays 0 = .ok (.aload_n 0, 1) := by decide +kernel
theorem dX7_plays_1 : decode cX7_plays 1 = .ok (.iload_n 2, 1) := by decide +kernel
theorem dX7_plays_2 : decode cX7_plays 2 = .ok (.iconst 0, 1) := by decide +kernel
theorem dX7_plays_3 : decode cX7_plays 3 = .ok (.invokevirtual 71, 3) := by decide +kernel
theorem dX7_plays_6 : decode cX7_plays 6 = .ok (.iload_n 1, 1) := by decide +kernel
theorem dX7_plays_7 : decode cX7_plays 7 = .ok (.if_icmp .eq 13, 3) := by decide +kernel
theorem dX7_plays_10 : decode cX7_plays 10 = .ok (.aload_n 0, 1) := by decide +kernel
theorem dX7_plays_11 : decode cX7_plays 11 = .ok (.iload_n 2, 1) := by decide +kernel
theorem dX7_plays_12 : decode cX7_plays 12 = .ok (.iconst 1, 1) := by decide +kernel
theorem dX7_plays_13 : decode cX7_plays 13 = .ok (.invokevirtual 71, 3) := by decide +kernel
theorem dX7_plays_16 : decode cX7_plays 16 = .ok (.iload_n 1, 1) := by decide +kernel
theorem dX7_plays_17 : decode cX7_plays 17 = .ok (.if_icmp .ne 7, 3) := by decide +kernel
theorem dX7_plays_20 : decode cX7_plays 20 = .ok (.iconst 1, 1) := by decide +kernel
theorem dX7_plays_21 : decode cX7_plays 21 = .ok (.goto 4, 3) := by decide +kernel
theorem dX7_plays_24 : decode cX7_plays 24 = .ok (.iconst 0, 1) := by decide +kernel
theorem dX7_plays_25 : decode cX7_plays 25 = .ok (.ireturn, 1) := by decide +kernel
set_option maxHeartbeats 4000000 in
set_option maxRecDepth 100000 in
theorem c_X7_plays (l : Launch) (D : va_G) (cy : Nat → ClassId) (ad adK adV : Nat → Nat) (M : Mm) (o0 : Nat) (a1 : Int32) (a2 : Int32) (res : Mm × Int32) (h : f_X7_plays M o0 a1 a2 = some res) : Met l yX7_plays (wU yX7_plays cX7_plays 3 (some .boolean)) rmX7_plays (va_Pc [.ref (ad o0), .int a1, .int a2] (Pre D cy shM ad nM adK adV M)) (va_Qi (fun r (M2 : Mm) => r = res.2 ∧ M2 = res.1) (Pre D cy shM ad nM adK adV) (Aw ad nM)) 0 0 (Aw ad nM) := by
  refine Met.ofW (cc := cX7_plays) (maxL := 3) (ret := (some .boolean)) (by decide) rfl ?_
  intro p e s m args below meth c s₁ B hml hv
  obtain ⟨hargs, hPre⟩ := hv
  have hx := B.exec
  have hb := B.bytes
  have hr := B.returns
  have hts := atoms_spec (ws := wU yX7_plays cX7_plays 3 (some .boolean)) B.pre
  have hq : ∀ w ∈ gW, w.before args s = true := fun w hw => hts w (List.mem_cons_of_mem _ hw)
  have hcm : ∀ w ∈ gW, w ∈ wU yX7_plays cX7_plays 3 (some .boolean) := fun w hw => List.mem_cons_of_mem _ hw
  have hown : s.vm.findClass RX7 = some m.cls := findClass_of_methodNamed B.named
  have hlocks := B.notSynchronized
  have hF : CallFix p m c cX7_plays 3 s args (wU yX7_plays cX7_plays 3 (some .boolean)) RX7 := ⟨hx, hb, hml, hown, hts⟩
  have hK := hPre.2.1
  have hZ := hPre.2.2.2
  have hw : Wd D cy shM ad nM (Aw ad nM) s.heap M s.heap [] := ⟨hPre.1, hPre.2.2.1, va_S.rf⟩
  rw [show entryFrame m args 3 = entryFrame m ([.ref (ad o0), .int a1, .int a2] : List Value).toArray 3 from by rw [hargs]]
  have hl := lv_entry ([.ref (ad o0), .int a1, .int a2]) (n := 3) (Nat.le_of_ble_eq_true rfl)
  rw [lg_entry_eq]
  generalize (lg_sl ([.ref (ad o0), .int a1, .int a2]) ++ List.replicate (3 - (lg_sl ([.ref (ad o0), .int a1, .int a2])).length) Slot.unset).toArray = ls at hl ⊢
  have hl : lv_has ls 3 [(0, .ref (ad o0)), (1, .int a1), (2, .int a2)] := hl
  have hb20 : ∀ (M : Mm) , f_X7_plays_b20 M  = some res → ∀ (H : Heap) (locs : List Loc) (ls : Array Slot), Wd D cy shM ad nM (Aw ad nM) s.heap M H locs → lv_has ls 3 [] → W p l e (headSpec (wU yX7_plays cX7_plays 3 (some .boolean)) rmX7_plays).room s m args below meth c H locs 0 0 (QI D cy shM ad nM adK adV below args s res) (F0 m 20 ls []) := by
    intro M h H locs ls hw hl
    unfold f_X7_plays_b20 at h
    refine lv_iconst (v := (1 : Int32)) hx hb dX7_plays_20 (by decide) ?_
    refine lv_goto (tgt := 25) hx hb dX7_plays_21 (by decide) ?_
    exact r_iret hx hb hr rfl hlocks hZ hK hw h dX7_plays_25
  unfold f_X7_plays at h
  refine lv_aload_n hx hb dX7_plays_0 rfl (lv_at hl 0 rfl) ?_
  refine lv_iload_n hx hb dX7_plays_1 rfl (lv_at hl 2 rfl) ?_
  refine lv_iconst (v := (0 : Int32)) hx hb dX7_plays_2 (by decide) ?_
  replace h := gd_some h
  obtain ⟨g2, h⟩ := h
  replace h := bd_some h
  obtain ⟨r1, er1, h⟩ := h
  refine r_callVi (As := [.int a2, .int (0 : Int32)]) (rest := []) hF (c_X7_of l D cy ad adK adV M o0 a2 (0 : Int32) r1 er1) (gW_goodV hcm qw1010 qw1007 qw1009 qw22 qw67) hdX7_of rfl ⟨Nat.le_of_ble_eq_true rfl, Nat.le_of_ble_eq_true rfl⟩ rfl rfl hZ hK hw g2 (by decide) rfl rfl hl.1 rfl (Nat.le_of_ble_eq_true rfl) ⟨Nat.zero_le _, Nat.zero_le _⟩ dX7_plays_3 (fun H locs hw => ?_)
  refine lv_iload_n hx hb dX7_plays_6 rfl (lv_at hl 1 rfl) ?_
  refine lv_icmp_eq (tgt := 20) hx hb dX7_plays_7 (by decide) (fun c3 => ?_) (fun c3 => ?_)
  · replace h := if_some_t c3 h
    exact hb20 _ h _ _ _ hw (lv_sub hl [] rfl)
  · replace h := if_some_f c3 h
    refine lv_aload_n hx hb dX7_plays_10 rfl (lv_at hl 0 rfl) ?_
    refine lv_iload_n hx hb dX7_plays_11 rfl (lv_at hl 2 rfl) ?_
    refine lv_iconst (v := (1 : Int32)) hx hb dX7_plays_12 (by decide) ?_
    replace h := bd_some h
    obtain ⟨r4, er4, h⟩ := h
    refine r_callVi (As := [.int a2, .int (1 : Int32)]) (rest := []) hF (c_X7_of l D cy ad adK adV r1.1 o0 a2 (1 : Int32) r4 er4) (gW_goodV hcm qw1010 qw1007 qw1009 qw22 qw67) hdX7_of rfl ⟨Nat.le_of_ble_eq_true rfl, Nat.le_of_ble_eq_true rfl⟩ rfl rfl hZ hK hw g2 (by decide) rfl rfl hl.1 rfl (Nat.le_of_ble_eq_true rfl) ⟨Nat.zero_le _, Nat.zero_le _⟩ dX7_plays_13 (fun H locs hw => ?_)
    refine lv_iload_n hx hb dX7_plays_16 rfl (lv_at hl 1 rfl) ?_
    refine lv_icmp_ne (tgt := 24) hx hb dX7_plays_17 (by decide) (fun c5 => ?_) (fun c5 => ?_)
    · replace h := if_some_f c5 h
      refine lv_iconst (v := (0 : Int32)) hx hb dX7_plays_24 (by decide) ?_
      exact r_iret hx hb hr rfl hlocks hZ hK hw h dX7_plays_25
    · replace h := if_some_t c5 h
      exact hb20 _ h _ _ _ hw (lv_sub hl [] rfl)
theorem dX7_points_0 : decode cX7_points 0 = .ok (.iconst 0, 1) := by decide +kernel
theorem dX7_points_1 : decode cX7_points 1 = .ok (.istore_n 2, 1) := by decide +kernel
theorem dX7_points_2 : decode cX7_points 2 = .ok (.iconst 0, 1) := by decide +kernel
theorem dX7_points_3 : decode cX7_points 3 = .ok (.istore_n 3, 1) := by decide +kernel
theorem dX7_points_4 : decode cX7_points 4 = .ok (.iload_n 3, 1) := by decide +kernel
theorem dX7_points_5 : decode cX7_points 5 = .ok (.aload_n 0, 1) := by decide +kernel
theorem dX7_points_6 : decode cX7_points 6 = .ok (.getfield 7, 3) := by decide +kernel
theorem dX7_points_9 : decode cX7_points 9 = .ok (.iconst 2, 1) := by decide +kernel
theorem dX7_points_10 : decode cX7_points 10 = .ok (.iaload, 1) := by decide +kernel
theorem dX7_points_11 : decode cX7_points 11 = .ok (.if_icmp .ge 32, 3) := by decide +kernel
theorem dX7_points_14 : decode cX7_points 14 = .ok (.iload_n 2, 1) := by decide +kernel
theorem dX7_points_15 : decode cX7_points 15 = .ok (.aload_n 0, 1) := by decide +kernel
theorem dX7_points_16 : decode cX7_points 16 = .ok (.iload_n 3, 1) := by decide +kernel
theorem dX7_points_17 : decode cX7_points 17 = .ok (.iconst 4, 1) := by decide +kernel
theorem dX7_points_18 : decode cX7_points 18 = .ok (.invokevirtual 71, 3) := by decide +kernel
theorem dX7_points_21 : decode cX7_points 21 = .ok (.iload_n 1, 1) := by decide +kernel
theorem dX7_points_22 : decode cX7_points 22 = .ok (.if_icmp .ne 12, 3) := by decide +kernel
theorem dX7_points_25 : decode cX7_points 25 = .ok (.aload_n 0, 1) := by decide +kernel
theorem dX7_points_26 : decode cX7_points 26 = .ok (.iload_n 3, 1) := by decide +kernel
theorem dX7_points_27 : decode cX7_points 27 = .ok (.iconst 2, 1) := by decide +kernel
theorem dX7_points_28 : decode cX7_points 28 = .ok (.invokevirtual 71, 3) := by decide +kernel
theorem dX7_points_31 : decode cX7_points 31 = .ok (.goto 4, 3) := by decide +kernel
theorem dX7_points_34 : decode cX7_points 34 = .ok (.iconst 0, 1) := by decide +kernel
theorem dX7_points_35 : decode cX7_points 35 = .ok (.iadd, 1) := by decide +kernel
theorem dX7_points_36 : decode cX7_points 36 = .ok (.istore_n 2, 1) := by decide +kernel
theorem dX7_points_37 : decode cX7_points 37 = .ok (.iinc 3 1, 3) := by decide +kernel
theorem dX7_points_40 : decode cX7_points 40 = .ok (.goto (-36), 3) := by decide +kernel
theorem dX7_points_43 : decode cX7_points 43 = .ok (.iload_n 2, 1) := by decide +kernel
theorem dX7_points_44 : decode cX7_points 44 = .ok (.ireturn, 1) := by decide +kernel
set_option maxHeartbeats 4000000 in
set_option maxRecDepth 100000 in
theorem c_X7_points (l : Launch) (D : va_G) (cy : Nat → ClassId) (ad adK adV : Nat → Nat) (M : Mm) (o0 : Nat) (a1 : Int32) (res : Mm × Int32) (h : f_X7_points M o0 a1 = some res) : Met l yX7_points (wU yX7_points cX7_points 4 (some .int)) rmX7_points (va_Pc [.ref (ad o0), .int a1] (Pre D cy shM ad nM adK adV M)) (va_Qi (fun r (M2 : Mm) => r = res.2 ∧ M2 = res.1) (Pre D cy shM ad nM adK adV) (Aw ad nM)) 0 0 (Aw ad nM) := by
  refine Met.ofW (cc := cX7_points) (maxL := 4) (ret := (some .int)) (by decide) rfl ?_
  intro p e s m args below meth c s₁ B hml hv
  obtain ⟨hargs, hPre⟩ := hv
  have hx := B.exec
  have hb := B.bytes
  have hr := B.returns
  have hts := atoms_spec (ws := wU yX7_points cX7_points 4 (some .int)) B.pre
  have hq : ∀ w ∈ gW, w.before args s = true := fun w hw => hts w (List.mem_cons_of_mem _ hw)
  have hcm : ∀ w ∈ gW, w ∈ wU yX7_points cX7_points 4 (some .int) := fun w hw => List.mem_cons_of_mem _ hw
  have hown : s.vm.findClass RX7 = some m.cls := findClass_of_methodNamed B.named
  have hlocks := B.notSynchronized
  have hF : CallFix p m c cX7_points 4 s args (wU yX7_points cX7_points 4 (some .int)) RX7 := ⟨hx, hb, hml, hown, hts⟩
  have hK := hPre.2.1
  have hZ := hPre.2.2.2
  have hw : Wd D cy shM ad nM (Aw ad nM) s.heap M s.heap [] := ⟨hPre.1, hPre.2.2.1, va_S.rf⟩
  have iw7 : ∀ w ∈ u_ws RX7 TX7 30, w ∈ wU yX7_points cX7_points 4 (some .int) := fun w hw => List.mem_cons_of_mem _ (iX7 w hw)
  rw [show entryFrame m args 4 = entryFrame m ([.ref (ad o0), .int a1] : List Value).toArray 4 from by rw [hargs]]
  have hl := lv_entry ([.ref (ad o0), .int a1]) (n := 4) (Nat.le_of_ble_eq_true rfl)
  rw [lg_entry_eq]
  generalize (lg_sl ([.ref (ad o0), .int a1]) ++ List.replicate (4 - (lg_sl ([.ref (ad o0), .int a1])).length) Slot.unset).toArray = ls at hl ⊢
  have hl : lv_has ls 4 [(0, .ref (ad o0)), (1, .int a1)] := hl
  have hb35 : ∀ (k4 : Mm → Nat → Int32 → Int32 → Int32 → Option (Mm × Int32)) (hk4 : ∀ (M : Mm) (x0 : Nat) (x1 : Int32) (x2 : Int32) (x3 : Int32), k4 M x0 x1 x2 x3 = some res → ∀ (H : Heap) (locs : List Loc) (ls : Array Slot), Wd D cy shM ad nM (Aw ad nM) s.heap M H locs → lv_has ls 4 [(0, .ref (ad x0)), (1, .int x1), (2, .int x2), (3, .int x3)] → W p l e (headSpec (wU yX7_points cX7_points 4 (some .int)) rmX7_points).room s m args below meth c H locs 0 0 (QI D cy shM ad nM adK adV below args s res) (F0 m 4 ls [])), ∀ (M : Mm) (x0 : Nat) (x1 : Int32) (x3 : Int32) (t0 : Int32) (t1 : Int32), f_X7_points_b35 k4 M x0 x1 x3 t0 t1 = some res → ∀ (H : Heap) (locs : List Loc) (ls : Array Slot), Wd D cy shM ad nM (Aw ad nM) s.heap M H locs → lv_has ls 4 [(0, .ref (ad x0)), (1, .int x1), (3, .int x3)] → W p l e (headSpec (wU yX7_points cX7_points 4 (some .int)) rmX7_points).room s m args below meth c H locs 0 0 (QI D cy shM ad nM adK adV below args s res) (F0 m 35 ls [.int t1, .int t0]) := by
    intro k4 hk4
    intro M x0 x1 x3 t0 t1 h H locs ls hw hl
    unfold f_X7_points_b35 at h
    refine lv_iadd hx hb dX7_points_35 ?_
    refine lv_istore_n (lv' := [(2, .int (t0 + t1)), (0, .ref (ad x0)), (1, .int x1), (3, .int x3)]) hx hb dX7_points_36 rfl hl (by decide) rfl (fun ls hl => ?_)
    refine lv_iinc (v := x3 + (1 : Int32)) (lv' := [(3, .int (x3 + (1 : Int32))), (2, .int (t0 + t1)), (0, .ref (ad x0)), (1, .int x1)]) hx hb dX7_points_37 hl (k := 3) rfl (congrArg (fun z => x3 + z) (by decide)) (by decide) rfl (fun ls hl => ?_)
    refine lv_goto (tgt := 4) hx hb dX7_points_40 (by decide) ?_
    exact hk4 _ _ _ _ _ h _ _ _ hw (lv_sub hl [2, 3, 1, 0] rfl)
  have hb4 : ∀ (nn : Nat), ∀ (M : Mm) (x0 : Nat) (x1 : Int32) (x2 : Int32) (x3 : Int32), f_X7_points_b4 nn M x0 x1 x2 x3 = some res → ∀ (H : Heap) (locs : List Loc) (ls : Array Slot), Wd D cy shM ad nM (Aw ad nM) s.heap M H locs → lv_has ls 4 [(0, .ref (ad x0)), (1, .int x1), (2, .int x2), (3, .int x3)] → W p l e (headSpec (wU yX7_points cX7_points 4 (some .int)) rmX7_points).room s m args below meth c H locs 0 0 (QI D cy shM ad nM adK adV below args s res) (F0 m 4 ls []) := by
    intro nn
    induction nn with
    | zero => intro M x0 x1 x2 x3 h; simp [f_X7_points_b4] at h
    | succ nn ih =>
      intro M x0 x1 x2 x3 h H locs ls hw hl
      unfold f_X7_points_b4 at h
      refine lv_iload_n hx hb dX7_points_4 rfl (lv_at hl 3 rfl) ?_
      refine lv_aload_n hx hb dX7_points_5 rfl (lv_at hl 0 rfl) ?_
      replace h := gd_some h
      obtain ⟨g1, h⟩ := h
      replace h := bd_some h
      obtain ⟨q2, eq2, h⟩ := h
      refine r_getR hx hb hts iw7 hown hK hw x0 0 g1 (by decide) rfl (by decide) rfl (hq _ qw888) (fun _ h9 => h9) dX7_points_6 eq2 ?_
      refine lv_iconst (v := (2 : Int32)) hx hb dX7_points_9 (by decide) ?_
      replace h := gd_some h
      obtain ⟨g3, h⟩ := h
      refine r_iald hx hb hK hw q2 g3 dX7_points_10 ?_
      refine lv_icmp_ge (tgt := 43) hx hb dX7_points_11 (by decide) (fun c4 => ?_) (fun c4 => ?_)
      · replace h := if_some_t c4 h
        refine lv_iload_n hx hb dX7_points_43 rfl (lv_at hl 2 rfl) ?_
        exact r_iret hx hb hr rfl hlocks hZ hK hw h dX7_points_44
      · replace h := if_some_f c4 h
        refine lv_iload_n hx hb dX7_points_14 rfl (lv_at hl 2 rfl) ?_
        refine lv_aload_n hx hb dX7_points_15 rfl (lv_at hl 0 rfl) ?_
        refine lv_iload_n hx hb dX7_points_16 rfl (lv_at hl 3 rfl) ?_
        refine lv_iconst (v := (4 : Int32)) hx hb dX7_points_17 (by decide) ?_
        replace h := bd_some h
        obtain ⟨r5, er5, h⟩ := h
        refine r_callVi (As := [.int x3, .int (4 : Int32)]) (rest := [.int x2]) hF (c_X7_of l D cy ad adK adV M x0 x3 (4 : Int32) r5 er5) (gW_goodV hcm qw1010 qw1007 qw1009 qw22 qw67) hdX7_of rfl ⟨Nat.le_of_ble_eq_true rfl, Nat.le_of_ble_eq_true rfl⟩ rfl rfl hZ hK hw g1 (by decide) rfl rfl hl.1 rfl (Nat.le_of_ble_eq_true rfl) ⟨Nat.zero_le _, Nat.zero_le _⟩ dX7_points_18 (fun H locs hw => ?_)
        refine lv_iload_n hx hb dX7_points_21 rfl (lv_at hl 1 rfl) ?_
        refine lv_icmp_ne (tgt := 34) hx hb dX7_points_22 (by decide) (fun c6 => ?_) (fun c6 => ?_)
        · replace h := if_some_f c6 h
          refine lv_iconst (v := (0 : Int32)) hx hb dX7_points_34 (by decide) ?_
          exact hb35 _ ih _ _ _ _ _ _ h _ _ _ hw (lv_sub hl [0, 1, 3] rfl)
        · replace h := if_some_t c6 h
          refine lv_aload_n hx hb dX7_points_25 rfl (lv_at hl 0 rfl) ?_
          refine lv_iload_n hx hb dX7_points_26 rfl (lv_at hl 3 rfl) ?_
          refine lv_iconst (v := (2 : Int32)) hx hb dX7_points_27 (by decide) ?_
          replace h := bd_some h
          obtain ⟨r7, er7, h⟩ := h
          refine r_callVi (As := [.int x3, .int (2 : Int32)]) (rest := [.int x2]) hF (c_X7_of l D cy ad adK adV r5.1 x0 x3 (2 : Int32) r7 er7) (gW_goodV hcm qw1010 qw1007 qw1009 qw22 qw67) hdX7_of rfl ⟨Nat.le_of_ble_eq_true rfl, Nat.le_of_ble_eq_true rfl⟩ rfl rfl hZ hK hw g1 (by decide) rfl rfl hl.1 rfl (Nat.le_of_ble_eq_true rfl) ⟨Nat.zero_le _, Nat.zero_le _⟩ dX7_points_28 (fun H locs hw => ?_)
          refine lv_goto (tgt := 35) hx hb dX7_points_31 (by decide) ?_
          exact hb35 _ ih _ _ _ _ _ _ h _ _ _ hw (lv_sub hl [0, 1, 3] rfl)
  unfold f_X7_points at h
  refine lv_iconst (v := (0 : Int32)) hx hb dX7_points_0 (by decide) ?_
  refine lv_istore_n (lv' := [(2, .int (0 : Int32)), (0, .ref (ad o0)), (1, .int a1)]) hx hb dX7_points_1 rfl hl (by decide) rfl (fun ls hl => ?_)
  refine lv_iconst (v := (0 : Int32)) hx hb dX7_points_2 (by decide) ?_
  refine lv_istore_n (lv' := [(3, .int (0 : Int32)), (2, .int (0 : Int32)), (0, .ref (ad o0)), (1, .int a1)]) hx hb dX7_points_3 rfl hl (by decide) rfl (fun ls hl => ?_)
  exact hb4 1000 _ _ _ _ _ h _ _ _ hw (lv_sub hl [2, 3, 1, 0] rfl)
theorem dX7_isBarred_0 : decode cX7_isBarred 0 = .ok (.iconst 0, 1) := by decide +kernel
theorem dX7_isBarred_1 : decode cX7_isBarred 1 = .ok (.istore_n 2, 1) := by decide +kernel
theorem dX7_isBarred_2 : decode cX7_isBarred 2 = .ok (.aload_n 0, 1) := by decide +kernel
theorem dX7_isBarred_3 : decode cX7_isBarred 3 = .ok (.getfield 7, 3) := by decide +kernel
theorem dX7_isBarred_6 : decode cX7_isBarred 6 = .ok (.iconst 2, 1) := by decide +kernel
theorem dX7_isBarred_7 : decode cX7_isBarred 7 = .ok (.iaload, 1) := by decide +kernel
theorem dX7_isBarred_8 : decode cX7_isBarred 8 = .ok (.iconst 1, 1) := by decide +kernel
theorem dX7_isBarred_9 : decode cX7_isBarred 9 = .ok (.isub, 1) := by decide +kernel
theorem dX7_isBarred_10 : decode cX7_isBarred 10 = .ok (.istore_n 3, 1) := by decide +kernel
theorem dX7_isBarred_11 : decode cX7_isBarred 11 = .ok (.iload_n 3, 1) := by decide +kernel
theorem dX7_isBarred_12 : decode cX7_isBarred 12 = .ok (.ifCond .lt 43, 3) := by decide +kernel
theorem dX7_isBarred_15 : decode cX7_isBarred 15 = .ok (.iload_n 2, 1) := by decide +kernel
theorem dX7_isBarred_16 : decode cX7_isBarred 16 = .ok (.aload_n 0, 1) := by decide +kernel
theorem dX7_isBarred_17 : decode cX7_isBarred 17 = .ok (.getfield 7, 3) := by decide +kernel
theorem dX7_isBarred_20 : decode cX7_isBarred 20 = .ok (.iconst 3, 1) := by decide +kernel
theorem dX7_isBarred_21 : decode cX7_isBarred 21 = .ok (.iaload, 1) := by decide +kernel
theorem dX7_isBarred_22 : decode cX7_isBarred 22 = .ok (.if_icmp .ge 33, 3) := by decide +kernel
theorem dX7_isBarred_25 : decode cX7_isBarred 25 = .ok (.aload_n 0, 1) := by decide +kernel
theorem dX7_isBarred_26 : decode cX7_isBarred 26 = .ok (.iload_n 1, 1) := by decide +kernel
theorem dX7_isBarred_27 : decode cX7_isBarred 27 = .ok (.iload_n 3, 1) := by decide +kernel
theorem dX7_isBarred_28 : decode cX7_isBarred 28 = .ok (.invokevirtual 75, 3) := by decide +kernel
theorem dX7_isBarred_31 : decode cX7_isBarred 31 = .ok (.ifCond .eq 18, 3) := by decide +kernel
theorem dX7_isBarred_34 : decode cX7_isBarred 34 = .ok (.aload_n 0, 1) := by decide +kernel
theorem dX7_isBarred_35 : decode cX7_isBarred 35 = .ok (.iload_n 3, 1) := by decide +kernel
theorem dX7_isBarred_36 : decode cX7_isBarred 36 = .ok (.iconst 4, 1) := by decide +kernel
theorem dX7_isBarred_37 : decode cX7_isBarred 37 = .ok (.invokevirtual 71, 3) := by decide +kernel
theorem dX7_isBarred_40 : decode cX7_isBarred 40 = .ok (.iload_n 1, 1) := by decide +kernel
theorem dX7_isBarred_41 : decode cX7_isBarred 41 = .ok (.if_icmp .eq 5, 3) := by decide +kernel
theorem dX7_isBarred_44 : decode cX7_isBarred 44 = .ok (.iconst 0, 1) := by decide +kernel
theorem dX7_isBarred_45 : decode cX7_isBarred 45 = .ok (.ireturn, 1) := by decide +kernel
theorem dX7_isBarred_46 : decode cX7_isBarred 46 = .ok (.iinc 2 1, 3) := by decide +kernel
theorem dX7_isBarred_49 : decode cX7_isBarred 49 = .ok (.iinc 3 (-1), 3) := by decide +kernel
theorem dX7_isBarred_52 : decode cX7_isBarred 52 = .ok (.goto (-41), 3) := by decide +kernel
theorem dX7_isBarred_55 : decode cX7_isBarred 55 = .ok (.iload_n 2, 1) := by decide +kernel
theorem dX7_isBarred_56 : decode cX7_isBarred 56 = .ok (.aload_n 0, 1) := by decide +kernel
theorem dX7_isBarred_57 : decode cX7_isBarred 57 = .ok (.getfield 7, 3) := by decide +kernel
theorem dX7_isBarred_60 : decode cX7_isBarred 60 = .ok (.iconst 3, 1) := by decide +kernel
theorem dX7_isBarred_61 : decode cX7_isBarred 61 = .ok (.iaload, 1) := by decide +kernel
theorem dX7_isBarred_62 : decode cX7_isBarred 62 = .ok (.if_icmp .ne 7, 3) := by decide +kernel
theorem dX7_isBarred_65 : decode cX7_isBarred 65 = .ok (.iconst 1, 1) := by decide +kernel
theorem dX7_isBarred_66 : decode cX7_isBarred 66 = .ok (.goto 4, 3) := by decide +kernel
theorem dX7_isBarred_69 : decode cX7_isBarred 69 = .ok (.iconst 0, 1) := by decide +kernel
theorem dX7_isBarred_70 : decode cX7_isBarred 70 = .ok (.ireturn, 1) := by decide +kernel
set_option maxHeartbeats 4000000 in
set_option maxRecDepth 100000 in
theorem c_X7_isBarred (l : Launch) (D : va_G) (cy : Nat → ClassId) (ad adK adV : Nat → Nat) (M : Mm) (o0 : Nat) (a1 : Int32) (res : Mm × Int32) (h : f_X7_isBarred M o0 a1 = some res) : Met l yX7_isBarred (wU yX7_isBarred cX7_isBarred 4 (some .boolean)) rmX7_isBarred (va_Pc [.ref (ad o0), .int a1] (Pre D cy shM ad nM adK adV M)) (va_Qi (fun r (M2 : Mm) => r = res.2 ∧ M2 = res.1) (Pre D cy shM ad nM adK adV) (Aw ad nM)) 0 0 (Aw ad nM) := by
  refine Met.ofW (cc := cX7_isBarred) (maxL := 4) (ret := (some .boolean)) (by decide) rfl ?_
  intro p e s m args below meth c s₁ B hml hv
  obtain ⟨hargs, hPre⟩ := hv
  have hx := B.exec
  have hb := B.bytes
  have hr := B.returns
  have hts := atoms_spec (ws := wU yX7_isBarred cX7_isBarred 4 (some .boolean)) B.pre
  have hq : ∀ w ∈ gW, w.before args s = true := fun w hw => hts w (List.mem_cons_of_mem _ hw)
  have hcm : ∀ w ∈ gW, w ∈ wU yX7_isBarred cX7_isBarred 4 (some .boolean) := fun w hw => List.mem_cons_of_mem _ hw
  have hown : s.vm.findClass RX7 = some m.cls := findClass_of_methodNamed B.named
  have hlocks := B.notSynchronized
  have hF : CallFix p m c cX7_isBarred 4 s args (wU yX7_isBarred cX7_isBarred 4 (some .boolean)) RX7 := ⟨hx, hb, hml, hown, hts⟩
  have hK := hPre.2.1
  have hZ := hPre.2.2.2
  have hw : Wd D cy shM ad nM (Aw ad nM) s.heap M s.heap [] := ⟨hPre.1, hPre.2.2.1, va_S.rf⟩
  have iw7 : ∀ w ∈ u_ws RX7 TX7 30, w ∈ wU yX7_isBarred cX7_isBarred 4 (some .boolean) := fun w hw => List.mem_cons_of_mem _ (iX7 w hw)
  rw [show entryFrame m args 4 = entryFrame m ([.ref (ad o0), .int a1] : List Value).toArray 4 from by rw [hargs]]
  have hl := lv_entry ([.ref (ad o0), .int a1]) (n := 4) (Nat.le_of_ble_eq_true rfl)
  rw [lg_entry_eq]
  generalize (lg_sl ([.ref (ad o0), .int a1]) ++ List.replicate (4 - (lg_sl ([.ref (ad o0), .int a1])).length) Slot.unset).toArray = ls at hl ⊢
  have hl : lv_has ls 4 [(0, .ref (ad o0)), (1, .int a1)] := hl
  have hb55 : ∀ (M : Mm) (x0 : Nat) (x2 : Int32), f_X7_isBarred_b55 M x0 x2 = some res → ∀ (H : Heap) (locs : List Loc) (ls : Array Slot), Wd D cy shM ad nM (Aw ad nM) s.heap M H locs → lv_has ls 4 [(0, .ref (ad x0)), (2, .int x2)] → W p l e (headSpec (wU yX7_isBarred cX7_isBarred 4 (some .boolean)) rmX7_isBarred).room s m args below meth c H locs 0 0 (QI D cy shM ad nM adK adV below args s res) (F0 m 55 ls []) := by
    intro M x0 x2 h H locs ls hw hl
    unfold f_X7_isBarred_b55 at h
    refine lv_iload_n hx hb dX7_isBarred_55 rfl (lv_at hl 1 rfl) ?_
    refine lv_aload_n hx hb dX7_isBarred_56 rfl (lv_at hl 0 rfl) ?_
    replace h := gd_some h
    obtain ⟨g1, h⟩ := h
    replace h := bd_some h
    obtain ⟨q2, eq2, h⟩ := h
    refine r_getR hx hb hts iw7 hown hK hw x0 0 g1 (by decide) rfl (by decide) rfl (hq _ qw888) (fun _ h9 => h9) dX7_isBarred_57 eq2 ?_
    refine lv_iconst (v := (3 : Int32)) hx hb dX7_isBarred_60 (by decide) ?_
    replace h := gd_some h
    obtain ⟨g3, h⟩ := h
    refine r_iald hx hb hK hw q2 g3 dX7_isBarred_61 ?_
    refine lv_icmp_ne (tgt := 69) hx hb dX7_isBarred_62 (by decide) (fun c4 => ?_) (fun c4 => ?_)
    · replace h := if_some_f c4 h
      refine lv_iconst (v := (0 : Int32)) hx hb dX7_isBarred_69 (by decide) ?_
      exact r_iret hx hb hr rfl hlocks hZ hK hw h dX7_isBarred_70
    · replace h := if_some_t c4 h
      refine lv_iconst (v := (1 : Int32)) hx hb dX7_isBarred_65 (by decide) ?_
      refine lv_goto (tgt := 70) hx hb dX7_isBarred_66 (by decide) ?_
      exact r_iret hx hb hr rfl hlocks hZ hK hw h dX7_isBarred_70
  have hb49 : ∀ (k11 : Mm → Nat → Int32 → Int32 → Int32 → Option (Mm × Int32)) (hk11 : ∀ (M : Mm) (x0 : Nat) (x1 : Int32) (x2 : Int32) (x3 : Int32), k11 M x0 x1 x2 x3 = some res → ∀ (H : Heap) (locs : List Loc) (ls : Array Slot), Wd D cy shM ad nM (Aw ad nM) s.heap M H locs → lv_has ls 4 [(0, .ref (ad x0)), (1, .int x1), (2, .int x2), (3, .int x3)] → W p l e (headSpec (wU yX7_isBarred cX7_isBarred 4 (some .boolean)) rmX7_isBarred).room s m args below meth c H locs 0 0 (QI D cy shM ad nM adK adV below args s res) (F0 m 11 ls [])), ∀ (M : Mm) (x0 : Nat) (x1 : Int32) (x2 : Int32) (x3 : Int32), f_X7_isBarred_b49 k11 M x0 x1 x2 x3 = some res → ∀ (H : Heap) (locs : List Loc) (ls : Array Slot), Wd D cy shM ad nM (Aw ad nM) s.heap M H locs → lv_has ls 4 [(0, .ref (ad x0)), (1, .int x1), (2, .int x2), (3, .int x3)] → W p l e (headSpec (wU yX7_isBarred cX7_isBarred 4 (some .boolean)) rmX7_isBarred).room s m args below meth c H locs 0 0 (QI D cy shM ad nM adK adV below args s res) (F0 m 49 ls []) := by
    intro k11 hk11
    intro M x0 x1 x2 x3 h H locs ls hw hl
    unfold f_X7_isBarred_b49 at h
    refine lv_iinc (v := x3 + (-1 : Int32)) (lv' := [(3, .int (x3 + (-1 : Int32))), (0, .ref (ad x0)), (1, .int x1), (2, .int x2)]) hx hb dX7_isBarred_49 hl (k := 3) rfl (congrArg (fun z => x3 + z) (by decide)) (by decide) rfl (fun ls hl => ?_)
    refine lv_goto (tgt := 11) hx hb dX7_isBarred_52 (by decide) ?_
    exact hk11 _ _ _ _ _ h _ _ _ hw (lv_sub hl [1, 2, 3, 0] rfl)
  have hb11 : ∀ (nn : Nat), ∀ (M : Mm) (x0 : Nat) (x1 : Int32) (x2 : Int32) (x3 : Int32), f_X7_isBarred_b11 nn M x0 x1 x2 x3 = some res → ∀ (H : Heap) (locs : List Loc) (ls : Array Slot), Wd D cy shM ad nM (Aw ad nM) s.heap M H locs → lv_has ls 4 [(0, .ref (ad x0)), (1, .int x1), (2, .int x2), (3, .int x3)] → W p l e (headSpec (wU yX7_isBarred cX7_isBarred 4 (some .boolean)) rmX7_isBarred).room s m args below meth c H locs 0 0 (QI D cy shM ad nM adK adV below args s res) (F0 m 11 ls []) := by
    intro nn
    induction nn with
    | zero => intro M x0 x1 x2 x3 h; simp [f_X7_isBarred_b11] at h
    | succ nn ih =>
      intro M x0 x1 x2 x3 h H locs ls hw hl
      unfold f_X7_isBarred_b11 at h
      refine lv_iload_n hx hb dX7_isBarred_11 rfl (lv_at hl 3 rfl) ?_
      refine lv_if_lt (tgt := 55) hx hb dX7_isBarred_12 (by decide) (fun c5 => ?_) (fun c5 => ?_)
      · replace h := if_some_t c5 h
        exact hb55 _ _ _ h _ _ _ hw (lv_sub hl [0, 2] rfl)
      · replace h := if_some_f c5 h
        refine lv_iload_n hx hb dX7_isBarred_15 rfl (lv_at hl 2 rfl) ?_
        refine lv_aload_n hx hb dX7_isBarred_16 rfl (lv_at hl 0 rfl) ?_
        replace h := gd_some h
        obtain ⟨g6, h⟩ := h
        replace h := bd_some h
        obtain ⟨q7, eq7, h⟩ := h
        refine r_getR hx hb hts iw7 hown hK hw x0 0 g6 (by decide) rfl (by decide) rfl (hq _ qw888) (fun _ h9 => h9) dX7_isBarred_17 eq7 ?_
        refine lv_iconst (v := (3 : Int32)) hx hb dX7_isBarred_20 (by decide) ?_
        replace h := gd_some h
        obtain ⟨g8, h⟩ := h
        refine r_iald hx hb hK hw q7 g8 dX7_isBarred_21 ?_
        refine lv_icmp_ge (tgt := 55) hx hb dX7_isBarred_22 (by decide) (fun c9 => ?_) (fun c9 => ?_)
        · replace h := if_some_t c9 h
          exact hb55 _ _ _ h _ _ _ hw (lv_sub hl [0, 2] rfl)
        · replace h := if_some_f c9 h
          refine lv_aload_n hx hb dX7_isBarred_25 rfl (lv_at hl 0 rfl) ?_
          refine lv_iload_n hx hb dX7_isBarred_26 rfl (lv_at hl 1 rfl) ?_
          refine lv_iload_n hx hb dX7_isBarred_27 rfl (lv_at hl 3 rfl) ?_
          replace h := bd_some h
          obtain ⟨r10, er10, h⟩ := h
          refine r_callVi (As := [.int x1, .int x3]) (rest := []) hF (c_X7_plays l D cy ad adK adV M x0 x1 x3 r10 er10) (gW_goodV hcm qw1018 qw1015 qw1017 qw24 qw67) hdX7_plays rfl ⟨Nat.le_of_ble_eq_true rfl, Nat.le_of_ble_eq_true rfl⟩ rfl rfl hZ hK hw g6 (by decide) rfl rfl hl.1 rfl (Nat.le_of_ble_eq_true rfl) ⟨Nat.zero_le _, Nat.zero_le _⟩ dX7_isBarred_28 (fun H locs hw => ?_)
          refine lv_if_eq (tgt := 49) hx hb dX7_isBarred_31 (by decide) (fun c11 => ?_) (fun c11 => ?_)
          · replace h := if_some_t c11 h
            exact hb49 _ ih _ _ _ _ _ h _ _ _ hw (lv_sub hl [0, 1, 2, 3] rfl)
          · replace h := if_some_f c11 h
            refine lv_aload_n hx hb dX7_isBarred_34 rfl (lv_at hl 0 rfl) ?_
            refine lv_iload_n hx hb dX7_isBarred_35 rfl (lv_at hl 3 rfl) ?_
            refine lv_iconst (v := (4 : Int32)) hx hb dX7_isBarred_36 (by decide) ?_
            replace h := bd_some h
            obtain ⟨r12, er12, h⟩ := h
            refine r_callVi (As := [.int x3, .int (4 : Int32)]) (rest := []) hF (c_X7_of l D cy ad adK adV r10.1 x0 x3 (4 : Int32) r12 er12) (gW_goodV hcm qw1010 qw1007 qw1009 qw22 qw67) hdX7_of rfl ⟨Nat.le_of_ble_eq_true rfl, Nat.le_of_ble_eq_true rfl⟩ rfl rfl hZ hK hw g6 (by decide) rfl rfl hl.1 rfl (Nat.le_of_ble_eq_true rfl) ⟨Nat.zero_le _, Nat.zero_le _⟩ dX7_isBarred_37 (fun H locs hw => ?_)
            refine lv_iload_n hx hb dX7_isBarred_40 rfl (lv_at hl 1 rfl) ?_
            refine lv_icmp_eq (tgt := 46) hx hb dX7_isBarred_41 (by decide) (fun c13 => ?_) (fun c13 => ?_)
            · replace h := if_some_t c13 h
              refine lv_iinc (v := x2 + (1 : Int32)) (lv' := [(2, .int (x2 + (1 : Int32))), (0, .ref (ad x0)), (1, .int x1), (3, .int x3)]) hx hb dX7_isBarred_46 hl (k := 2) rfl (congrArg (fun z => x2 + z) (by decide)) (by decide) rfl (fun ls hl => ?_)
              exact hb49 _ ih _ _ _ _ _ h _ _ _ hw (lv_sub hl [1, 2, 0, 3] rfl)
            · replace h := if_some_f c13 h
              refine lv_iconst (v := (0 : Int32)) hx hb dX7_isBarred_44 (by decide) ?_
              exact r_iret hx hb hr rfl hlocks hZ hK hw h dX7_isBarred_45
  unfold f_X7_isBarred at h
  refine lv_iconst (v := (0 : Int32)) hx hb dX7_isBarred_0 (by decide) ?_
  refine lv_istore_n (lv' := [(2, .int (0 : Int32)), (0, .ref (ad o0)), (1, .int a1)]) hx hb dX7_isBarred_1 rfl hl (by decide) rfl (fun ls hl => ?_)
  refine lv_aload_n hx hb dX7_isBarred_2 rfl (lv_at hl 1 rfl) ?_
  replace h := gd_some h
  obtain ⟨g14, h⟩ := h
  replace h := bd_some h
  obtain ⟨q15, eq15, h⟩ := h
  refine r_getR hx hb hts iw7 hown hK hw o0 0 g14 (by decide) rfl (by decide) rfl (hq _ qw888) (fun _ h9 => h9) dX7_isBarred_3 eq15 ?_
  refine lv_iconst (v := (2 : Int32)) hx hb dX7_isBarred_6 (by decide) ?_
  replace h := gd_some h
  obtain ⟨g16, h⟩ := h
  refine r_iald hx hb hK hw q15 g16 dX7_isBarred_7 ?_
  refine lv_iconst (v := (1 : Int32)) hx hb dX7_isBarred_8 (by decide) ?_
  refine lv_isub hx hb dX7_isBarred_9 ?_
  refine lv_topi (fun y17 ey17 => ?_)
  replace h := lt_at ey17 h
  refine lv_istore_n (lv' := [(3, .int y17), (2, .int (0 : Int32)), (0, .ref (ad o0)), (1, .int a1)]) hx hb dX7_isBarred_10 rfl hl (by decide) rfl (fun ls hl => ?_)
  exact hb11 1000 _ _ _ _ _ h _ _ _ hw (lv_sub hl [2, 3, 1, 0] rfl)
theorem dX7_isTired_0 : decode cX7_isTired 0 = .ok (.aload_n 0, 1) := by decide +kernel
theorem dX7_isTired_1 : decode cX7_isTired 1 = .ok (.getfield 7, 3) := by decide +kernel
theorem dX7_isTired_4 : decode cX7_isTired 4 = .ok (.iconst 2, 1) := by decide +kernel
theorem dX7_isTired_5 : decode cX7_isTired 5 = .ok (.iaload, 1) := by decide +kernel
theorem dX7_isTired_6 : decode cX7_isTired 6 = .ok (.iconst 1, 1) := by decide +kernel
theorem dX7_isTired_7 : decode cX7_isTired 7 = .ok (.isub, 1) := by decide +kernel
theorem dX7_isTired_8 : decode cX7_isTired 8 = .ok (.istore_n 2, 1) := by decide +kernel
theorem dX7_isTired_9 : decode cX7_isTired 9 = .ok (.iload_n 2, 1) := by decide +kernel
theorem dX7_isTired_10 : decode cX7_isTired 10 = .ok (.ifCond .lt 50, 3) := by decide +kernel
theorem dX7_isTired_13 : decode cX7_isTired 13 = .ok (.aload_n 0, 1) := by decide +kernel
theorem dX7_isTired_14 : decode cX7_isTired 14 = .ok (.iload_n 1, 1) := by decide +kernel
theorem dX7_isTired_15 : decode cX7_isTired 15 = .ok (.iload_n 2, 1) := by decide +kernel
theorem dX7_isTired_16 : decode cX7_isTired 16 = .ok (.invokevirtual 75, 3) := by decide +kernel
theorem dX7_isTired_19 : decode cX7_isTired 19 = .ok (.ifCond .eq 35, 3) := by decide +kernel
theorem dX7_isTired_22 : decode cX7_isTired 22 = .ok (.aload_n 0, 1) := by decide +kernel
theorem dX7_isTired_23 : decode cX7_isTired 23 = .ok (.iload_n 2, 1) := by decide +kernel
theorem dX7_isTired_24 : decode cX7_isTired 24 = .ok (.iconst 5, 1) := by decide +kernel
theorem dX7_isTired_25 : decode cX7_isTired 25 = .ok (.aload_n 0, 1) := by decide +kernel
theorem dX7_isTired_26 : decode cX7_isTired 26 = .ok (.iload_n 2, 1) := by decide +kernel
theorem dX7_isTired_27 : decode cX7_isTired 27 = .ok (.iconst 0, 1) := by decide +kernel
theorem dX7_isTired_28 : decode cX7_isTired 28 = .ok (.invokevirtual 71, 3) := by decide +kernel
theorem dX7_isTired_31 : decode cX7_isTired 31 = .ok (.iload_n 1, 1) := by decide +kernel
theorem dX7_isTired_32 : decode cX7_isTired 32 = .ok (.if_icmp .ne 7, 3) := by decide +kernel
theorem dX7_isTired_35 : decode cX7_isTired 35 = .ok (.iconst 0, 1) := by decide +kernel
theorem dX7_isTired_36 : decode cX7_isTired 36 = .ok (.goto 4, 3) := by decide +kernel
theorem dX7_isTired_39 : decode cX7_isTired 39 = .ok (.iconst 1, 1) := by decide +kernel
theorem dX7_isTired_40 : decode cX7_isTired 40 = .ok (.iadd, 1) := by decide +kernel
theorem dX7_isTired_41 : decode cX7_isTired 41 = .ok (.invokevirtual 71, 3) := by decide +kernel
theorem dX7_isTired_44 : decode cX7_isTired 44 = .ok (.iconst 3, 1) := by decide +kernel
theorem dX7_isTired_45 : decode cX7_isTired 45 = .ok (.if_icmp .ne 7, 3) := by decide +kernel
theorem dX7_isTired_48 : decode cX7_isTired 48 = .ok (.iconst 1, 1) := by decide +kernel
theorem dX7_isTired_49 : decode cX7_isTired 49 = .ok (.goto 4, 3) := by decide +kernel
theorem dX7_isTired_52 : decode cX7_isTired 52 = .ok (.iconst 0, 1) := by decide +kernel
theorem dX7_isTired_53 : decode cX7_isTired 53 = .ok (.ireturn, 1) := by decide +kernel
theorem dX7_isTired_54 : decode cX7_isTired 54 = .ok (.iinc 2 (-1), 3) := by decide +kernel
theorem dX7_isTired_57 : decode cX7_isTired 57 = .ok (.goto (-48), 3) := by decide +kernel
theorem dX7_isTired_60 : decode cX7_isTired 60 = .ok (.iconst 0, 1) := by decide +kernel
theorem dX7_isTired_61 : decode cX7_isTired 61 = .ok (.ireturn, 1) := by decide +kernel
set_option maxHeartbeats 4000000 in
set_option maxRecDepth 100000 in
theorem c_X7_isTired (l : Launch) (D : va_G) (cy : Nat → ClassId) (ad adK adV : Nat → Nat) (M : Mm) (o0 : Nat) (a1 : Int32) (res : Mm × Int32) (h : f_X7_isTired M o0 a1 = some res) : Met l yX7_isTired (wU yX7_isTired cX7_isTired 3 (some .boolean)) rmX7_isTired (va_Pc [.ref (ad o0), .int a1] (Pre D cy shM ad nM adK adV M)) (va_Qi (fun r (M2 : Mm) => r = res.2 ∧ M2 = res.1) (Pre D cy shM ad nM adK adV) (Aw ad nM)) 0 0 (Aw ad nM) := by
  refine Met.ofW (cc := cX7_isTired) (maxL := 3) (ret := (some .boolean)) (by decide) rfl ?_
  intro p e s m args below meth c s₁ B hml hv
  obtain ⟨hargs, hPre⟩ := hv
  have hx := B.exec
  have hb := B.bytes
  have hr := B.returns
  have hts := atoms_spec (ws := wU yX7_isTired cX7_isTired 3 (some .boolean)) B.pre
  have hq : ∀ w ∈ gW, w.before args s = true := fun w hw => hts w (List.mem_cons_of_mem _ hw)
  have hcm : ∀ w ∈ gW, w ∈ wU yX7_isTired cX7_isTired 3 (some .boolean) := fun w hw => List.mem_cons_of_mem _ hw
  have hown : s.vm.findClass RX7 = some m.cls := findClass_of_methodNamed B.named
  have hlocks := B.notSynchronized
  have hF : CallFix p m c cX7_isTired 3 s args (wU yX7_isTired cX7_isTired 3 (some .boolean)) RX7 := ⟨hx, hb, hml, hown, hts⟩
  have hK := hPre.2.1
  have hZ := hPre.2.2.2
  have hw : Wd D cy shM ad nM (Aw ad nM) s.heap M s.heap [] := ⟨hPre.1, hPre.2.2.1, va_S.rf⟩
  have iw7 : ∀ w ∈ u_ws RX7 TX7 30, w ∈ wU yX7_isTired cX7_isTired 3 (some .boolean) := fun w hw => List.mem_cons_of_mem _ (iX7 w hw)
  rw [show entryFrame m args 3 = entryFrame m ([.ref (ad o0), .int a1] : List Value).toArray 3 from by rw [hargs]]
  have hl := lv_entry ([.ref (ad o0), .int a1]) (n := 3) (Nat.le_of_ble_eq_true rfl)
  rw [lg_entry_eq]
  generalize (lg_sl ([.ref (ad o0), .int a1]) ++ List.replicate (3 - (lg_sl ([.ref (ad o0), .int a1])).length) Slot.unset).toArray = ls at hl ⊢
  have hl : lv_has ls 3 [(0, .ref (ad o0)), (1, .int a1)] := hl
  have hb40 : ∀ (M : Mm) (t0 : Nat) (t1 : Int32) (t2 : Int32) (t3 : Int32), f_X7_isTired_b40 M t0 t1 t2 t3 = some res → ∀ (H : Heap) (locs : List Loc) (ls : Array Slot), Wd D cy shM ad nM (Aw ad nM) s.heap M H locs → lv_has ls 3 [] → W p l e (headSpec (wU yX7_isTired cX7_isTired 3 (some .boolean)) rmX7_isTired).room s m args below meth c H locs 0 0 (QI D cy shM ad nM adK adV below args s res) (F0 m 40 ls [.int t3, .int t2, .int t1, .ref (ad t0)]) := by
    intro M t0 t1 t2 t3 h H locs ls hw hl
    unfold f_X7_isTired_b40 at h
    refine lv_iadd hx hb dX7_isTired_40 ?_
    replace h := gd_some h
    obtain ⟨g2, h⟩ := h
    replace h := bd_some h
    obtain ⟨r1, er1, h⟩ := h
    refine r_callVi (As := [.int t1, .int (t2 + t3)]) (rest := []) hF (c_X7_of l D cy ad adK adV M t0 t1 (t2 + t3) r1 er1) (gW_goodV hcm qw1010 qw1007 qw1009 qw22 qw67) hdX7_of rfl ⟨Nat.le_of_ble_eq_true rfl, Nat.le_of_ble_eq_true rfl⟩ rfl rfl hZ hK hw g2 (by decide) rfl rfl hl.1 rfl (Nat.le_of_ble_eq_true rfl) ⟨Nat.zero_le _, Nat.zero_le _⟩ dX7_isTired_41 (fun H locs hw => ?_)
    refine lv_iconst (v := (3 : Int32)) hx hb dX7_isTired_44 (by decide) ?_
    refine lv_icmp_ne (tgt := 52) hx hb dX7_isTired_45 (by decide) (fun c3 => ?_) (fun c3 => ?_)
    · replace h := if_some_f c3 h
      refine lv_iconst (v := (0 : Int32)) hx hb dX7_isTired_52 (by decide) ?_
      exact r_iret hx hb hr rfl hlocks hZ hK hw h dX7_isTired_53
    · replace h := if_some_t c3 h
      refine lv_iconst (v := (1 : Int32)) hx hb dX7_isTired_48 (by decide) ?_
      refine lv_goto (tgt := 53) hx hb dX7_isTired_49 (by decide) ?_
      exact r_iret hx hb hr rfl hlocks hZ hK hw h dX7_isTired_53
  have hb9 : ∀ (nn : Nat), ∀ (M : Mm) (x0 : Nat) (x1 : Int32) (x2 : Int32), f_X7_isTired_b9 nn M x0 x1 x2 = some res → ∀ (H : Heap) (locs : List Loc) (ls : Array Slot), Wd D cy shM ad nM (Aw ad nM) s.heap M H locs → lv_has ls 3 [(0, .ref (ad x0)), (1, .int x1), (2, .int x2)] → W p l e (headSpec (wU yX7_isTired cX7_isTired 3 (some .boolean)) rmX7_isTired).room s m args below meth c H locs 0 0 (QI D cy shM ad nM adK adV below args s res) (F0 m 9 ls []) := by
    intro nn
    induction nn with
    | zero => intro M x0 x1 x2 h; simp [f_X7_isTired_b9] at h
    | succ nn ih =>
      intro M x0 x1 x2 h H locs ls hw hl
      unfold f_X7_isTired_b9 at h
      refine lv_iload_n hx hb dX7_isTired_9 rfl (lv_at hl 2 rfl) ?_
      refine lv_if_lt (tgt := 60) hx hb dX7_isTired_10 (by decide) (fun c4 => ?_) (fun c4 => ?_)
      · replace h := if_some_t c4 h
        refine lv_iconst (v := (0 : Int32)) hx hb dX7_isTired_60 (by decide) ?_
        exact r_iret hx hb hr rfl hlocks hZ hK hw h dX7_isTired_61
      · replace h := if_some_f c4 h
        refine lv_aload_n hx hb dX7_isTired_13 rfl (lv_at hl 0 rfl) ?_
        refine lv_iload_n hx hb dX7_isTired_14 rfl (lv_at hl 1 rfl) ?_
        refine lv_iload_n hx hb dX7_isTired_15 rfl (lv_at hl 2 rfl) ?_
        replace h := gd_some h
        obtain ⟨g6, h⟩ := h
        replace h := bd_some h
        obtain ⟨r5, er5, h⟩ := h
        refine r_callVi (As := [.int x1, .int x2]) (rest := []) hF (c_X7_plays l D cy ad adK adV M x0 x1 x2 r5 er5) (gW_goodV hcm qw1018 qw1015 qw1017 qw24 qw67) hdX7_plays rfl ⟨Nat.le_of_ble_eq_true rfl, Nat.le_of_ble_eq_true rfl⟩ rfl rfl hZ hK hw g6 (by decide) rfl rfl hl.1 rfl (Nat.le_of_ble_eq_true rfl) ⟨Nat.zero_le _, Nat.zero_le _⟩ dX7_isTired_16 (fun H locs hw => ?_)
        refine lv_if_eq (tgt := 54) hx hb dX7_isTired_19 (by decide) (fun c7 => ?_) (fun c7 => ?_)
        · replace h := if_some_t c7 h
          refine lv_iinc (v := x2 + (-1 : Int32)) (lv' := [(2, .int (x2 + (-1 : Int32))), (0, .ref (ad x0)), (1, .int x1)]) hx hb dX7_isTired_54 hl (k := 2) rfl (congrArg (fun z => x2 + z) (by decide)) (by decide) rfl (fun ls hl => ?_)
          refine lv_goto (tgt := 9) hx hb dX7_isTired_57 (by decide) ?_
          exact ih _ _ _ _ h _ _ _ hw (lv_sub hl [1, 2, 0] rfl)
        · replace h := if_some_f c7 h
          refine lv_aload_n hx hb dX7_isTired_22 rfl (lv_at hl 0 rfl) ?_
          refine lv_iload_n hx hb dX7_isTired_23 rfl (lv_at hl 2 rfl) ?_
          refine lv_iconst (v := (5 : Int32)) hx hb dX7_isTired_24 (by decide) ?_
          refine lv_aload_n hx hb dX7_isTired_25 rfl (lv_at hl 0 rfl) ?_
          refine lv_iload_n hx hb dX7_isTired_26 rfl (lv_at hl 2 rfl) ?_
          refine lv_iconst (v := (0 : Int32)) hx hb dX7_isTired_27 (by decide) ?_
          replace h := bd_some h
          obtain ⟨r8, er8, h⟩ := h
          refine r_callVi (As := [.int x2, .int (0 : Int32)]) (rest := [.int (5 : Int32), .int x2, .ref (ad x0)]) hF (c_X7_of l D cy ad adK adV r5.1 x0 x2 (0 : Int32) r8 er8) (gW_goodV hcm qw1010 qw1007 qw1009 qw22 qw67) hdX7_of rfl ⟨Nat.le_of_ble_eq_true rfl, Nat.le_of_ble_eq_true rfl⟩ rfl rfl hZ hK hw g6 (by decide) rfl rfl hl.1 rfl (Nat.le_of_ble_eq_true rfl) ⟨Nat.zero_le _, Nat.zero_le _⟩ dX7_isTired_28 (fun H locs hw => ?_)
          refine lv_iload_n hx hb dX7_isTired_31 rfl (lv_at hl 1 rfl) ?_
          refine lv_icmp_ne (tgt := 39) hx hb dX7_isTired_32 (by decide) (fun c9 => ?_) (fun c9 => ?_)
          · replace h := if_some_f c9 h
            refine lv_iconst (v := (1 : Int32)) hx hb dX7_isTired_39 (by decide) ?_
            exact hb40 _ _ _ _ _ h _ _ _ hw (lv_sub hl [] rfl)
          · replace h := if_some_t c9 h
            refine lv_iconst (v := (0 : Int32)) hx hb dX7_isTired_35 (by decide) ?_
            refine lv_goto (tgt := 40) hx hb dX7_isTired_36 (by decide) ?_
            exact hb40 _ _ _ _ _ h _ _ _ hw (lv_sub hl [] rfl)
  unfold f_X7_isTired at h
  refine lv_aload_n hx hb dX7_isTired_0 rfl (lv_at hl 0 rfl) ?_
  replace h := gd_some h
  obtain ⟨g10, h⟩ := h
  replace h := bd_some h
  obtain ⟨q11, eq11, h⟩ := h
  refine r_getR hx hb hts iw7 hown hK hw o0 0 g10 (by decide) rfl (by decide) rfl (hq _ qw888) (fun _ h9 => h9) dX7_isTired_1 eq11 ?_
  refine lv_iconst (v := (2 : Int32)) hx hb dX7_isTired_4 (by decide) ?_
  replace h := gd_some h
  obtain ⟨g12, h⟩ := h
  refine r_iald hx hb hK hw q11 g12 dX7_isTired_5 ?_
  refine lv_iconst (v := (1 : Int32)) hx hb dX7_isTired_6 (by decide) ?_
  refine lv_isub hx hb dX7_isTired_7 ?_
  refine lv_topi (fun y13 ey13 => ?_)
  replace h := lt_at ey13 h
  refine lv_istore_n (lv' := [(2, .int y13), (0, .ref (ad o0)), (1, .int a1)]) hx hb dX7_isTired_8 rfl hl (by decide) rfl (fun ls hl => ?_)
  exact hb9 1000 _ _ _ _ h _ _ _ hw (lv_sub hl [1, 2, 0] rfl)
theorem dX7_hasGreater_0 : decode cX7_hasGreater 0 = .ok (.iload_n 2, 1) := by decide +kernel
theorem dX7_hasGreater_1 : decode cX7_hasGreater 1 = .ok (.iconst 1, 1) := by decide +kernel
theorem dX7_hasGreater_2 : decode cX7_hasGreater 2 = .ok (.iadd, 1) := by decide +kernel
theorem dX7_hasGreater_3 : decode cX7_hasGreater 3 = .ok (.istore_n 3, 1) := by decide +kernel
theorem dX7_hasGreater_4 : decode cX7_hasGreater 4 = .ok (.iload_n 3, 1) := by decide +kernel
theorem dX7_hasGreater_5 : decode cX7_hasGreater 5 = .ok (.aload_n 0, 1) := by decide +kernel
theorem dX7_hasGreater_6 : decode cX7_hasGreater 6 = .ok (.getfield 7, 3) := by decide +kernel
theorem dX7_hasGreater_9 : decode cX7_hasGreater 9 = .ok (.iconst 1, 1) := by decide +kernel
theorem dX7_hasGreater_10 : decode cX7_hasGreater 10 = .ok (.iaload, 1) := by decide +kernel
theorem dX7_hasGreater_11 : decode cX7_hasGreater 11 = .ok (.if_icmp .ge 39, 3) := by decide +kernel
theorem dX7_hasGreater_14 : decode cX7_hasGreater 14 = .ok (.aload_n 0, 1) := by decide +kernel
theorem dX7_hasGreater_15 : decode cX7_hasGreater 15 = .ok (.iload_n 1, 1) := by decide +kernel
theorem dX7_hasGreater_16 : decode cX7_hasGreater 16 = .ok (.iload_n 3, 1) := by decide +kernel
theorem dX7_hasGreater_17 : decode cX7_hasGreater 17 = .ok (.invokevirtual 75, 3) := by decide +kernel
theorem dX7_hasGreater_20 : decode cX7_hasGreater 20 = .ok (.ifCond .eq 24, 3) := by decide +kernel
theorem dX7_hasGreater_23 : decode cX7_hasGreater 23 = .ok (.aload_n 0, 1) := by decide +kernel
theorem dX7_hasGreater_24 : decode cX7_hasGreater 24 = .ok (.iload_n 3, 1) := by decide +kernel
theorem dX7_hasGreater_25 : decode cX7_hasGreater 25 = .ok (.iconst 2, 1) := by decide +kernel
theorem dX7_hasGreater_26 : decode cX7_hasGreater 26 = .ok (.invokevirtual 71, 3) := by decide +kernel
theorem dX7_hasGreater_29 : decode cX7_hasGreater 29 = .ok (.aload_n 0, 1) := by decide +kernel
theorem dX7_hasGreater_30 : decode cX7_hasGreater 30 = .ok (.iload_n 2, 1) := by decide +kernel
theorem dX7_hasGreater_31 : decode cX7_hasGreater 31 = .ok (.iconst 2, 1) := by decide +kernel
theorem dX7_hasGreater_32 : decode cX7_hasGreater 32 = .ok (.invokevirtual 71, 3) := by decide +kernel
theorem dX7_hasGreater_35 : decode cX7_hasGreater 35 = .ok (.if_icmp .le 7, 3) := by decide +kernel
theorem dX7_hasGreater_38 : decode cX7_hasGreater 38 = .ok (.iconst 1, 1) := by decide +kernel
theorem dX7_hasGreater_39 : decode cX7_hasGreater 39 = .ok (.goto 4, 3) := by decide +kernel
theorem dX7_hasGreater_42 : decode cX7_hasGreater 42 = .ok (.iconst 0, 1) := by decide +kernel
theorem dX7_hasGreater_43 : decode cX7_hasGreater 43 = .ok (.ireturn, 1) := by decide +kernel
theorem dX7_hasGreater_44 : decode cX7_hasGreater 44 = .ok (.iinc 3 1, 3) := by decide +kernel
theorem dX7_hasGreater_47 : decode cX7_hasGreater 47 = .ok (.goto (-43), 3) := by decide +kernel
theorem dX7_hasGreater_50 : decode cX7_hasGreater 50 = .ok (.iconst 0, 1) := by decide +kernel
theorem dX7_hasGreater_51 : decode cX7_hasGreater 51 = .ok (.ireturn, 1) := by decide +kernel
set_option maxHeartbeats 4000000 in
set_option maxRecDepth 100000 in
theorem c_X7_hasGreater (l : Launch) (D : va_G) (cy : Nat → ClassId) (ad adK adV : Nat → Nat) (M : Mm) (o0 : Nat) (a1 : Int32) (a2 : Int32) (res : Mm × Int32) (h : f_X7_hasGreater M o0 a1 a2 = some res) : Met l yX7_hasGreater (wU yX7_hasGreater cX7_hasGreater 4 (some .boolean)) rmX7_hasGreater (va_Pc [.ref (ad o0), .int a1, .int a2] (Pre D cy shM ad nM adK adV M)) (va_Qi (fun r (M2 : Mm) => r = res.2 ∧ M2 = res.1) (Pre D cy shM ad nM adK adV) (Aw ad nM)) 0 0 (Aw ad nM) := by
  refine Met.ofW (cc := cX7_hasGreater) (maxL := 4) (ret := (some .boolean)) (by decide) rfl ?_
  intro p e s m args below meth c s₁ B hml hv
  obtain ⟨hargs, hPre⟩ := hv
  have hx := B.exec
  have hb := B.bytes
  have hr := B.returns
  have hts := atoms_spec (ws := wU yX7_hasGreater cX7_hasGreater 4 (some .boolean)) B.pre
  have hq : ∀ w ∈ gW, w.before args s = true := fun w hw => hts w (List.mem_cons_of_mem _ hw)
  have hcm : ∀ w ∈ gW, w ∈ wU yX7_hasGreater cX7_hasGreater 4 (some .boolean) := fun w hw => List.mem_cons_of_mem _ hw
  have hown : s.vm.findClass RX7 = some m.cls := findClass_of_methodNamed B.named
  have hlocks := B.notSynchronized
  have hF : CallFix p m c cX7_hasGreater 4 s args (wU yX7_hasGreater cX7_hasGreater 4 (some .boolean)) RX7 := ⟨hx, hb, hml, hown, hts⟩
  have hK := hPre.2.1
  have hZ := hPre.2.2.2
  have hw : Wd D cy shM ad nM (Aw ad nM) s.heap M s.heap [] := ⟨hPre.1, hPre.2.2.1, va_S.rf⟩
  have iw7 : ∀ w ∈ u_ws RX7 TX7 30, w ∈ wU yX7_hasGreater cX7_hasGreater 4 (some .boolean) := fun w hw => List.mem_cons_of_mem _ (iX7 w hw)
  rw [show entryFrame m args 4 = entryFrame m ([.ref (ad o0), .int a1, .int a2] : List Value).toArray 4 from by rw [hargs]]
  have hl := lv_entry ([.ref (ad o0), .int a1, .int a2]) (n := 4) (Nat.le_of_ble_eq_true rfl)
  rw [lg_entry_eq]
  generalize (lg_sl ([.ref (ad o0), .int a1, .int a2]) ++ List.replicate (4 - (lg_sl ([.ref (ad o0), .int a1, .int a2])).length) Slot.unset).toArray = ls at hl ⊢
  have hl : lv_has ls 4 [(0, .ref (ad o0)), (1, .int a1), (2, .int a2)] := hl
  have hb4 : ∀ (nn : Nat), ∀ (M : Mm) (x0 : Nat) (x1 : Int32) (x2 : Int32) (x3 : Int32), f_X7_hasGreater_b4 nn M x0 x1 x2 x3 = some res → ∀ (H : Heap) (locs : List Loc) (ls : Array Slot), Wd D cy shM ad nM (Aw ad nM) s.heap M H locs → lv_has ls 4 [(0, .ref (ad x0)), (1, .int x1), (2, .int x2), (3, .int x3)] → W p l e (headSpec (wU yX7_hasGreater cX7_hasGreater 4 (some .boolean)) rmX7_hasGreater).room s m args below meth c H locs 0 0 (QI D cy shM ad nM adK adV below args s res) (F0 m 4 ls []) := by
    intro nn
    induction nn with
    | zero => intro M x0 x1 x2 x3 h; simp [f_X7_hasGreater_b4] at h
    | succ nn ih =>
      intro M x0 x1 x2 x3 h H locs ls hw hl
      unfold f_X7_hasGreater_b4 at h
      refine lv_iload_n hx hb dX7_hasGreater_4 rfl (lv_at hl 3 rfl) ?_
      refine lv_aload_n hx hb dX7_hasGreater_5 rfl (lv_at hl 0 rfl) ?_
      replace h := gd_some h
      obtain ⟨g1, h⟩ := h
      replace h := bd_some h
      obtain ⟨q2, eq2, h⟩ := h
      refine r_getR hx hb hts iw7 hown hK hw x0 0 g1 (by decide) rfl (by decide) rfl (hq _ qw888) (fun _ h9 => h9) dX7_hasGreater_6 eq2 ?_
      refine lv_iconst (v := (1 : Int32)) hx hb dX7_hasGreater_9 (by decide) ?_
      replace h := gd_some h
      obtain ⟨g3, h⟩ := h
      refine r_iald hx hb hK hw q2 g3 dX7_hasGreater_10 ?_
      refine lv_icmp_ge (tgt := 50) hx hb dX7_hasGreater_11 (by decide) (fun c4 => ?_) (fun c4 => ?_)
      · replace h := if_some_t c4 h
        refine lv_iconst (v := (0 : Int32)) hx hb dX7_hasGreater_50 (by decide) ?_
        exact r_iret hx hb hr rfl hlocks hZ hK hw h dX7_hasGreater_51
      · replace h := if_some_f c4 h
        refine lv_aload_n hx hb dX7_hasGreater_14 rfl (lv_at hl 0 rfl) ?_
        refine lv_iload_n hx hb dX7_hasGreater_15 rfl (lv_at hl 1 rfl) ?_
        refine lv_iload_n hx hb dX7_hasGreater_16 rfl (lv_at hl 3 rfl) ?_
        replace h := bd_some h
        obtain ⟨r5, er5, h⟩ := h
        refine r_callVi (As := [.int x1, .int x3]) (rest := []) hF (c_X7_plays l D cy ad adK adV M x0 x1 x3 r5 er5) (gW_goodV hcm qw1018 qw1015 qw1017 qw24 qw67) hdX7_plays rfl ⟨Nat.le_of_ble_eq_true rfl, Nat.le_of_ble_eq_true rfl⟩ rfl rfl hZ hK hw g1 (by decide) rfl rfl hl.1 rfl (Nat.le_of_ble_eq_true rfl) ⟨Nat.zero_le _, Nat.zero_le _⟩ dX7_hasGreater_17 (fun H locs hw => ?_)
        refine lv_if_eq (tgt := 44) hx hb dX7_hasGreater_20 (by decide) (fun c6 => ?_) (fun c6 => ?_)
        · replace h := if_some_t c6 h
          refine lv_iinc (v := x3 + (1 : Int32)) (lv' := [(3, .int (x3 + (1 : Int32))), (0, .ref (ad x0)), (1, .int x1), (2, .int x2)]) hx hb dX7_hasGreater_44 hl (k := 3) rfl (congrArg (fun z => x3 + z) (by decide)) (by decide) rfl (fun ls hl => ?_)
          refine lv_goto (tgt := 4) hx hb dX7_hasGreater_47 (by decide) ?_
          exact ih _ _ _ _ _ h _ _ _ hw (lv_sub hl [1, 2, 3, 0] rfl)
        · replace h := if_some_f c6 h
          refine lv_aload_n hx hb dX7_hasGreater_23 rfl (lv_at hl 0 rfl) ?_
          refine lv_iload_n hx hb dX7_hasGreater_24 rfl (lv_at hl 3 rfl) ?_
          refine lv_iconst (v := (2 : Int32)) hx hb dX7_hasGreater_25 (by decide) ?_
          replace h := bd_some h
          obtain ⟨r7, er7, h⟩ := h
          refine r_callVi (As := [.int x3, .int (2 : Int32)]) (rest := []) hF (c_X7_of l D cy ad adK adV r5.1 x0 x3 (2 : Int32) r7 er7) (gW_goodV hcm qw1010 qw1007 qw1009 qw22 qw67) hdX7_of rfl ⟨Nat.le_of_ble_eq_true rfl, Nat.le_of_ble_eq_true rfl⟩ rfl rfl hZ hK hw g1 (by decide) rfl rfl hl.1 rfl (Nat.le_of_ble_eq_true rfl) ⟨Nat.zero_le _, Nat.zero_le _⟩ dX7_hasGreater_26 (fun H locs hw => ?_)
          refine lv_aload_n hx hb dX7_hasGreater_29 rfl (lv_at hl 0 rfl) ?_
          refine lv_iload_n hx hb dX7_hasGreater_30 rfl (lv_at hl 2 rfl) ?_
          refine lv_iconst (v := (2 : Int32)) hx hb dX7_hasGreater_31 (by decide) ?_
          replace h := bd_some h
          obtain ⟨r8, er8, h⟩ := h
          refine r_callVi (As := [.int x2, .int (2 : Int32)]) (rest := [.int r7.2]) hF (c_X7_of l D cy ad adK adV r7.1 x0 x2 (2 : Int32) r8 er8) (gW_goodV hcm qw1010 qw1007 qw1009 qw22 qw67) hdX7_of rfl ⟨Nat.le_of_ble_eq_true rfl, Nat.le_of_ble_eq_true rfl⟩ rfl rfl hZ hK hw g1 (by decide) rfl rfl hl.1 rfl (Nat.le_of_ble_eq_true rfl) ⟨Nat.zero_le _, Nat.zero_le _⟩ dX7_hasGreater_32 (fun H locs hw => ?_)
          refine lv_icmp_le (tgt := 42) hx hb dX7_hasGreater_35 (by decide) (fun c9 => ?_) (fun c9 => ?_)
          · replace h := if_some_t c9 h
            refine lv_iconst (v := (0 : Int32)) hx hb dX7_hasGreater_42 (by decide) ?_
            exact r_iret hx hb hr rfl hlocks hZ hK hw h dX7_hasGreater_43
          · replace h := if_some_f c9 h
            refine lv_iconst (v := (1 : Int32)) hx hb dX7_hasGreater_38 (by decide) ?_
            refine lv_goto (tgt := 43) hx hb dX7_hasGreater_39 (by decide) ?_
            exact r_iret hx hb hr rfl hlocks hZ hK hw h dX7_hasGreater_43
  unfold f_X7_hasGreater at h
  refine lv_iload_n hx hb dX7_hasGreater_0 rfl (lv_at hl 2 rfl) ?_
  refine lv_iconst (v := (1 : Int32)) hx hb dX7_hasGreater_1 (by decide) ?_
  refine lv_iadd hx hb dX7_hasGreater_2 ?_
  refine lv_istore_n (lv' := [(3, .int (a2 + (1 : Int32))), (0, .ref (ad o0)), (1, .int a1), (2, .int a2)]) hx hb dX7_hasGreater_3 rfl hl (by decide) rfl (fun ls hl => ?_)
  exact hb4 1000 _ _ _ _ _ h _ _ _ hw (lv_sub hl [1, 2, 3, 0] rfl)
theorem dX7_effort_0 : decode cX7_effort 0 = .ok (.aload_n 0, 1) := by decide +kernel
theorem dX7_effort_1 : decode cX7_effort 1 = .ok (.getfield 22, 3) := by decide +kernel
theorem dX7_effort_4 : decode cX7_effort 4 = .ok (.iload_n 2, 1) := by decide +kernel
theorem dX7_effort_5 : decode cX7_effort 5 = .ok (.if_icmp .ne 16, 3) := by decide +kernel
theorem dX7_effort_8 : decode cX7_effort 8 = .ok (.aload_n 0, 1) := by decide +kernel
theorem dX7_effort_9 : decode cX7_effort 9 = .ok (.getfield 79, 3) := by decide +kernel
theorem dX7_effort_12 : decode cX7_effort 12 = .ok (.iload_n 1, 1) := by decide +kernel
theorem dX7_effort_13 : decode cX7_effort 13 = .ok (.if_icmp .ne 8, 3) := by decide +kernel
theorem dX7_effort_16 : decode cX7_effort 16 = .ok (.aload_n 0, 1) := by decide +kernel
theorem dX7_effort_17 : decode cX7_effort 17 = .ok (.getfield 82, 3) := by decide +kernel
theorem dX7_effort_20 : decode cX7_effort 20 = .ok (.ireturn, 1) := by decide +kernel
theorem dX7_effort_21 : decode cX7_effort 21 = .ok (.aload_n 0, 1) := by decide +kernel
theorem dX7_effort_22 : decode cX7_effort 22 = .ok (.iload_n 1, 1) := by decide +kernel
theorem dX7_effort_23 : decode cX7_effort 23 = .ok (.invokevirtual 85, 3) := by decide +kernel
theorem dX7_effort_26 : decode cX7_effort 26 = .ok (.istore_n 3, 1) := by decide +kernel
theorem dX7_effort_27 : decode cX7_effort 27 = .ok (.iload_n 3, 1) := by decide +kernel
theorem dX7_effort_28 : decode cX7_effort 28 = .ok (.ifCond .eq 7, 3) := by decide +kernel
theorem dX7_effort_31 : decode cX7_effort 31 = .ok (.iconst 1, 1) := by decide +kernel
theorem dX7_effort_32 : decode cX7_effort 32 = .ok (.goto 4, 3) := by decide +kernel
theorem dX7_effort_35 : decode cX7_effort 35 = .ok (.iconst 2, 1) := by decide +kernel
theorem dX7_effort_36 : decode cX7_effort 36 = .ok (.istore 4, 2) := by decide +kernel
theorem dX7_effort_38 : decode cX7_effort 38 = .ok (.aload_n 0, 1) := by decide +kernel
theorem dX7_effort_39 : decode cX7_effort 39 = .ok (.iload_n 1, 1) := by decide +kernel
theorem dX7_effort_40 : decode cX7_effort 40 = .ok (.iconst 0, 1) := by decide +kernel
theorem dX7_effort_41 : decode cX7_effort 41 = .ok (.invokevirtual 89, 3) := by decide +kernel
theorem dX7_effort_44 : decode cX7_effort 44 = .ok (.tableswitch 158 1 6 #[40, 42, 45, 96, 116, 137], 40) := by decide +kernel
theorem dX7_effort_84 : decode cX7_effort 84 = .ok (.iconst 3, 1) := by decide +kernel
theorem dX7_effort_85 : decode cX7_effort 85 = .ok (.ireturn, 1) := by decide +kernel
theorem dX7_effort_86 : decode cX7_effort 86 = .ok (.iload 4, 2) := by decide +kernel
theorem dX7_effort_88 : decode cX7_effort 88 = .ok (.ireturn, 1) := by decide +kernel
theorem dX7_effort_89 : decode cX7_effort 89 = .ok (.aload_n 0, 1) := by decide +kernel
theorem dX7_effort_90 : decode cX7_effort 90 = .ok (.iload_n 2, 1) := by decide +kernel
theorem dX7_effort_91 : decode cX7_effort 91 = .ok (.iconst 0, 1) := by decide +kernel
theorem dX7_effort_92 : decode cX7_effort 92 = .ok (.invokevirtual 71, 3) := by decide +kernel
theorem dX7_effort_95 : decode cX7_effort 95 = .ok (.iload_n 1, 1) := by decide +kernel
theorem dX7_effort_96 : decode cX7_effort 96 = .ok (.if_icmp .ne 12, 3) := by decide +kernel
theorem dX7_effort_99 : decode cX7_effort 99 = .ok (.aload_n 0, 1) := by decide +kernel
theorem dX7_effort_100 : decode cX7_effort 100 = .ok (.iload_n 2, 1) := by decide +kernel
theorem dX7_effort_101 : decode cX7_effort 101 = .ok (.iconst 1, 1) := by decide +kernel
theorem dX7_effort_102 : decode cX7_effort 102 = .ok (.invokevirtual 71, 3) := by decide +kernel
theorem dX7_effort_105 : decode cX7_effort 105 = .ok (.goto 9, 3) := by decide +kernel
theorem dX7_effort_108 : decode cX7_effort 108 = .ok (.aload_n 0, 1) := by decide +kernel
theorem dX7_effort_109 : decode cX7_effort 109 = .ok (.iload_n 2, 1) := by decide +kernel
theorem dX7_effort_110 : decode cX7_effort 110 = .ok (.iconst 0, 1) := by decide +kernel
theorem dX7_effort_111 : decode cX7_effort 111 = .ok (.invokevirtual 71, 3) := by decide +kernel
theorem dX7_effort_114 : decode cX7_effort 114 = .ok (.istore 5, 2) := by decide +kernel
theorem dX7_effort_116 : decode cX7_effort 116 = .ok (.iload_n 3, 1) := by decide +kernel
theorem dX7_effort_117 : decode cX7_effort 117 = .ok (.ifCond .eq 7, 3) := by decide +kernel
theorem dX7_effort_120 : decode cX7_effort 120 = .ok (.iconst 0, 1) := by decide +kernel
theorem dX7_effort_121 : decode cX7_effort 121 = .ok (.goto 18, 3) := by decide +kernel
theorem dX7_effort_124 : decode cX7_effort 124 = .ok (.aload_n 0, 1) := by decide +kernel
theorem dX7_effort_125 : decode cX7_effort 125 = .ok (.iload 5, 2) := by decide +kernel
theorem dX7_effort_127 : decode cX7_effort 127 = .ok (.invokevirtual 85, 3) := by decide +kernel
theorem dX7_effort_130 : decode cX7_effort 130 = .ok (.ifCond .eq 7, 3) := by decide +kernel
theorem dX7_effort_133 : decode cX7_effort 133 = .ok (.iconst 3, 1) := by decide +kernel
theorem dX7_effort_134 : decode cX7_effort 134 = .ok (.goto 5, 3) := by decide +kernel
theorem dX7_effort_137 : decode cX7_effort 137 = .ok (.iload 4, 2) := by decide +kernel
theorem dX7_effort_139 : decode cX7_effort 139 = .ok (.ireturn, 1) := by decide +kernel
theorem dX7_effort_140 : decode cX7_effort 140 = .ok (.iload_n 3, 1) := by decide +kernel
theorem dX7_effort_141 : decode cX7_effort 141 = .ok (.ifCond .ne 16, 3) := by decide +kernel
theorem dX7_effort_144 : decode cX7_effort 144 = .ok (.aload_n 0, 1) := by decide +kernel
theorem dX7_effort_145 : decode cX7_effort 145 = .ok (.iload_n 1, 1) := by decide +kernel
theorem dX7_effort_146 : decode cX7_effort 146 = .ok (.iload_n 2, 1) := by decide +kernel
theorem dX7_effort_147 : decode cX7_effort 147 = .ok (.invokevirtual 92, 3) := by decide +kernel
theorem dX7_effort_150 : decode cX7_effort 150 = .ok (.ifCond .eq 7, 3) := by decide +kernel
theorem dX7_effort_153 : decode cX7_effort 153 = .ok (.iconst 0, 1) := by decide +kernel
theorem dX7_effort_154 : decode cX7_effort 154 = .ok (.goto 5, 3) := by decide +kernel
theorem dX7_effort_157 : decode cX7_effort 157 = .ok (.iload 4, 2) := by decide +kernel
theorem dX7_effort_159 : decode cX7_effort 159 = .ok (.ireturn, 1) := by decide +kernel
theorem dX7_effort_160 : decode cX7_effort 160 = .ok (.aload_n 0, 1) := by decide +kernel
theorem dX7_effort_161 : decode cX7_effort 161 = .ok (.iload_n 2, 1) := by decide +kernel
theorem dX7_effort_162 : decode cX7_effort 162 = .ok (.iconst 2, 1) := by decide +kernel
theorem dX7_effort_163 : decode cX7_effort 163 = .ok (.invokevirtual 71, 3) := by decide +kernel
theorem dX7_effort_166 : decode cX7_effort 166 = .ok (.aload_n 0, 1) := by decide +kernel
theorem dX7_effort_167 : decode cX7_effort 167 = .ok (.iload_n 1, 1) := by decide +kernel
theorem dX7_effort_168 : decode cX7_effort 168 = .ok (.iconst 2, 1) := by decide +kernel
theorem dX7_effort_169 : decode cX7_effort 169 = .ok (.invokevirtual 89, 3) := by decide +kernel
theorem dX7_effort_172 : decode cX7_effort 172 = .ok (.if_icmp .ge 7, 3) := by decide +kernel
theorem dX7_effort_175 : decode cX7_effort 175 = .ok (.iconst 0, 1) := by decide +kernel
theorem dX7_effort_176 : decode cX7_effort 176 = .ok (.goto 4, 3) := by decide +kernel
theorem dX7_effort_179 : decode cX7_effort 179 = .ok (.iconst 3, 1) := by decide +kernel
theorem dX7_effort_180 : decode cX7_effort 180 = .ok (.ireturn, 1) := by decide +kernel
theorem dX7_effort_181 : decode cX7_effort 181 = .ok (.aload_n 0, 1) := by decide +kernel
theorem dX7_effort_182 : decode cX7_effort 182 = .ok (.iload_n 1, 1) := by decide +kernel
theorem dX7_effort_183 : decode cX7_effort 183 = .ok (.iconst 2, 1) := by decide +kernel
theorem dX7_effort_184 : decode cX7_effort 184 = .ok (.invokevirtual 89, 3) := by decide +kernel
theorem dX7_effort_187 : decode cX7_effort 187 = .ok (.iconst 3, 1) := by decide +kernel
theorem dX7_effort_188 : decode cX7_effort 188 = .ok (.if_icmp .le 7, 3) := by decide +kernel
theorem dX7_effort_191 : decode cX7_effort 191 = .ok (.iconst 3, 1) := by decide +kernel
theorem dX7_effort_192 : decode cX7_effort 192 = .ok (.goto 9, 3) := by decide +kernel
theorem dX7_effort_195 : decode cX7_effort 195 = .ok (.aload_n 0, 1) := by decide +kernel
theorem dX7_effort_196 : decode cX7_effort 196 = .ok (.iload_n 1, 1) := by decide +kernel
theorem dX7_effort_197 : decode cX7_effort 197 = .ok (.iconst 2, 1) := by decide +kernel
theorem dX7_effort_198 : decode cX7_effort 198 = .ok (.invokevirtual 89, 3) := by decide +kernel
theorem dX7_effort_201 : decode cX7_effort 201 = .ok (.ireturn, 1) := by decide +kernel
theorem dX7_effort_202 : decode cX7_effort 202 = .ok (.iconst 2, 1) := by decide +kernel
theorem dX7_effort_203 : decode cX7_effort 203 = .ok (.ireturn, 1) := by decide +kernel
set_option maxHeartbeats 4000000 in
set_option maxRecDepth 100000 in
theorem c_X7_effort (l : Launch) (D : va_G) (cy : Nat → ClassId) (ad adK adV : Nat → Nat) (M : Mm) (o0 : Nat) (a1 : Int32) (a2 : Int32) (res : Mm × Int32) (h : f_X7_effort M o0 a1 a2 = some res) : Met l yX7_effort (wU yX7_effort cX7_effort 6 (some .int)) rmX7_effort (va_Pc [.ref (ad o0), .int a1, .int a2] (Pre D cy shM ad nM adK adV M)) (va_Qi (fun r (M2 : Mm) => r = res.2 ∧ M2 = res.1) (Pre D cy shM ad nM adK adV) (Aw ad nM)) 0 0 (Aw ad nM) := by
  refine Met.ofW (cc := cX7_effort) (maxL := 6) (ret := (some .int)) (by decide) rfl ?_
  intro p e s m args below meth c s₁ B hml hv
  obtain ⟨hargs, hPre⟩ := hv
  have hx := B.exec
  have hb := B.bytes
  have hr := B.returns
  have hts := atoms_spec (ws := wU yX7_effort cX7_effort 6 (some .int)) B.pre
  have hq : ∀ w ∈ gW, w.before args s = true := fun w hw => hts w (List.mem_cons_of_mem _ hw)
  have hcm : ∀ w ∈ gW, w ∈ wU yX7_effort cX7_effort 6 (some .int) := fun w hw => List.mem_cons_of_mem _ hw
  have hown : s.vm.findClass RX7 = some m.cls := findClass_of_methodNamed B.named
  have hlocks := B.notSynchronized
  have hF : CallFix p m c cX7_effort 6 s args (wU yX7_effort cX7_effort 6 (some .int)) RX7 := ⟨hx, hb, hml, hown, hts⟩
  have hK := hPre.2.1
  have hZ := hPre.2.2.2
  have hw : Wd D cy shM ad nM (Aw ad nM) s.heap M s.heap [] := ⟨hPre.1, hPre.2.2.1, va_S.rf⟩
  have iw7 : ∀ w ∈ u_ws RX7 TX7 30, w ∈ wU yX7_effort cX7_effort 6 (some .int) := fun w hw => List.mem_cons_of_mem _ (iX7 w hw)
  rw [show entryFrame m args 6 = entryFrame m ([.ref (ad o0), .int a1, .int a2] : List Value).toArray 6 from by rw [hargs]]
  have hl := lv_entry ([.ref (ad o0), .int a1, .int a2]) (n := 6) (Nat.le_of_ble_eq_true rfl)
  rw [lg_entry_eq]
  generalize (lg_sl ([.ref (ad o0), .int a1, .int a2]) ++ List.replicate (6 - (lg_sl ([.ref (ad o0), .int a1, .int a2])).length) Slot.unset).toArray = ls at hl ⊢
  have hl : lv_has ls 6 [(0, .ref (ad o0)), (1, .int a1), (2, .int a2)] := hl
  have hb114 : ∀ (M : Mm) (x0 : Nat) (x3 : Int32) (x4 : Int32) (t0 : Int32), f_X7_effort_b114 M x0 x3 x4 t0 = some res → ∀ (H : Heap) (locs : List Loc) (ls : Array Slot), Wd D cy shM ad nM (Aw ad nM) s.heap M H locs → lv_has ls 6 [(0, .ref (ad x0)), (3, .int x3), (4, .int x4)] → W p l e (headSpec (wU yX7_effort cX7_effort 6 (some .int)) rmX7_effort).room s m args below meth c H locs 0 0 (QI D cy shM ad nM adK adV below args s res) (F0 m 114 ls [.int t0]) := by
    intro M x0 x3 x4 t0 h H locs ls hw hl
    unfold f_X7_effort_b114 at h
    refine lv_istore (lv' := [(5, .int t0), (0, .ref (ad x0)), (3, .int x3), (4, .int x4)]) hx hb dX7_effort_114 hl (by decide) rfl (fun ls hl => ?_)
    refine lv_iload_n hx hb dX7_effort_116 rfl (lv_at hl 2 rfl) ?_
    refine lv_if_eq (tgt := 124) hx hb dX7_effort_117 (by decide) (fun c1 => ?_) (fun c1 => ?_)
    · replace h := if_some_t c1 h
      refine lv_aload_n hx hb dX7_effort_124 rfl (lv_at hl 1 rfl) ?_
      refine lv_iload hx hb dX7_effort_125 (lv_at hl 0 rfl) ?_
      replace h := gd_some h
      obtain ⟨g3, h⟩ := h
      replace h := bd_some h
      obtain ⟨r2, er2, h⟩ := h
      refine r_callVi (As := [.int t0]) (rest := []) hF (c_X7_isBarred l D cy ad adK adV M x0 t0 r2 er2) (gW_goodV hcm qw1014 qw1011 qw1013 qw23 qw67) hdX7_isBarred rfl ⟨Nat.le_of_ble_eq_true rfl, Nat.le_of_ble_eq_true rfl⟩ rfl rfl hZ hK hw g3 (by decide) rfl rfl hl.1 rfl (Nat.le_of_ble_eq_true rfl) ⟨Nat.zero_le _, Nat.zero_le _⟩ dX7_effort_127 (fun H locs hw => ?_)
      refine lv_if_eq (tgt := 137) hx hb dX7_effort_130 (by decide) (fun c4 => ?_) (fun c4 => ?_)
      · replace h := if_some_t c4 h
        refine lv_iload hx hb dX7_effort_137 (lv_at hl 3 rfl) ?_
        exact r_iret hx hb hr rfl hlocks hZ hK hw h dX7_effort_139
      · replace h := if_some_f c4 h
        refine lv_iconst (v := (3 : Int32)) hx hb dX7_effort_133 (by decide) ?_
        refine lv_goto (tgt := 139) hx hb dX7_effort_134 (by decide) ?_
        exact r_iret hx hb hr rfl hlocks hZ hK hw h dX7_effort_139
    · replace h := if_some_f c1 h
      refine lv_iconst (v := (0 : Int32)) hx hb dX7_effort_120 (by decide) ?_
      refine lv_goto (tgt := 139) hx hb dX7_effort_121 (by decide) ?_
      exact r_iret hx hb hr rfl hlocks hZ hK hw h dX7_effort_139
  have hb36 : ∀ (M : Mm) (x0 : Nat) (x1 : Int32) (x2 : Int32) (x3 : Int32) (t0 : Int32), f_X7_effort_b36 M x0 x1 x2 x3 t0 = some res → ∀ (H : Heap) (locs : List Loc) (ls : Array Slot), Wd D cy shM ad nM (Aw ad nM) s.heap M H locs → lv_has ls 6 [(0, .ref (ad x0)), (1, .int x1), (2, .int x2), (3, .int x3)] → W p l e (headSpec (wU yX7_effort cX7_effort 6 (some .int)) rmX7_effort).room s m args below meth c H locs 0 0 (QI D cy shM ad nM adK adV below args s res) (F0 m 36 ls [.int t0]) := by
    intro M x0 x1 x2 x3 t0 h H locs ls hw hl
    unfold f_X7_effort_b36 at h
    refine lv_istore (lv' := [(4, .int t0), (0, .ref (ad x0)), (1, .int x1), (2, .int x2), (3, .int x3)]) hx hb dX7_effort_36 hl (by decide) rfl (fun ls hl => ?_)
    refine lv_aload_n hx hb dX7_effort_38 rfl (lv_at hl 1 rfl) ?_
    refine lv_iload_n hx hb dX7_effort_39 rfl (lv_at hl 2 rfl) ?_
    refine lv_iconst (v := (0 : Int32)) hx hb dX7_effort_40 (by decide) ?_
    replace h := gd_some h
    obtain ⟨g6, h⟩ := h
    replace h := bd_some h
    obtain ⟨r5, er5, h⟩ := h
    refine r_callVi (As := [.int x1, .int (0 : Int32)]) (rest := []) hF (c_X7_its l D cy ad adK adV M x0 x1 (0 : Int32) r5 er5) (gW_goodV hcm qw1030 qw1027 qw1029 qw27 qw67) hdX7_its rfl ⟨Nat.le_of_ble_eq_true rfl, Nat.le_of_ble_eq_true rfl⟩ rfl rfl hZ hK hw g6 (by decide) rfl rfl hl.1 rfl (Nat.le_of_ble_eq_true rfl) ⟨Nat.zero_le _, Nat.zero_le _⟩ dX7_effort_41 (fun H locs hw => ?_)
    by_cases s7 : r5.2 = 1
    · replace h := if_some_t s7 h
      refine lv_tableIn (off := 40) (tgt := 84) hx hb dX7_effort_44 (by rw [s7]; decide) (by rw [s7]; decide) (by rw [s7]; decide) (by decide) ?_
      refine lv_iconst (v := (3 : Int32)) hx hb dX7_effort_84 (by decide) ?_
      exact r_iret hx hb hr rfl hlocks hZ hK hw h dX7_effort_85
    replace h := if_some_f s7 h
    by_cases s8 : r5.2 = 2
    · replace h := if_some_t s8 h
      refine lv_tableIn (off := 42) (tgt := 86) hx hb dX7_effort_44 (by rw [s8]; decide) (by rw [s8]; decide) (by rw [s8]; decide) (by decide) ?_
      refine lv_iload hx hb dX7_effort_86 (lv_at hl 0 rfl) ?_
      exact r_iret hx hb hr rfl hlocks hZ hK hw h dX7_effort_88
    replace h := if_some_f s8 h
    by_cases s9 : r5.2 = 3
    · replace h := if_some_t s9 h
      refine lv_tableIn (off := 45) (tgt := 89) hx hb dX7_effort_44 (by rw [s9]; decide) (by rw [s9]; decide) (by rw [s9]; decide) (by decide) ?_
      refine lv_aload_n hx hb dX7_effort_89 rfl (lv_at hl 1 rfl) ?_
      refine lv_iload_n hx hb dX7_effort_90 rfl (lv_at hl 3 rfl) ?_
      refine lv_iconst (v := (0 : Int32)) hx hb dX7_effort_91 (by decide) ?_
      replace h := bd_some h
      obtain ⟨r10, er10, h⟩ := h
      refine r_callVi (As := [.int x2, .int (0 : Int32)]) (rest := []) hF (c_X7_of l D cy ad adK adV r5.1 x0 x2 (0 : Int32) r10 er10) (gW_goodV hcm qw1010 qw1007 qw1009 qw22 qw67) hdX7_of rfl ⟨Nat.le_of_ble_eq_true rfl, Nat.le_of_ble_eq_true rfl⟩ rfl rfl hZ hK hw g6 (by decide) rfl rfl hl.1 rfl (Nat.le_of_ble_eq_true rfl) ⟨Nat.zero_le _, Nat.zero_le _⟩ dX7_effort_92 (fun H locs hw => ?_)
      refine lv_iload_n hx hb dX7_effort_95 rfl (lv_at hl 2 rfl) ?_
      refine lv_icmp_ne (tgt := 108) hx hb dX7_effort_96 (by decide) (fun c11 => ?_) (fun c11 => ?_)
      · replace h := if_some_f c11 h
        refine lv_aload_n hx hb dX7_effort_108 rfl (lv_at hl 1 rfl) ?_
        refine lv_iload_n hx hb dX7_effort_109 rfl (lv_at hl 3 rfl) ?_
        refine lv_iconst (v := (0 : Int32)) hx hb dX7_effort_110 (by decide) ?_
        replace h := bd_some h
        obtain ⟨r12, er12, h⟩ := h
        refine r_callVi (As := [.int x2, .int (0 : Int32)]) (rest := []) hF (c_X7_of l D cy ad adK adV r10.1 x0 x2 (0 : Int32) r12 er12) (gW_goodV hcm qw1010 qw1007 qw1009 qw22 qw67) hdX7_of rfl ⟨Nat.le_of_ble_eq_true rfl, Nat.le_of_ble_eq_true rfl⟩ rfl rfl hZ hK hw g6 (by decide) rfl rfl hl.1 rfl (Nat.le_of_ble_eq_true rfl) ⟨Nat.zero_le _, Nat.zero_le _⟩ dX7_effort_111 (fun H locs hw => ?_)
        exact hb114 _ _ _ _ _ h _ _ _ hw (lv_sub hl [1, 4, 0] rfl)
      · replace h := if_some_t c11 h
        refine lv_aload_n hx hb dX7_effort_99 rfl (lv_at hl 1 rfl) ?_
        refine lv_iload_n hx hb dX7_effort_100 rfl (lv_at hl 3 rfl) ?_
        refine lv_iconst (v := (1 : Int32)) hx hb dX7_effort_101 (by decide) ?_
        replace h := bd_some h
        obtain ⟨r13, er13, h⟩ := h
        refine r_callVi (As := [.int x2, .int (1 : Int32)]) (rest := []) hF (c_X7_of l D cy ad adK adV r10.1 x0 x2 (1 : Int32) r13 er13) (gW_goodV hcm qw1010 qw1007 qw1009 qw22 qw67) hdX7_of rfl ⟨Nat.le_of_ble_eq_true rfl, Nat.le_of_ble_eq_true rfl⟩ rfl rfl hZ hK hw g6 (by decide) rfl rfl hl.1 rfl (Nat.le_of_ble_eq_true rfl) ⟨Nat.zero_le _, Nat.zero_le _⟩ dX7_effort_102 (fun H locs hw => ?_)
        refine lv_goto (tgt := 114) hx hb dX7_effort_105 (by decide) ?_
        exact hb114 _ _ _ _ _ h _ _ _ hw (lv_sub hl [1, 4, 0] rfl)
    replace h := if_some_f s9 h
    by_cases s14 : r5.2 = 4
    · replace h := if_some_t s14 h
      refine lv_tableIn (off := 96) (tgt := 140) hx hb dX7_effort_44 (by rw [s14]; decide) (by rw [s14]; decide) (by rw [s14]; decide) (by decide) ?_
      refine lv_iload_n hx hb dX7_effort_140 rfl (lv_at hl 4 rfl) ?_
      refine lv_if_ne (tgt := 157) hx hb dX7_effort_141 (by decide) (fun c15 => ?_) (fun c15 => ?_)
      · replace h := if_some_f c15 h
        refine lv_iload hx hb dX7_effort_157 (lv_at hl 0 rfl) ?_
        exact r_iret hx hb hr rfl hlocks hZ hK hw h dX7_effort_159
      · replace h := if_some_t c15 h
        refine lv_aload_n hx hb dX7_effort_144 rfl (lv_at hl 1 rfl) ?_
        refine lv_iload_n hx hb dX7_effort_145 rfl (lv_at hl 2 rfl) ?_
        refine lv_iload_n hx hb dX7_effort_146 rfl (lv_at hl 3 rfl) ?_
        replace h := bd_some h
        obtain ⟨r16, er16, h⟩ := h
        refine r_callVi (As := [.int x1, .int x2]) (rest := []) hF (c_X7_hasGreater l D cy ad adK adV r5.1 x0 x1 x2 r16 er16) (gW_goodV hcm qw1146 qw1143 qw1145 qw43 qw67) hdX7_hasGreater rfl ⟨Nat.le_of_ble_eq_true rfl, Nat.le_of_ble_eq_true rfl⟩ rfl rfl hZ hK hw g6 (by decide) rfl rfl hl.1 rfl (Nat.le_of_ble_eq_true rfl) ⟨Nat.zero_le _, Nat.zero_le _⟩ dX7_effort_147 (fun H locs hw => ?_)
        refine lv_if_eq (tgt := 157) hx hb dX7_effort_150 (by decide) (fun c17 => ?_) (fun c17 => ?_)
        · replace h := if_some_t c17 h
          refine lv_iload hx hb dX7_effort_157 (lv_at hl 0 rfl) ?_
          exact r_iret hx hb hr rfl hlocks hZ hK hw h dX7_effort_159
        · replace h := if_some_f c17 h
          refine lv_iconst (v := (0 : Int32)) hx hb dX7_effort_153 (by decide) ?_
          refine lv_goto (tgt := 159) hx hb dX7_effort_154 (by decide) ?_
          exact r_iret hx hb hr rfl hlocks hZ hK hw h dX7_effort_159
    replace h := if_some_f s14 h
    by_cases s18 : r5.2 = 5
    · replace h := if_some_t s18 h
      refine lv_tableIn (off := 116) (tgt := 160) hx hb dX7_effort_44 (by rw [s18]; decide) (by rw [s18]; decide) (by rw [s18]; decide) (by decide) ?_
      refine lv_aload_n hx hb dX7_effort_160 rfl (lv_at hl 1 rfl) ?_
      refine lv_iload_n hx hb dX7_effort_161 rfl (lv_at hl 3 rfl) ?_
      refine lv_iconst (v := (2 : Int32)) hx hb dX7_effort_162 (by decide) ?_
      replace h := bd_some h
      obtain ⟨r19, er19, h⟩ := h
      refine r_callVi (As := [.int x2, .int (2 : Int32)]) (rest := []) hF (c_X7_of l D cy ad adK adV r5.1 x0 x2 (2 : Int32) r19 er19) (gW_goodV hcm qw1010 qw1007 qw1009 qw22 qw67) hdX7_of rfl ⟨Nat.le_of_ble_eq_true rfl, Nat.le_of_ble_eq_true rfl⟩ rfl rfl hZ hK hw g6 (by decide) rfl rfl hl.1 rfl (Nat.le_of_ble_eq_true rfl) ⟨Nat.zero_le _, Nat.zero_le _⟩ dX7_effort_163 (fun H locs hw => ?_)
      refine lv_aload_n hx hb dX7_effort_166 rfl (lv_at hl 1 rfl) ?_
      refine lv_iload_n hx hb dX7_effort_167 rfl (lv_at hl 2 rfl) ?_
      refine lv_iconst (v := (2 : Int32)) hx hb dX7_effort_168 (by decide) ?_
      replace h := bd_some h
      obtain ⟨r20, er20, h⟩ := h
      refine r_callVi (As := [.int x1, .int (2 : Int32)]) (rest := [.int r19.2]) hF (c_X7_its l D cy ad adK adV r19.1 x0 x1 (2 : Int32) r20 er20) (gW_goodV hcm qw1030 qw1027 qw1029 qw27 qw67) hdX7_its rfl ⟨Nat.le_of_ble_eq_true rfl, Nat.le_of_ble_eq_true rfl⟩ rfl rfl hZ hK hw g6 (by decide) rfl rfl hl.1 rfl (Nat.le_of_ble_eq_true rfl) ⟨Nat.zero_le _, Nat.zero_le _⟩ dX7_effort_169 (fun H locs hw => ?_)
      refine lv_icmp_ge (tgt := 179) hx hb dX7_effort_172 (by decide) (fun c21 => ?_) (fun c21 => ?_)
      · replace h := if_some_t c21 h
        refine lv_iconst (v := (3 : Int32)) hx hb dX7_effort_179 (by decide) ?_
        exact r_iret hx hb hr rfl hlocks hZ hK hw h dX7_effort_180
      · replace h := if_some_f c21 h
        refine lv_iconst (v := (0 : Int32)) hx hb dX7_effort_175 (by decide) ?_
        refine lv_goto (tgt := 180) hx hb dX7_effort_176 (by decide) ?_
        exact r_iret hx hb hr rfl hlocks hZ hK hw h dX7_effort_180
    replace h := if_some_f s18 h
    by_cases s22 : r5.2 = 6
    · replace h := if_some_t s22 h
      refine lv_tableIn (off := 137) (tgt := 181) hx hb dX7_effort_44 (by rw [s22]; decide) (by rw [s22]; decide) (by rw [s22]; decide) (by decide) ?_
      refine lv_aload_n hx hb dX7_effort_181 rfl (lv_at hl 1 rfl) ?_
      refine lv_iload_n hx hb dX7_effort_182 rfl (lv_at hl 2 rfl) ?_
      refine lv_iconst (v := (2 : Int32)) hx hb dX7_effort_183 (by decide) ?_
      replace h := bd_some h
      obtain ⟨r23, er23, h⟩ := h
      refine r_callVi (As := [.int x1, .int (2 : Int32)]) (rest := []) hF (c_X7_its l D cy ad adK adV r5.1 x0 x1 (2 : Int32) r23 er23) (gW_goodV hcm qw1030 qw1027 qw1029 qw27 qw67) hdX7_its rfl ⟨Nat.le_of_ble_eq_true rfl, Nat.le_of_ble_eq_true rfl⟩ rfl rfl hZ hK hw g6 (by decide) rfl rfl hl.1 rfl (Nat.le_of_ble_eq_true rfl) ⟨Nat.zero_le _, Nat.zero_le _⟩ dX7_effort_184 (fun H locs hw => ?_)
      refine lv_iconst (v := (3 : Int32)) hx hb dX7_effort_187 (by decide) ?_
      refine lv_icmp_le (tgt := 195) hx hb dX7_effort_188 (by decide) (fun c24 => ?_) (fun c24 => ?_)
      · replace h := if_some_t c24 h
        refine lv_aload_n hx hb dX7_effort_195 rfl (lv_at hl 1 rfl) ?_
        refine lv_iload_n hx hb dX7_effort_196 rfl (lv_at hl 2 rfl) ?_
        refine lv_iconst (v := (2 : Int32)) hx hb dX7_effort_197 (by decide) ?_
        replace h := bd_some h
        obtain ⟨r25, er25, h⟩ := h
        refine r_callVi (As := [.int x1, .int (2 : Int32)]) (rest := []) hF (c_X7_its l D cy ad adK adV r23.1 x0 x1 (2 : Int32) r25 er25) (gW_goodV hcm qw1030 qw1027 qw1029 qw27 qw67) hdX7_its rfl ⟨Nat.le_of_ble_eq_true rfl, Nat.le_of_ble_eq_true rfl⟩ rfl rfl hZ hK hw g6 (by decide) rfl rfl hl.1 rfl (Nat.le_of_ble_eq_true rfl) ⟨Nat.zero_le _, Nat.zero_le _⟩ dX7_effort_198 (fun H locs hw => ?_)
        exact r_iret hx hb hr rfl hlocks hZ hK hw h dX7_effort_201
      · replace h := if_some_f c24 h
        refine lv_iconst (v := (3 : Int32)) hx hb dX7_effort_191 (by decide) ?_
        refine lv_goto (tgt := 201) hx hb dX7_effort_192 (by decide) ?_
        exact r_iret hx hb hr rfl hlocks hZ hK hw h dX7_effort_201
    replace h := if_some_f s22 h
    have hout26 : r5.2.toInt < 1 ∨ 6 < r5.2.toInt := by
      refine tsw_out (fun cz h1 h2 => ?_)
      rcases (show cz = 1 ∨ cz = 2 ∨ cz = 3 ∨ cz = 4 ∨ cz = 5 ∨ cz = 6 by omega) with rfl | rfl | rfl | rfl | rfl | rfl
      · exact fun e9 => s7 (e9.trans (by decide))
      · exact fun e9 => s8 (e9.trans (by decide))
      · exact fun e9 => s9 (e9.trans (by decide))
      · exact fun e9 => s14 (e9.trans (by decide))
      · exact fun e9 => s18 (e9.trans (by decide))
      · exact fun e9 => s22 (e9.trans (by decide))
    refine lv_tableOut (tgt := 202) hx hb dX7_effort_44 hout26 (by decide) ?_
    refine lv_iconst (v := (2 : Int32)) hx hb dX7_effort_202 (by decide) ?_
    exact r_iret hx hb hr rfl hlocks hZ hK hw h dX7_effort_203
  have hb21 : ∀ (M : Mm) (x0 : Nat) (x1 : Int32) (x2 : Int32), f_X7_effort_b21 M x0 x1 x2 = some res → ∀ (H : Heap) (locs : List Loc) (ls : Array Slot), Wd D cy shM ad nM (Aw ad nM) s.heap M H locs → lv_has ls 6 [(0, .ref (ad x0)), (1, .int x1), (2, .int x2)] → W p l e (headSpec (wU yX7_effort cX7_effort 6 (some .int)) rmX7_effort).room s m args below meth c H locs 0 0 (QI D cy shM ad nM adK adV below args s res) (F0 m 21 ls []) := by
    intro M x0 x1 x2 h H locs ls hw hl
    unfold f_X7_effort_b21 at h
    refine lv_aload_n hx hb dX7_effort_21 rfl (lv_at hl 0 rfl) ?_
    refine lv_iload_n hx hb dX7_effort_22 rfl (lv_at hl 1 rfl) ?_
    replace h := gd_some h
    obtain ⟨g28, h⟩ := h
    replace h := bd_some h
    obtain ⟨r27, er27, h⟩ := h
    refine r_callVi (As := [.int x1]) (rest := []) hF (c_X7_isBarred l D cy ad adK adV M x0 x1 r27 er27) (gW_goodV hcm qw1014 qw1011 qw1013 qw23 qw67) hdX7_isBarred rfl ⟨Nat.le_of_ble_eq_true rfl, Nat.le_of_ble_eq_true rfl⟩ rfl rfl hZ hK hw g28 (by decide) rfl rfl hl.1 rfl (Nat.le_of_ble_eq_true rfl) ⟨Nat.zero_le _, Nat.zero_le _⟩ dX7_effort_23 (fun H locs hw => ?_)
    refine lv_istore_n (lv' := [(3, .int r27.2), (0, .ref (ad x0)), (1, .int x1), (2, .int x2)]) hx hb dX7_effort_26 rfl hl (by decide) rfl (fun ls hl => ?_)
    refine lv_iload_n hx hb dX7_effort_27 rfl (lv_at hl 0 rfl) ?_
    refine lv_if_eq (tgt := 35) hx hb dX7_effort_28 (by decide) (fun c29 => ?_) (fun c29 => ?_)
    · replace h := if_some_t c29 h
      refine lv_iconst (v := (2 : Int32)) hx hb dX7_effort_35 (by decide) ?_
      exact hb36 _ _ _ _ _ _ h _ _ _ hw (lv_sub hl [1, 2, 3, 0] rfl)
    · replace h := if_some_f c29 h
      refine lv_iconst (v := (1 : Int32)) hx hb dX7_effort_31 (by decide) ?_
      refine lv_goto (tgt := 36) hx hb dX7_effort_32 (by decide) ?_
      exact hb36 _ _ _ _ _ _ h _ _ _ hw (lv_sub hl [1, 2, 3, 0] rfl)
  unfold f_X7_effort at h
  refine lv_aload_n hx hb dX7_effort_0 rfl (lv_at hl 0 rfl) ?_
  replace h := gd_some h
  obtain ⟨g30, h⟩ := h
  refine r_getI hx hb hts iw7 hown hK hw o0 5 g30 (by decide) rfl (by decide) rfl (hq _ qw893) (fun _ h9 => h9) dX7_effort_1 ?_
  refine lv_iload_n hx hb dX7_effort_4 rfl (lv_at hl 2 rfl) ?_
  refine lv_icmp_ne (tgt := 21) hx hb dX7_effort_5 (by decide) (fun c31 => ?_) (fun c31 => ?_)
  · replace h := if_some_f c31 h
    exact hb21 _ _ _ _ h _ _ _ hw (lv_sub hl [0, 1, 2] rfl)
  · replace h := if_some_t c31 h
    refine lv_aload_n hx hb dX7_effort_8 rfl (lv_at hl 0 rfl) ?_
    refine r_getI hx hb hts iw7 hown hK hw o0 6 g30 (by decide) rfl (by decide) rfl (hq _ qw894) (fun _ h9 => h9) dX7_effort_9 ?_
    refine lv_iload_n hx hb dX7_effort_12 rfl (lv_at hl 1 rfl) ?_
    refine lv_icmp_ne (tgt := 21) hx hb dX7_effort_13 (by decide) (fun c32 => ?_) (fun c32 => ?_)
    · replace h := if_some_f c32 h
      exact hb21 _ _ _ _ h _ _ _ hw (lv_sub hl [0, 1, 2] rfl)
    · replace h := if_some_t c32 h
      refine lv_aload_n hx hb dX7_effort_16 rfl (lv_at hl 0 rfl) ?_
      refine r_getI hx hb hts iw7 hown hK hw o0 7 g30 (by decide) rfl (by decide) rfl (hq _ qw895) (fun _ h9 => h9) dX7_effort_17 ?_
      exact r_iret hx hb hr rfl hlocks hZ hK hw h dX7_effort_20
theorem dX7_force_0 : decode cX7_force 0 = .ok (.aload_n 0, 1) := by decide +kernel
theorem dX7_force_1 : decode cX7_force 1 = .ok (.iload_n 1, 1) := by decide +kernel
theorem dX7_force_2 : decode cX7_force 2 = .ok (.iconst 1, 1) := by decide +kernel
theorem dX7_force_3 : decode cX7_force 3 = .ok (.invokevirtual 89, 3) := by decide +kernel
theorem dX7_force_6 : decode cX7_force 6 = .ok (.aload_n 0, 1) := by decide +kernel
theorem dX7_force_7 : decode cX7_force 7 = .ok (.iload_n 1, 1) := by decide +kernel
theorem dX7_force_8 : decode cX7_force 8 = .ok (.invokevirtual 95, 3) := by decide +kernel
theorem dX7_force_11 : decode cX7_force 11 = .ok (.ifCond .eq 7, 3) := by decide +kernel
theorem dX7_force_14 : decode cX7_force 14 = .ok (.iconst 1, 1) := by decide +kernel
theorem dX7_force_15 : decode cX7_force 15 = .ok (.goto 4, 3) := by decide +kernel
theorem dX7_force_18 : decode cX7_force 18 = .ok (.iconst 0, 1) := by decide +kernel
theorem dX7_force_19 : decode cX7_force 19 = .ok (.isub, 1) := by decide +kernel
theorem dX7_force_20 : decode cX7_force 20 = .ok (.istore_n 3, 1) := by decide +kernel
theorem dX7_force_21 : decode cX7_force 21 = .ok (.iload_n 3, 1) := by decide +kernel
theorem dX7_force_22 : decode cX7_force 22 = .ok (.iconst 1, 1) := by decide +kernel
theorem dX7_force_23 : decode cX7_force 23 = .ok (.if_icmp .ge 7, 3) := by decide +kernel
theorem dX7_force_26 : decode cX7_force 26 = .ok (.iconst 1, 1) := by decide +kernel
theorem dX7_force_27 : decode cX7_force 27 = .ok (.goto 4, 3) := by decide +kernel
theorem dX7_force_30 : decode cX7_force 30 = .ok (.iload_n 3, 1) := by decide +kernel
theorem dX7_force_31 : decode cX7_force 31 = .ok (.iload_n 2, 1) := by decide +kernel
theorem dX7_force_32 : decode cX7_force 32 = .ok (.imul, 1) := by decide +kernel
theorem dX7_force_33 : decode cX7_force 33 = .ok (.ireturn, 1) := by decide +kernel
set_option maxHeartbeats 4000000 in
set_option maxRecDepth 100000 in
theorem c_X7_force (l : Launch) (D : va_G) (cy : Nat → ClassId) (ad adK adV : Nat → Nat) (M : Mm) (o0 : Nat) (a1 : Int32) (a2 : Int32) (res : Mm × Int32) (h : f_X7_force M o0 a1 a2 = some res) : Met l yX7_force (wU yX7_force cX7_force 4 (some .int)) rmX7_force (va_Pc [.ref (ad o0), .int a1, .int a2] (Pre D cy shM ad nM adK adV M)) (va_Qi (fun r (M2 : Mm) => r = res.2 ∧ M2 = res.1) (Pre D cy shM ad nM adK adV) (Aw ad nM)) 0 0 (Aw ad nM) := by
  refine Met.ofW (cc := cX7_force) (maxL := 4) (ret := (some .int)) (by decide) rfl ?_
  intro p e s m args below meth c s₁ B hml hv
  obtain ⟨hargs, hPre⟩ := hv
  have hx := B.exec
  have hb := B.bytes
  have hr := B.returns
  have hts := atoms_spec (ws := wU yX7_force cX7_force 4 (some .int)) B.pre
  have hq : ∀ w ∈ gW, w.before args s = true := fun w hw => hts w (List.mem_cons_of_mem _ hw)
  have hcm : ∀ w ∈ gW, w ∈ wU yX7_force cX7_force 4 (some .int) := fun w hw => List.mem_cons_of_mem _ hw
  have hown : s.vm.findClass RX7 = some m.cls := findClass_of_methodNamed B.named
  have hlocks := B.notSynchronized
  have hF : CallFix p m c cX7_force 4 s args (wU yX7_force cX7_force 4 (some .int)) RX7 := ⟨hx, hb, hml, hown, hts⟩
  have hK := hPre.2.1
  have hZ := hPre.2.2.2
  have hw : Wd D cy shM ad nM (Aw ad nM) s.heap M s.heap [] := ⟨hPre.1, hPre.2.2.1, va_S.rf⟩
  rw [show entryFrame m args 4 = entryFrame m ([.ref (ad o0), .int a1, .int a2] : List Value).toArray 4 from by rw [hargs]]
  have hl := lv_entry ([.ref (ad o0), .int a1, .int a2]) (n := 4) (Nat.le_of_ble_eq_true rfl)
  rw [lg_entry_eq]
  generalize (lg_sl ([.ref (ad o0), .int a1, .int a2]) ++ List.replicate (4 - (lg_sl ([.ref (ad o0), .int a1, .int a2])).length) Slot.unset).toArray = ls at hl ⊢
  have hl : lv_has ls 4 [(0, .ref (ad o0)), (1, .int a1), (2, .int a2)] := hl
  have hb31 : ∀ (M : Mm) (x2 : Int32) (t0 : Int32), f_X7_force_b31 M x2 t0 = some res → ∀ (H : Heap) (locs : List Loc) (ls : Array Slot), Wd D cy shM ad nM (Aw ad nM) s.heap M H locs → lv_has ls 4 [(2, .int x2)] → W p l e (headSpec (wU yX7_force cX7_force 4 (some .int)) rmX7_force).room s m args below meth c H locs 0 0 (QI D cy shM ad nM adK adV below args s res) (F0 m 31 ls [.int t0]) := by
    intro M x2 t0 h H locs ls hw hl
    unfold f_X7_force_b31 at h
    refine lv_iload_n hx hb dX7_force_31 rfl (lv_at hl 0 rfl) ?_
    refine lv_imul hx hb dX7_force_32 ?_
    exact r_iret hx hb hr rfl hlocks hZ hK hw h dX7_force_33
  have hb19 : ∀ (M : Mm) (x2 : Int32) (t0 : Int32) (t1 : Int32), f_X7_force_b19 M x2 t0 t1 = some res → ∀ (H : Heap) (locs : List Loc) (ls : Array Slot), Wd D cy shM ad nM (Aw ad nM) s.heap M H locs → lv_has ls 4 [(2, .int x2)] → W p l e (headSpec (wU yX7_force cX7_force 4 (some .int)) rmX7_force).room s m args below meth c H locs 0 0 (QI D cy shM ad nM adK adV below args s res) (F0 m 19 ls [.int t1, .int t0]) := by
    intro M x2 t0 t1 h H locs ls hw hl
    unfold f_X7_force_b19 at h
    refine lv_isub hx hb dX7_force_19 ?_
    refine lv_istore_n (lv' := [(3, .int (t0 - t1)), (2, .int x2)]) hx hb dX7_force_20 rfl hl (by decide) rfl (fun ls hl => ?_)
    refine lv_iload_n hx hb dX7_force_21 rfl (lv_at hl 0 rfl) ?_
    refine lv_iconst (v := (1 : Int32)) hx hb dX7_force_22 (by decide) ?_
    refine lv_icmp_ge (tgt := 30) hx hb dX7_force_23 (by decide) (fun c1 => ?_) (fun c1 => ?_)
    · replace h := if_some_t c1 h
      refine lv_iload_n hx hb dX7_force_30 rfl (lv_at hl 0 rfl) ?_
      exact hb31 _ _ _ h _ _ _ hw (lv_sub hl [1] rfl)
    · replace h := if_some_f c1 h
      refine lv_iconst (v := (1 : Int32)) hx hb dX7_force_26 (by decide) ?_
      refine lv_goto (tgt := 31) hx hb dX7_force_27 (by decide) ?_
      exact hb31 _ _ _ h _ _ _ hw (lv_sub hl [1] rfl)
  unfold f_X7_force at h
  refine lv_aload_n hx hb dX7_force_0 rfl (lv_at hl 0 rfl) ?_
  refine lv_iload_n hx hb dX7_force_1 rfl (lv_at hl 1 rfl) ?_
  refine lv_iconst (v := (1 : Int32)) hx hb dX7_force_2 (by decide) ?_
  replace h := gd_some h
  obtain ⟨g3, h⟩ := h
  replace h := bd_some h
  obtain ⟨r2, er2, h⟩ := h
  refine r_callVi (As := [.int a1, .int (1 : Int32)]) (rest := []) hF (c_X7_its l D cy ad adK adV M o0 a1 (1 : Int32) r2 er2) (gW_goodV hcm qw1030 qw1027 qw1029 qw27 qw67) hdX7_its rfl ⟨Nat.le_of_ble_eq_true rfl, Nat.le_of_ble_eq_true rfl⟩ rfl rfl hZ hK hw g3 (by decide) rfl rfl hl.1 rfl (Nat.le_of_ble_eq_true rfl) ⟨Nat.zero_le _, Nat.zero_le _⟩ dX7_force_3 (fun H locs hw => ?_)
  refine lv_aload_n hx hb dX7_force_6 rfl (lv_at hl 0 rfl) ?_
  refine lv_iload_n hx hb dX7_force_7 rfl (lv_at hl 1 rfl) ?_
  replace h := bd_some h
  obtain ⟨r4, er4, h⟩ := h
  refine r_callVi (As := [.int a1]) (rest := [.int r2.2]) hF (c_X7_isTired l D cy ad adK adV r2.1 o0 a1 r4 er4) (gW_goodV hcm qw1022 qw1019 qw1021 qw25 qw67) hdX7_isTired rfl ⟨Nat.le_of_ble_eq_true rfl, Nat.le_of_ble_eq_true rfl⟩ rfl rfl hZ hK hw g3 (by decide) rfl rfl hl.1 rfl (Nat.le_of_ble_eq_true rfl) ⟨Nat.zero_le _, Nat.zero_le _⟩ dX7_force_8 (fun H locs hw => ?_)
  refine lv_if_eq (tgt := 18) hx hb dX7_force_11 (by decide) (fun c5 => ?_) (fun c5 => ?_)
  · replace h := if_some_t c5 h
    refine lv_iconst (v := (0 : Int32)) hx hb dX7_force_18 (by decide) ?_
    exact hb19 _ _ _ _ h _ _ _ hw (lv_sub hl [2] rfl)
  · replace h := if_some_f c5 h
    refine lv_iconst (v := (1 : Int32)) hx hb dX7_force_14 (by decide) ?_
    refine lv_goto (tgt := 19) hx hb dX7_force_15 (by decide) ?_
    exact hb19 _ _ _ _ h _ _ _ hw (lv_sub hl [2] rfl)
theorem dX7_chance_0 : decode cX7_chance 0 = .ok (.aload_n 0, 1) := by decide +kernel
theorem dX7_chance_1 : decode cX7_chance 1 = .ok (.aload_n 0, 1) := by decide +kernel
theorem dX7_chance_2 : decode cX7_chance 2 = .ok (.iload_n 1, 1) := by decide +kernel
theorem dX7_chance_3 : decode cX7_chance 3 = .ok (.iconst 0, 1) := by decide +kernel
theorem dX7_chance_4 : decode cX7_chance 4 = .ok (.invokevirtual 71, 3) := by decide +kernel
theorem dX7_chance_7 : decode cX7_chance 7 = .ok (.iload_n 2, 1) := by decide +kernel
theorem dX7_chance_8 : decode cX7_chance 8 = .ok (.invokevirtual 98, 3) := by decide +kernel
theorem dX7_chance_11 : decode cX7_chance 11 = .ok (.istore 4, 2) := by decide +kernel
theorem dX7_chance_13 : decode cX7_chance 13 = .ok (.aload_n 0, 1) := by decide +kernel
theorem dX7_chance_14 : decode cX7_chance 14 = .ok (.aload_n 0, 1) := by decide +kernel
theorem dX7_chance_15 : decode cX7_chance 15 = .ok (.iload_n 1, 1) := by decide +kernel
theorem dX7_chance_16 : decode cX7_chance 16 = .ok (.iconst 1, 1) := by decide +kernel
theorem dX7_chance_17 : decode cX7_chance 17 = .ok (.invokevirtual 71, 3) := by decide +kernel
theorem dX7_chance_20 : decode cX7_chance 20 = .ok (.iload_n 3, 1) := by decide +kernel
theorem dX7_chance_21 : decode cX7_chance 21 = .ok (.invokevirtual 98, 3) := by decide +kernel
theorem dX7_chance_24 : decode cX7_chance 24 = .ok (.istore 5, 2) := by decide +kernel
theorem dX7_chance_26 : decode cX7_chance 26 = .ok (.iload 4, 2) := by decide +kernel
theorem dX7_chance_28 : decode cX7_chance 28 = .ok (.iload 5, 2) := by decide +kernel
theorem dX7_chance_30 : decode cX7_chance 30 = .ok (.iadd, 1) := by decide +kernel
theorem dX7_chance_31 : decode cX7_chance 31 = .ok (.ifCond .ne 7, 3) := by decide +kernel
theorem dX7_chance_34 : decode cX7_chance 34 = .ok (.iconst 5, 1) := by decide +kernel
theorem dX7_chance_35 : decode cX7_chance 35 = .ok (.goto 14, 3) := by decide +kernel
theorem dX7_chance_38 : decode cX7_chance 38 = .ok (.bipush 10, 2) := by decide +kernel
theorem dX7_chance_40 : decode cX7_chance 40 = .ok (.iload 4, 2) := by decide +kernel
theorem dX7_chance_42 : decode cX7_chance 42 = .ok (.imul, 1) := by decide +kernel
theorem dX7_chance_43 : decode cX7_chance 43 = .ok (.iload 4, 2) := by decide +kernel
theorem dX7_chance_45 : decode cX7_chance 45 = .ok (.iload 5, 2) := by decide +kernel
theorem dX7_chance_47 : decode cX7_chance 47 = .ok (.iadd, 1) := by decide +kernel
theorem dX7_chance_48 : decode cX7_chance 48 = .ok (.idiv, 1) := by decide +kernel
theorem dX7_chance_49 : decode cX7_chance 49 = .ok (.ireturn, 1) := by decide +kernel
set_option maxHeartbeats 4000000 in
set_option maxRecDepth 100000 in
theorem c_X7_chance (l : Launch) (D : va_G) (cy : Nat → ClassId) (ad adK adV : Nat → Nat) (M : Mm) (o0 : Nat) (a1 : Int32) (a2 : Int32) (a3 : Int32) (res : Mm × Int32) (h : f_X7_chance M o0 a1 a2 a3 = some res) : Met l yX7_chance (wU yX7_chance cX7_chance 6 (some .int)) rmX7_chance (va_Pc [.ref (ad o0), .int a1, .int a2, .int a3] (Pre D cy shM ad nM adK adV M)) (va_Qi (fun r (M2 : Mm) => r = res.2 ∧ M2 = res.1) (Pre D cy shM ad nM adK adV) (Aw ad nM)) 0 0 (Aw ad nM) := by
  refine Met.ofW (cc := cX7_chance) (maxL := 6) (ret := (some .int)) (by decide) rfl ?_
  intro p e s m args below meth c s₁ B hml hv
  obtain ⟨hargs, hPre⟩ := hv
  have hx := B.exec
  have hb := B.bytes
  have hr := B.returns
  have hts := atoms_spec (ws := wU yX7_chance cX7_chance 6 (some .int)) B.pre
  have hq : ∀ w ∈ gW, w.before args s = true := fun w hw => hts w (List.mem_cons_of_mem _ hw)
  have hcm : ∀ w ∈ gW, w ∈ wU yX7_chance cX7_chance 6 (some .int) := fun w hw => List.mem_cons_of_mem _ hw
  have hown : s.vm.findClass RX7 = some m.cls := findClass_of_methodNamed B.named
  have hlocks := B.notSynchronized
  have hF : CallFix p m c cX7_chance 6 s args (wU yX7_chance cX7_chance 6 (some .int)) RX7 := ⟨hx, hb, hml, hown, hts⟩
  have hK := hPre.2.1
  have hZ := hPre.2.2.2
  have hw : Wd D cy shM ad nM (Aw ad nM) s.heap M s.heap [] := ⟨hPre.1, hPre.2.2.1, va_S.rf⟩
  rw [show entryFrame m args 6 = entryFrame m ([.ref (ad o0), .int a1, .int a2, .int a3] : List Value).toArray 6 from by rw [hargs]]
  have hl := lv_entry ([.ref (ad o0), .int a1, .int a2, .int a3]) (n := 6) (Nat.le_of_ble_eq_true rfl)
  rw [lg_entry_eq]
  generalize (lg_sl ([.ref (ad o0), .int a1, .int a2, .int a3]) ++ List.replicate (6 - (lg_sl ([.ref (ad o0), .int a1, .int a2, .int a3])).length) Slot.unset).toArray = ls at hl ⊢
  have hl : lv_has ls 6 [(0, .ref (ad o0)), (1, .int a1), (2, .int a2), (3, .int a3)] := hl
  unfold f_X7_chance at h
  refine lv_aload_n hx hb dX7_chance_0 rfl (lv_at hl 0 rfl) ?_
  refine lv_aload_n hx hb dX7_chance_1 rfl (lv_at hl 0 rfl) ?_
  refine lv_iload_n hx hb dX7_chance_2 rfl (lv_at hl 1 rfl) ?_
  refine lv_iconst (v := (0 : Int32)) hx hb dX7_chance_3 (by decide) ?_
  replace h := gd_some h
  obtain ⟨g2, h⟩ := h
  replace h := bd_some h
  obtain ⟨r1, er1, h⟩ := h
  refine r_callVi (As := [.int a1, .int (0 : Int32)]) (rest := [.ref (ad o0)]) hF (c_X7_of l D cy ad adK adV M o0 a1 (0 : Int32) r1 er1) (gW_goodV hcm qw1010 qw1007 qw1009 qw22 qw67) hdX7_of rfl ⟨Nat.le_of_ble_eq_true rfl, Nat.le_of_ble_eq_true rfl⟩ rfl rfl hZ hK hw g2 (by decide) rfl rfl hl.1 rfl (Nat.le_of_ble_eq_true rfl) ⟨Nat.zero_le _, Nat.zero_le _⟩ dX7_chance_4 (fun H locs hw => ?_)
  refine lv_iload_n hx hb dX7_chance_7 rfl (lv_at hl 2 rfl) ?_
  replace h := bd_some h
  obtain ⟨r3, er3, h⟩ := h
  refine r_callVi (As := [.int r1.2, .int a2]) (rest := []) hF (c_X7_force l D cy ad adK adV r1.1 o0 r1.2 a2 r3 er3) (gW_goodV hcm qw1154 qw1151 qw1153 qw45 qw67) hdX7_force rfl ⟨Nat.le_of_ble_eq_true rfl, Nat.le_of_ble_eq_true rfl⟩ rfl rfl hZ hK hw g2 (by decide) rfl rfl hl.1 rfl (Nat.le_of_ble_eq_true rfl) ⟨Nat.zero_le _, Nat.zero_le _⟩ dX7_chance_8 (fun H locs hw => ?_)
  refine lv_istore (lv' := [(4, .int r3.2), (0, .ref (ad o0)), (1, .int a1), (2, .int a2), (3, .int a3)]) hx hb dX7_chance_11 hl (by decide) rfl (fun ls hl => ?_)
  refine lv_aload_n hx hb dX7_chance_13 rfl (lv_at hl 1 rfl) ?_
  refine lv_aload_n hx hb dX7_chance_14 rfl (lv_at hl 1 rfl) ?_
  refine lv_iload_n hx hb dX7_chance_15 rfl (lv_at hl 2 rfl) ?_
  refine lv_iconst (v := (1 : Int32)) hx hb dX7_chance_16 (by decide) ?_
  replace h := bd_some h
  obtain ⟨r4, er4, h⟩ := h
  refine r_callVi (As := [.int a1, .int (1 : Int32)]) (rest := [.ref (ad o0)]) hF (c_X7_of l D cy ad adK adV r3.1 o0 a1 (1 : Int32) r4 er4) (gW_goodV hcm qw1010 qw1007 qw1009 qw22 qw67) hdX7_of rfl ⟨Nat.le_of_ble_eq_true rfl, Nat.le_of_ble_eq_true rfl⟩ rfl rfl hZ hK hw g2 (by decide) rfl rfl hl.1 rfl (Nat.le_of_ble_eq_true rfl) ⟨Nat.zero_le _, Nat.zero_le _⟩ dX7_chance_17 (fun H locs hw => ?_)
  refine lv_iload_n hx hb dX7_chance_20 rfl (lv_at hl 4 rfl) ?_
  replace h := bd_some h
  obtain ⟨r5, er5, h⟩ := h
  refine r_callVi (As := [.int r4.2, .int a3]) (rest := []) hF (c_X7_force l D cy ad adK adV r4.1 o0 r4.2 a3 r5 er5) (gW_goodV hcm qw1154 qw1151 qw1153 qw45 qw67) hdX7_force rfl ⟨Nat.le_of_ble_eq_true rfl, Nat.le_of_ble_eq_true rfl⟩ rfl rfl hZ hK hw g2 (by decide) rfl rfl hl.1 rfl (Nat.le_of_ble_eq_true rfl) ⟨Nat.zero_le _, Nat.zero_le _⟩ dX7_chance_21 (fun H locs hw => ?_)
  refine lv_istore (lv' := [(5, .int r5.2), (4, .int r3.2), (0, .ref (ad o0)), (1, .int a1), (2, .int a2), (3, .int a3)]) hx hb dX7_chance_24 hl (by decide) rfl (fun ls hl => ?_)
  refine lv_iload hx hb dX7_chance_26 (lv_at hl 1 rfl) ?_
  refine lv_iload hx hb dX7_chance_28 (lv_at hl 0 rfl) ?_
  refine lv_iadd hx hb dX7_chance_30 ?_
  refine lv_if_ne (tgt := 38) hx hb dX7_chance_31 (by decide) (fun c6 => ?_) (fun c6 => ?_)
  · replace h := if_some_f c6 h
    refine lv_bipush (v := (10 : Int32)) hx hb dX7_chance_38 (by decide) ?_
    refine lv_iload hx hb dX7_chance_40 (lv_at hl 1 rfl) ?_
    refine lv_imul hx hb dX7_chance_42 ?_
    refine lv_iload hx hb dX7_chance_43 (lv_at hl 1 rfl) ?_
    refine lv_iload hx hb dX7_chance_45 (lv_at hl 0 rfl) ?_
    refine lv_iadd hx hb dX7_chance_47 ?_
    replace h := gd_some h
    obtain ⟨g7, h⟩ := h
    refine lv_idiv hx hb dX7_chance_48 g7 ?_
    exact r_iret hx hb hr rfl hlocks hZ hK hw h dX7_chance_49
  · replace h := if_some_t c6 h
    refine lv_iconst (v := (5 : Int32)) hx hb dX7_chance_34 (by decide) ?_
    refine lv_goto (tgt := 49) hx hb dX7_chance_35 (by decide) ?_
    exact r_iret hx hb hr rfl hlocks hZ hK hw h dX7_chance_49
theorem dX7_givenTo_0 : decode cX7_givenTo 0 = .ok (.aload_n 0, 1) := by decide +kernel
theorem dX7_givenTo_1 : decode cX7_givenTo 1 = .ok (.iload_n 1, 1) := by decide +kernel
theorem dX7_givenTo_2 : decode cX7_givenTo 2 = .ok (.iconst 0, 1) := by decide +kernel
theorem dX7_givenTo_3 : decode cX7_givenTo 3 = .ok (.invokevirtual 71, 3) := by decide +kernel
theorem dX7_givenTo_6 : decode cX7_givenTo 6 = .ok (.iload_n 2, 1) := by decide +kernel
theorem dX7_givenTo_7 : decode cX7_givenTo 7 = .ok (.if_icmp .ne 12, 3) := by decide +kernel
theorem dX7_givenTo_10 : decode cX7_givenTo 10 = .ok (.aload_n 0, 1) := by decide +kernel
theorem dX7_givenTo_11 : decode cX7_givenTo 11 = .ok (.iload_n 1, 1) := by decide +kernel
theorem dX7_givenTo_12 : decode cX7_givenTo 12 = .ok (.iconst 1, 1) := by decide +kernel
theorem dX7_givenTo_13 : decode cX7_givenTo 13 = .ok (.invokevirtual 71, 3) := by decide +kernel
theorem dX7_givenTo_16 : decode cX7_givenTo 16 = .ok (.goto 9, 3) := by decide +kernel
theorem dX7_givenTo_19 : decode cX7_givenTo 19 = .ok (.aload_n 0, 1) := by decide +kernel
theorem dX7_givenTo_20 : decode cX7_givenTo 20 = .ok (.iload_n 1, 1) := by decide +kernel
theorem dX7_givenTo_21 : decode cX7_givenTo 21 = .ok (.iconst 0, 1) := by decide +kernel
theorem dX7_givenTo_22 : decode cX7_givenTo 22 = .ok (.invokevirtual 71, 3) := by decide +kernel
theorem dX7_givenTo_25 : decode cX7_givenTo 25 = .ok (.istore_n 3, 1) := by decide +kernel
theorem dX7_givenTo_26 : decode cX7_givenTo 26 = .ok (.aload_n 0, 1) := by decide +kernel
theorem dX7_givenTo_27 : decode cX7_givenTo 27 = .ok (.iload_n 2, 1) := by decide +kernel
theorem dX7_givenTo_28 : decode cX7_givenTo 28 = .ok (.invokevirtual 85, 3) := by decide +kernel
theorem dX7_givenTo_31 : decode cX7_givenTo 31 = .ok (.ifCond .ne 5, 3) := by decide +kernel
theorem dX7_givenTo_34 : decode cX7_givenTo 34 = .ok (.iload_n 2, 1) := by decide +kernel
theorem dX7_givenTo_35 : decode cX7_givenTo 35 = .ok (.ireturn, 1) := by decide +kernel
theorem dX7_givenTo_36 : decode cX7_givenTo 36 = .ok (.aload_n 0, 1) := by decide +kernel
theorem dX7_givenTo_37 : decode cX7_givenTo 37 = .ok (.iload_n 3, 1) := by decide +kernel
theorem dX7_givenTo_38 : decode cX7_givenTo 38 = .ok (.invokevirtual 85, 3) := by decide +kernel
theorem dX7_givenTo_41 : decode cX7_givenTo 41 = .ok (.ifCond .ne 5, 3) := by decide +kernel
theorem dX7_givenTo_44 : decode cX7_givenTo 44 = .ok (.iload_n 3, 1) := by decide +kernel
theorem dX7_givenTo_45 : decode cX7_givenTo 45 = .ok (.ireturn, 1) := by decide +kernel
theorem dX7_givenTo_46 : decode cX7_givenTo 46 = .ok (.aload_n 0, 1) := by decide +kernel
theorem dX7_givenTo_47 : decode cX7_givenTo 47 = .ok (.iload_n 2, 1) := by decide +kernel
theorem dX7_givenTo_48 : decode cX7_givenTo 48 = .ok (.invokevirtual 101, 3) := by decide +kernel
theorem dX7_givenTo_51 : decode cX7_givenTo 51 = .ok (.aload_n 0, 1) := by decide +kernel
theorem dX7_givenTo_52 : decode cX7_givenTo 52 = .ok (.iload_n 3, 1) := by decide +kernel
theorem dX7_givenTo_53 : decode cX7_givenTo 53 = .ok (.invokevirtual 101, 3) := by decide +kernel
theorem dX7_givenTo_56 : decode cX7_givenTo 56 = .ok (.isub, 1) := by decide +kernel
theorem dX7_givenTo_57 : decode cX7_givenTo 57 = .ok (.istore 4, 2) := by decide +kernel
theorem dX7_givenTo_59 : decode cX7_givenTo 59 = .ok (.iload 4, 2) := by decide +kernel
theorem dX7_givenTo_61 : decode cX7_givenTo 61 = .ok (.ifCond .lt 13, 3) := by decide +kernel
theorem dX7_givenTo_64 : decode cX7_givenTo 64 = .ok (.iload 4, 2) := by decide +kernel
theorem dX7_givenTo_66 : decode cX7_givenTo 66 = .ok (.ifCond .ne 12, 3) := by decide +kernel
theorem dX7_givenTo_69 : decode cX7_givenTo 69 = .ok (.iload_n 2, 1) := by decide +kernel
theorem dX7_givenTo_70 : decode cX7_givenTo 70 = .ok (.iload_n 3, 1) := by decide +kernel
theorem dX7_givenTo_71 : decode cX7_givenTo 71 = .ok (.if_icmp .ge 7, 3) := by decide +kernel
theorem dX7_givenTo_74 : decode cX7_givenTo 74 = .ok (.iload_n 2, 1) := by decide +kernel
theorem dX7_givenTo_75 : decode cX7_givenTo 75 = .ok (.goto 4, 3) := by decide +kernel
theorem dX7_givenTo_78 : decode cX7_givenTo 78 = .ok (.iload_n 3, 1) := by decide +kernel
theorem dX7_givenTo_79 : decode cX7_givenTo 79 = .ok (.ireturn, 1) := by decide +kernel
set_option maxHeartbeats 4000000 in
set_option maxRecDepth 100000 in
theorem c_X7_givenTo (l : Launch) (D : va_G) (cy : Nat → ClassId) (ad adK adV : Nat → Nat) (M : Mm) (o0 : Nat) (a1 : Int32) (a2 : Int32) (res : Mm × Int32) (h : f_X7_givenTo M o0 a1 a2 = some res) : Met l yX7_givenTo (wU yX7_givenTo cX7_givenTo 5 (some .int)) rmX7_givenTo (va_Pc [.ref (ad o0), .int a1, .int a2] (Pre D cy shM ad nM adK adV M)) (va_Qi (fun r (M2 : Mm) => r = res.2 ∧ M2 = res.1) (Pre D cy shM ad nM adK adV) (Aw ad nM)) 0 0 (Aw ad nM) := by
  refine Met.ofW (cc := cX7_givenTo) (maxL := 5) (ret := (some .int)) (by decide) rfl ?_
  intro p e s m args below meth c s₁ B hml hv
  obtain ⟨hargs, hPre⟩ := hv
  have hx := B.exec
  have hb := B.bytes
  have hr := B.returns
  have hts := atoms_spec (ws := wU yX7_givenTo cX7_givenTo 5 (some .int)) B.pre
  have hq : ∀ w ∈ gW, w.before args s = true := fun w hw => hts w (List.mem_cons_of_mem _ hw)
  have hcm : ∀ w ∈ gW, w ∈ wU yX7_givenTo cX7_givenTo 5 (some .int) := fun w hw => List.mem_cons_of_mem _ hw
  have hown : s.vm.findClass RX7 = some m.cls := findClass_of_methodNamed B.named
  have hlocks := B.notSynchronized
  have hF : CallFix p m c cX7_givenTo 5 s args (wU yX7_givenTo cX7_givenTo 5 (some .int)) RX7 := ⟨hx, hb, hml, hown, hts⟩
  have hK := hPre.2.1
  have hZ := hPre.2.2.2
  have hw : Wd D cy shM ad nM (Aw ad nM) s.heap M s.heap [] := ⟨hPre.1, hPre.2.2.1, va_S.rf⟩
  rw [show entryFrame m args 5 = entryFrame m ([.ref (ad o0), .int a1, .int a2] : List Value).toArray 5 from by rw [hargs]]
  have hl := lv_entry ([.ref (ad o0), .int a1, .int a2]) (n := 5) (Nat.le_of_ble_eq_true rfl)
  rw [lg_entry_eq]
  generalize (lg_sl ([.ref (ad o0), .int a1, .int a2]) ++ List.replicate (5 - (lg_sl ([.ref (ad o0), .int a1, .int a2])).length) Slot.unset).toArray = ls at hl ⊢
  have hl : lv_has ls 5 [(0, .ref (ad o0)), (1, .int a1), (2, .int a2)] := hl
  have hb74 : ∀ (M : Mm) (x2 : Int32), f_X7_givenTo_b74 M x2 = some res → ∀ (H : Heap) (locs : List Loc) (ls : Array Slot), Wd D cy shM ad nM (Aw ad nM) s.heap M H locs → lv_has ls 5 [(2, .int x2)] → W p l e (headSpec (wU yX7_givenTo cX7_givenTo 5 (some .int)) rmX7_givenTo).room s m args below meth c H locs 0 0 (QI D cy shM ad nM adK adV below args s res) (F0 m 74 ls []) := by
    intro M x2 h H locs ls hw hl
    unfold f_X7_givenTo_b74 at h
    refine lv_iload_n hx hb dX7_givenTo_74 rfl (lv_at hl 0 rfl) ?_
    refine lv_goto (tgt := 79) hx hb dX7_givenTo_75 (by decide) ?_
    exact r_iret hx hb hr rfl hlocks hZ hK hw h dX7_givenTo_79
  have hb25 : ∀ (M : Mm) (x0 : Nat) (x2 : Int32) (t0 : Int32), f_X7_givenTo_b25 M x0 x2 t0 = some res → ∀ (H : Heap) (locs : List Loc) (ls : Array Slot), Wd D cy shM ad nM (Aw ad nM) s.heap M H locs → lv_has ls 5 [(0, .ref (ad x0)), (2, .int x2)] → W p l e (headSpec (wU yX7_givenTo cX7_givenTo 5 (some .int)) rmX7_givenTo).room s m args below meth c H locs 0 0 (QI D cy shM ad nM adK adV below args s res) (F0 m 25 ls [.int t0]) := by
    intro M x0 x2 t0 h H locs ls hw hl
    unfold f_X7_givenTo_b25 at h
    refine lv_istore_n (lv' := [(3, .int t0), (0, .ref (ad x0)), (2, .int x2)]) hx hb dX7_givenTo_25 rfl hl (by decide) rfl (fun ls hl => ?_)
    refine lv_aload_n hx hb dX7_givenTo_26 rfl (lv_at hl 1 rfl) ?_
    refine lv_iload_n hx hb dX7_givenTo_27 rfl (lv_at hl 2 rfl) ?_
    replace h := gd_some h
    obtain ⟨g2, h⟩ := h
    replace h := bd_some h
    obtain ⟨r1, er1, h⟩ := h
    refine r_callVi (As := [.int x2]) (rest := []) hF (c_X7_isBarred l D cy ad adK adV M x0 x2 r1 er1) (gW_goodV hcm qw1014 qw1011 qw1013 qw23 qw67) hdX7_isBarred rfl ⟨Nat.le_of_ble_eq_true rfl, Nat.le_of_ble_eq_true rfl⟩ rfl rfl hZ hK hw g2 (by decide) rfl rfl hl.1 rfl (Nat.le_of_ble_eq_true rfl) ⟨Nat.zero_le _, Nat.zero_le _⟩ dX7_givenTo_28 (fun H locs hw => ?_)
    refine lv_if_ne (tgt := 36) hx hb dX7_givenTo_31 (by decide) (fun c3 => ?_) (fun c3 => ?_)
    · replace h := if_some_f c3 h
      refine lv_aload_n hx hb dX7_givenTo_36 rfl (lv_at hl 1 rfl) ?_
      refine lv_iload_n hx hb dX7_givenTo_37 rfl (lv_at hl 0 rfl) ?_
      replace h := bd_some h
      obtain ⟨r4, er4, h⟩ := h
      refine r_callVi (As := [.int t0]) (rest := []) hF (c_X7_isBarred l D cy ad adK adV r1.1 x0 t0 r4 er4) (gW_goodV hcm qw1014 qw1011 qw1013 qw23 qw67) hdX7_isBarred rfl ⟨Nat.le_of_ble_eq_true rfl, Nat.le_of_ble_eq_true rfl⟩ rfl rfl hZ hK hw g2 (by decide) rfl rfl hl.1 rfl (Nat.le_of_ble_eq_true rfl) ⟨Nat.zero_le _, Nat.zero_le _⟩ dX7_givenTo_38 (fun H locs hw => ?_)
      refine lv_if_ne (tgt := 46) hx hb dX7_givenTo_41 (by decide) (fun c5 => ?_) (fun c5 => ?_)
      · replace h := if_some_f c5 h
        refine lv_aload_n hx hb dX7_givenTo_46 rfl (lv_at hl 1 rfl) ?_
        refine lv_iload_n hx hb dX7_givenTo_47 rfl (lv_at hl 2 rfl) ?_
        replace h := bd_some h
        obtain ⟨r6, er6, h⟩ := h
        refine r_callVi (As := [.int x2]) (rest := []) hF (c_X7_points l D cy ad adK adV r4.1 x0 x2 r6 er6) (gW_goodV hcm qw1006 qw1003 qw1005 qw21 qw67) hdX7_points rfl ⟨Nat.le_of_ble_eq_true rfl, Nat.le_of_ble_eq_true rfl⟩ rfl rfl hZ hK hw g2 (by decide) rfl rfl hl.1 rfl (Nat.le_of_ble_eq_true rfl) ⟨Nat.zero_le _, Nat.zero_le _⟩ dX7_givenTo_48 (fun H locs hw => ?_)
        refine lv_aload_n hx hb dX7_givenTo_51 rfl (lv_at hl 1 rfl) ?_
        refine lv_iload_n hx hb dX7_givenTo_52 rfl (lv_at hl 0 rfl) ?_
        replace h := bd_some h
        obtain ⟨r7, er7, h⟩ := h
        refine r_callVi (As := [.int t0]) (rest := [.int r6.2]) hF (c_X7_points l D cy ad adK adV r6.1 x0 t0 r7 er7) (gW_goodV hcm qw1006 qw1003 qw1005 qw21 qw67) hdX7_points rfl ⟨Nat.le_of_ble_eq_true rfl, Nat.le_of_ble_eq_true rfl⟩ rfl rfl hZ hK hw g2 (by decide) rfl rfl hl.1 rfl (Nat.le_of_ble_eq_true rfl) ⟨Nat.zero_le _, Nat.zero_le _⟩ dX7_givenTo_53 (fun H locs hw => ?_)
        refine lv_isub hx hb dX7_givenTo_56 ?_
        refine lv_istore (lv' := [(4, .int (r6.2 - r7.2)), (3, .int t0), (0, .ref (ad x0)), (2, .int x2)]) hx hb dX7_givenTo_57 hl (by decide) rfl (fun ls hl => ?_)
        refine lv_iload hx hb dX7_givenTo_59 (lv_at hl 0 rfl) ?_
        refine lv_if_lt (tgt := 74) hx hb dX7_givenTo_61 (by decide) (fun c8 => ?_) (fun c8 => ?_)
        · replace h := if_some_t c8 h
          exact hb74 _ _ h _ _ _ hw (lv_sub hl [3] rfl)
        · replace h := if_some_f c8 h
          refine lv_iload hx hb dX7_givenTo_64 (lv_at hl 0 rfl) ?_
          refine lv_if_ne (tgt := 78) hx hb dX7_givenTo_66 (by decide) (fun c9 => ?_) (fun c9 => ?_)
          · replace h := if_some_f c9 h
            refine lv_iload_n hx hb dX7_givenTo_78 rfl (lv_at hl 1 rfl) ?_
            exact r_iret hx hb hr rfl hlocks hZ hK hw h dX7_givenTo_79
          · replace h := if_some_t c9 h
            refine lv_iload_n hx hb dX7_givenTo_69 rfl (lv_at hl 3 rfl) ?_
            refine lv_iload_n hx hb dX7_givenTo_70 rfl (lv_at hl 1 rfl) ?_
            refine lv_icmp_ge (tgt := 78) hx hb dX7_givenTo_71 (by decide) (fun c10 => ?_) (fun c10 => ?_)
            · replace h := if_some_t c10 h
              refine lv_iload_n hx hb dX7_givenTo_78 rfl (lv_at hl 1 rfl) ?_
              exact r_iret hx hb hr rfl hlocks hZ hK hw h dX7_givenTo_79
            · replace h := if_some_f c10 h
              exact hb74 _ _ h _ _ _ hw (lv_sub hl [3] rfl)
      · replace h := if_some_t c5 h
        refine lv_iload_n hx hb dX7_givenTo_44 rfl (lv_at hl 0 rfl) ?_
        exact r_iret hx hb hr rfl hlocks hZ hK hw h dX7_givenTo_45
    · replace h := if_some_t c3 h
      refine lv_iload_n hx hb dX7_givenTo_34 rfl (lv_at hl 2 rfl) ?_
      exact r_iret hx hb hr rfl hlocks hZ hK hw h dX7_givenTo_35
  unfold f_X7_givenTo at h
  refine lv_aload_n hx hb dX7_givenTo_0 rfl (lv_at hl 0 rfl) ?_
  refine lv_iload_n hx hb dX7_givenTo_1 rfl (lv_at hl 1 rfl) ?_
  refine lv_iconst (v := (0 : Int32)) hx hb dX7_givenTo_2 (by decide) ?_
  replace h := gd_some h
  obtain ⟨g12, h⟩ := h
  replace h := bd_some h
  obtain ⟨r11, er11, h⟩ := h
  refine r_callVi (As := [.int a1, .int (0 : Int32)]) (rest := []) hF (c_X7_of l D cy ad adK adV M o0 a1 (0 : Int32) r11 er11) (gW_goodV hcm qw1010 qw1007 qw1009 qw22 qw67) hdX7_of rfl ⟨Nat.le_of_ble_eq_true rfl, Nat.le_of_ble_eq_true rfl⟩ rfl rfl hZ hK hw g12 (by decide) rfl rfl hl.1 rfl (Nat.le_of_ble_eq_true rfl) ⟨Nat.zero_le _, Nat.zero_le _⟩ dX7_givenTo_3 (fun H locs hw => ?_)
  refine lv_iload_n hx hb dX7_givenTo_6 rfl (lv_at hl 2 rfl) ?_
  refine lv_icmp_ne (tgt := 19) hx hb dX7_givenTo_7 (by decide) (fun c13 => ?_) (fun c13 => ?_)
  · replace h := if_some_f c13 h
    refine lv_aload_n hx hb dX7_givenTo_19 rfl (lv_at hl 0 rfl) ?_
    refine lv_iload_n hx hb dX7_givenTo_20 rfl (lv_at hl 1 rfl) ?_
    refine lv_iconst (v := (0 : Int32)) hx hb dX7_givenTo_21 (by decide) ?_
    replace h := bd_some h
    obtain ⟨r14, er14, h⟩ := h
    refine r_callVi (As := [.int a1, .int (0 : Int32)]) (rest := []) hF (c_X7_of l D cy ad adK adV r11.1 o0 a1 (0 : Int32) r14 er14) (gW_goodV hcm qw1010 qw1007 qw1009 qw22 qw67) hdX7_of rfl ⟨Nat.le_of_ble_eq_true rfl, Nat.le_of_ble_eq_true rfl⟩ rfl rfl hZ hK hw g12 (by decide) rfl rfl hl.1 rfl (Nat.le_of_ble_eq_true rfl) ⟨Nat.zero_le _, Nat.zero_le _⟩ dX7_givenTo_22 (fun H locs hw => ?_)
    exact hb25 _ _ _ _ h _ _ _ hw (lv_sub hl [0, 2] rfl)
  · replace h := if_some_t c13 h
    refine lv_aload_n hx hb dX7_givenTo_10 rfl (lv_at hl 0 rfl) ?_
    refine lv_iload_n hx hb dX7_givenTo_11 rfl (lv_at hl 1 rfl) ?_
    refine lv_iconst (v := (1 : Int32)) hx hb dX7_givenTo_12 (by decide) ?_
    replace h := bd_some h
    obtain ⟨r15, er15, h⟩ := h
    refine r_callVi (As := [.int a1, .int (1 : Int32)]) (rest := []) hF (c_X7_of l D cy ad adK adV r11.1 o0 a1 (1 : Int32) r15 er15) (gW_goodV hcm qw1010 qw1007 qw1009 qw22 qw67) hdX7_of rfl ⟨Nat.le_of_ble_eq_true rfl, Nat.le_of_ble_eq_true rfl⟩ rfl rfl hZ hK hw g12 (by decide) rfl rfl hl.1 rfl (Nat.le_of_ble_eq_true rfl) ⟨Nat.zero_le _, Nat.zero_le _⟩ dX7_givenTo_13 (fun H locs hw => ?_)
    refine lv_goto (tgt := 25) hx hb dX7_givenTo_16 (by decide) ?_
    exact hb25 _ _ _ _ h _ _ _ hw (lv_sub hl [0, 2] rfl)
theorem dX7_wins_0 : decode cX7_wins 0 = .ok (.aload_n 0, 1) := by decide +kernel
theorem dX7_wins_1 : decode cX7_wins 1 = .ok (.getfield 7, 3) := by decide +kernel
theorem dX7_wins_4 : decode cX7_wins 4 = .ok (.iconst 2, 1) := by decide +kernel
theorem dX7_wins_5 : decode cX7_wins 5 = .ok (.iaload, 1) := by decide +kernel
theorem dX7_wins_6 : decode cX7_wins 6 = .ok (.istore 4, 2) := by decide +kernel
theorem dX7_wins_8 : decode cX7_wins 8 = .ok (.bipush 23, 2) := by decide +kernel
theorem dX7_wins_10 : decode cX7_wins 10 = .ok (.bipush 7, 2) := by decide +kernel
theorem dX7_wins_12 : decode cX7_wins 12 = .ok (.iload 4, 2) := by decide +kernel
theorem dX7_wins_14 : decode cX7_wins 14 = .ok (.imul, 1) := by decide +kernel
theorem dX7_wins_15 : decode cX7_wins 15 = .ok (.iadd, 1) := by decide +kernel
theorem dX7_wins_16 : decode cX7_wins 16 = .ok (.istore 5, 2) := by decide +kernel
theorem dX7_wins_18 : decode cX7_wins 18 = .ok (.aload_n 0, 1) := by decide +kernel
theorem dX7_wins_19 : decode cX7_wins 19 = .ok (.getfield 7, 3) := by decide +kernel
theorem dX7_wins_22 : decode cX7_wins 22 = .ok (.iload 5, 2) := by decide +kernel
theorem dX7_wins_24 : decode cX7_wins 24 = .ok (.iconst 4, 1) := by decide +kernel
theorem dX7_wins_25 : decode cX7_wins 25 = .ok (.iadd, 1) := by decide +kernel
theorem dX7_wins_26 : decode cX7_wins 26 = .ok (.aload_n 0, 1) := by decide +kernel
theorem dX7_wins_27 : decode cX7_wins 27 = .ok (.iload 4, 2) := by decide +kernel
theorem dX7_wins_29 : decode cX7_wins 29 = .ok (.iload_n 1, 1) := by decide +kernel
theorem dX7_wins_30 : decode cX7_wins 30 = .ok (.invokevirtual 105, 3) := by decide +kernel
theorem dX7_wins_33 : decode cX7_wins 33 = .ok (.iastore, 1) := by decide +kernel
theorem dX7_wins_34 : decode cX7_wins 34 = .ok (.aload_n 0, 1) := by decide +kernel
theorem dX7_wins_35 : decode cX7_wins 35 = .ok (.getfield 7, 3) := by decide +kernel
theorem dX7_wins_38 : decode cX7_wins 38 = .ok (.iload 5, 2) := by decide +kernel
theorem dX7_wins_40 : decode cX7_wins 40 = .ok (.iconst 3, 1) := by decide +kernel
theorem dX7_wins_41 : decode cX7_wins 41 = .ok (.iadd, 1) := by decide +kernel
theorem dX7_wins_42 : decode cX7_wins 42 = .ok (.iload_n 1, 1) := by decide +kernel
theorem dX7_wins_43 : decode cX7_wins 43 = .ok (.iastore, 1) := by decide +kernel
theorem dX7_wins_44 : decode cX7_wins 44 = .ok (.aload_n 0, 1) := by decide +kernel
theorem dX7_wins_45 : decode cX7_wins 45 = .ok (.getfield 7, 3) := by decide +kernel
theorem dX7_wins_48 : decode cX7_wins 48 = .ok (.iload 5, 2) := by decide +kernel
theorem dX7_wins_50 : decode cX7_wins 50 = .ok (.iconst 5, 1) := by decide +kernel
theorem dX7_wins_51 : decode cX7_wins 51 = .ok (.iadd, 1) := by decide +kernel
theorem dX7_wins_52 : decode cX7_wins 52 = .ok (.iload_n 2, 1) := by decide +kernel
theorem dX7_wins_53 : decode cX7_wins 53 = .ok (.iastore, 1) := by decide +kernel
theorem dX7_wins_54 : decode cX7_wins 54 = .ok (.aload_n 0, 1) := by decide +kernel
theorem dX7_wins_55 : decode cX7_wins 55 = .ok (.getfield 7, 3) := by decide +kernel
theorem dX7_wins_58 : decode cX7_wins 58 = .ok (.iload 5, 2) := by decide +kernel
theorem dX7_wins_60 : decode cX7_wins 60 = .ok (.iconst 5, 1) := by decide +kernel
theorem dX7_wins_61 : decode cX7_wins 61 = .ok (.iadd, 1) := by decide +kernel
theorem dX7_wins_62 : decode cX7_wins 62 = .ok (.iconst 1, 1) := by decide +kernel
theorem dX7_wins_63 : decode cX7_wins 63 = .ok (.iadd, 1) := by decide +kernel
theorem dX7_wins_64 : decode cX7_wins 64 = .ok (.iload_n 3, 1) := by decide +kernel
theorem dX7_wins_65 : decode cX7_wins 65 = .ok (.iastore, 1) := by decide +kernel
theorem dX7_wins_66 : decode cX7_wins 66 = .ok (.aload_n 0, 1) := by decide +kernel
theorem dX7_wins_67 : decode cX7_wins 67 = .ok (.getfield 7, 3) := by decide +kernel
theorem dX7_wins_70 : decode cX7_wins 70 = .ok (.iconst 2, 1) := by decide +kernel
theorem dX7_wins_71 : decode cX7_wins 71 = .ok (.dup2, 1) := by decide +kernel
theorem dX7_wins_72 : decode cX7_wins 72 = .ok (.iaload, 1) := by decide +kernel
theorem dX7_wins_73 : decode cX7_wins 73 = .ok (.iconst 1, 1) := by decide +kernel
theorem dX7_wins_74 : decode cX7_wins 74 = .ok (.iadd, 1) := by decide +kernel
theorem dX7_wins_75 : decode cX7_wins 75 = .ok (.iastore, 1) := by decide +kernel
theorem dX7_wins_76 : decode cX7_wins 76 = .ok (.return_, 1) := by decide +kernel
set_option maxHeartbeats 4000000 in
set_option maxRecDepth 100000 in
theorem c_X7_wins (l : Launch) (D : va_G) (cy : Nat → ClassId) (ad adK adV : Nat → Nat) (M : Mm) (o0 : Nat) (a1 : Int32) (a2 : Int32) (a3 : Int32) (res : Mm × Unit) (h : f_X7_wins M o0 a1 a2 a3 = some res) : Met l yX7_wins (wU yX7_wins cX7_wins 6 none) rmX7_wins (va_Pc [.ref (ad o0), .int a1, .int a2, .int a3] (Pre D cy shM ad nM adK adV M)) (va_Qv (fun (M2 : Mm) => M2 = res.1) (Pre D cy shM ad nM adK adV) (Aw ad nM)) 0 0 (Aw ad nM) := by
  refine Met.ofW (cc := cX7_wins) (maxL := 6) (ret := none) (by decide) rfl ?_
  intro p e s m args below meth c s₁ B hml hv
  obtain ⟨hargs, hPre⟩ := hv
  have hx := B.exec
  have hb := B.bytes
  have hr := B.returns
  have hts := atoms_spec (ws := wU yX7_wins cX7_wins 6 none) B.pre
  have hq : ∀ w ∈ gW, w.before args s = true := fun w hw => hts w (List.mem_cons_of_mem _ hw)
  have hcm : ∀ w ∈ gW, w ∈ wU yX7_wins cX7_wins 6 none := fun w hw => List.mem_cons_of_mem _ hw
  have hown : s.vm.findClass RX7 = some m.cls := findClass_of_methodNamed B.named
  have hlocks := B.notSynchronized
  have hF : CallFix p m c cX7_wins 6 s args (wU yX7_wins cX7_wins 6 none) RX7 := ⟨hx, hb, hml, hown, hts⟩
  have hK := hPre.2.1
  have hZ := hPre.2.2.2
  have hw : Wd D cy shM ad nM (Aw ad nM) s.heap M s.heap [] := ⟨hPre.1, hPre.2.2.1, va_S.rf⟩
  have iw7 : ∀ w ∈ u_ws RX7 TX7 30, w ∈ wU yX7_wins cX7_wins 6 none := fun w hw => List.mem_cons_of_mem _ (iX7 w hw)
  rw [show entryFrame m args 6 = entryFrame m ([.ref (ad o0), .int a1, .int a2, .int a3] : List Value).toArray 6 from by rw [hargs]]
  have hl := lv_entry ([.ref (ad o0), .int a1, .int a2, .int a3]) (n := 6) (Nat.le_of_ble_eq_true rfl)
  rw [lg_entry_eq]
  generalize (lg_sl ([.ref (ad o0), .int a1, .int a2, .int a3]) ++ List.replicate (6 - (lg_sl ([.ref (ad o0), .int a1, .int a2, .int a3])).length) Slot.unset).toArray = ls at hl ⊢
  have hl : lv_has ls 6 [(0, .ref (ad o0)), (1, .int a1), (2, .int a2), (3, .int a3)] := hl
  unfold f_X7_wins at h
  refine lv_aload_n hx hb dX7_wins_0 rfl (lv_at hl 0 rfl) ?_
  replace h := gd_some h
  obtain ⟨g1, h⟩ := h
  replace h := bd_some h
  obtain ⟨q2, eq2, h⟩ := h
  refine r_getR hx hb hts iw7 hown hK hw o0 0 g1 (by decide) rfl (by decide) rfl (hq _ qw888) (fun _ h9 => h9) dX7_wins_1 eq2 ?_
  refine lv_iconst (v := (2 : Int32)) hx hb dX7_wins_4 (by decide) ?_
  replace h := gd_some h
  obtain ⟨g3, h⟩ := h
  refine r_iald hx hb hK hw q2 g3 dX7_wins_5 ?_
  refine lv_istore (lv' := [(4, .int (M.1 q2 (2 : Int32).toNatClampNeg)), (0, .ref (ad o0)), (1, .int a1), (2, .int a2), (3, .int a3)]) hx hb dX7_wins_6 hl (by decide) rfl (fun ls hl => ?_)
  refine lv_bipush (v := (23 : Int32)) hx hb dX7_wins_8 (by decide) ?_
  refine lv_bipush (v := (7 : Int32)) hx hb dX7_wins_10 (by decide) ?_
  refine lv_iload hx hb dX7_wins_12 (lv_at hl 0 rfl) ?_
  refine lv_imul hx hb dX7_wins_14 ?_
  refine lv_iadd hx hb dX7_wins_15 ?_
  refine lv_topi (fun y4 ey4 => ?_)
  replace h := lt_at ey4 h
  refine lv_istore (lv' := [(5, .int y4), (4, .int (M.1 q2 (2 : Int32).toNatClampNeg)), (0, .ref (ad o0)), (1, .int a1), (2, .int a2), (3, .int a3)]) hx hb dX7_wins_16 hl (by decide) rfl (fun ls hl => ?_)
  refine lv_aload_n hx hb dX7_wins_18 rfl (lv_at hl 2 rfl) ?_
  replace h := bd_some h
  obtain ⟨q5, eq5, h⟩ := h
  refine r_getR hx hb hts iw7 hown hK hw o0 0 g1 (by decide) rfl (by decide) rfl (hq _ qw888) (fun _ h9 => h9) dX7_wins_19 eq5 ?_
  refine lv_iload hx hb dX7_wins_22 (lv_at hl 0 rfl) ?_
  refine lv_iconst (v := (4 : Int32)) hx hb dX7_wins_24 (by decide) ?_
  refine lv_iadd hx hb dX7_wins_25 ?_
  refine lv_aload_n hx hb dX7_wins_26 rfl (lv_at hl 2 rfl) ?_
  refine lv_iload hx hb dX7_wins_27 (lv_at hl 1 rfl) ?_
  refine lv_iload_n hx hb dX7_wins_29 rfl (lv_at hl 3 rfl) ?_
  replace h := bd_some h
  obtain ⟨r6, er6, h⟩ := h
  refine r_callVi (As := [.int (M.1 q2 (2 : Int32).toNatClampNeg), .int a1]) (rest := [.int (y4 + (4 : Int32)), .ref (ad q5)]) hF (c_X7_givenTo l D cy ad adK adV M o0 (M.1 q2 (2 : Int32).toNatClampNeg) a1 r6 er6) (gW_goodV hcm qw1170 qw1167 qw1169 qw48 qw67) hdX7_givenTo rfl ⟨Nat.le_of_ble_eq_true rfl, Nat.le_of_ble_eq_true rfl⟩ rfl rfl hZ hK hw g1 (by decide) rfl rfl hl.1 rfl (Nat.le_of_ble_eq_true rfl) ⟨Nat.zero_le _, Nat.zero_le _⟩ dX7_wins_30 (fun H locs hw => ?_)
  replace h := gd_some h
  obtain ⟨g7, h⟩ := h
  refine r_iast hx hb hK hw q5 g7 dX7_wins_33 (fun H locs hw => ?_)
  replace h := lt_some h
  obtain ⟨M8, eM8, h⟩ := h
  rw [← eM8] at hw
  refine lv_aload_n hx hb dX7_wins_34 rfl (lv_at hl 2 rfl) ?_
  replace h := bd_some h
  obtain ⟨q9, eq9, h⟩ := h
  refine r_getR hx hb hts iw7 hown hK hw o0 0 g1 (by decide) rfl (by decide) rfl (hq _ qw888) (fun _ h9 => h9) dX7_wins_35 eq9 ?_
  refine lv_iload hx hb dX7_wins_38 (lv_at hl 0 rfl) ?_
  refine lv_iconst (v := (3 : Int32)) hx hb dX7_wins_40 (by decide) ?_
  refine lv_iadd hx hb dX7_wins_41 ?_
  refine lv_iload_n hx hb dX7_wins_42 rfl (lv_at hl 3 rfl) ?_
  replace h := gd_some h
  obtain ⟨g10, h⟩ := h
  refine r_iast hx hb hK hw q9 g10 dX7_wins_43 (fun H locs hw => ?_)
  replace h := lt_some h
  obtain ⟨M11, eM11, h⟩ := h
  rw [← eM11] at hw
  refine lv_aload_n hx hb dX7_wins_44 rfl (lv_at hl 2 rfl) ?_
  replace h := bd_some h
  obtain ⟨q12, eq12, h⟩ := h
  refine r_getR hx hb hts iw7 hown hK hw o0 0 g1 (by decide) rfl (by decide) rfl (hq _ qw888) (fun _ h9 => h9) dX7_wins_45 eq12 ?_
  refine lv_iload hx hb dX7_wins_48 (lv_at hl 0 rfl) ?_
  refine lv_iconst (v := (5 : Int32)) hx hb dX7_wins_50 (by decide) ?_
  refine lv_iadd hx hb dX7_wins_51 ?_
  refine lv_iload_n hx hb dX7_wins_52 rfl (lv_at hl 4 rfl) ?_
  replace h := gd_some h
  obtain ⟨g13, h⟩ := h
  refine r_iast hx hb hK hw q12 g13 dX7_wins_53 (fun H locs hw => ?_)
  replace h := lt_some h
  obtain ⟨M14, eM14, h⟩ := h
  rw [← eM14] at hw
  refine lv_aload_n hx hb dX7_wins_54 rfl (lv_at hl 2 rfl) ?_
  replace h := bd_some h
  obtain ⟨q15, eq15, h⟩ := h
  refine r_getR hx hb hts iw7 hown hK hw o0 0 g1 (by decide) rfl (by decide) rfl (hq _ qw888) (fun _ h9 => h9) dX7_wins_55 eq15 ?_
  refine lv_iload hx hb dX7_wins_58 (lv_at hl 0 rfl) ?_
  refine lv_iconst (v := (5 : Int32)) hx hb dX7_wins_60 (by decide) ?_
  refine lv_iadd hx hb dX7_wins_61 ?_
  refine lv_iconst (v := (1 : Int32)) hx hb dX7_wins_62 (by decide) ?_
  refine lv_iadd hx hb dX7_wins_63 ?_
  refine lv_iload_n hx hb dX7_wins_64 rfl (lv_at hl 5 rfl) ?_
  replace h := gd_some h
  obtain ⟨g16, h⟩ := h
  refine r_iast hx hb hK hw q15 g16 dX7_wins_65 (fun H locs hw => ?_)
  replace h := lt_some h
  obtain ⟨M17, eM17, h⟩ := h
  rw [← eM17] at hw
  refine lv_aload_n hx hb dX7_wins_66 rfl (lv_at hl 2 rfl) ?_
  replace h := bd_some h
  obtain ⟨q18, eq18, h⟩ := h
  refine r_getR hx hb hts iw7 hown hK hw o0 0 g1 (by decide) rfl (by decide) rfl (hq _ qw888) (fun _ h9 => h9) dX7_wins_67 eq18 ?_
  refine lv_iconst (v := (2 : Int32)) hx hb dX7_wins_70 (by decide) ?_
  refine lv_dup2_11 hx hb dX7_wins_71 rfl rfl ?_
  replace h := gd_some h
  obtain ⟨g19, h⟩ := h
  refine r_iald hx hb hK hw q18 g19 dX7_wins_72 ?_
  refine lv_iconst (v := (1 : Int32)) hx hb dX7_wins_73 (by decide) ?_
  refine lv_iadd hx hb dX7_wins_74 ?_
  replace h := gd_some h
  obtain ⟨g20, h⟩ := h
  refine r_iast hx hb hK hw q18 g20 dX7_wins_75 (fun H locs hw => ?_)
  replace h := lt_some h
  obtain ⟨M21, eM21, h⟩ := h
  rw [← eM21] at hw
  exact r_vret hx hb hr hlocks hZ hK hw h dX7_wins_76

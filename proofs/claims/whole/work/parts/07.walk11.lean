theorem dX7_best_0 : decode cX7_best 0 = .ok (.aload_n 0, 1) := by decide +kernel
theorem dX7_best_1 : decode cX7_best 1 = .ok (.iload_n 1, 1) := by decide +kernel
theorem dX7_best_2 : decode cX7_best 2 = .ok (.invokevirtual 121, 3) := by decide +kernel
theorem dX7_best_5 : decode cX7_best 5 = .ok (.ifCond .ne 9, 3) := by decide +kernel
theorem dX7_best_8 : decode cX7_best 8 = .ok (.aload_n 0, 1) := by decide +kernel
theorem dX7_best_9 : decode cX7_best 9 = .ok (.iconst 0, 1) := by decide +kernel
theorem dX7_best_10 : decode cX7_best 10 = .ok (.invokevirtual 115, 3) := by decide +kernel
theorem dX7_best_13 : decode cX7_best 13 = .ok (.ireturn, 1) := by decide +kernel
theorem dX7_best_14 : decode cX7_best 14 = .ok (.aload_n 0, 1) := by decide +kernel
theorem dX7_best_15 : decode cX7_best 15 = .ok (.invokevirtual 227, 3) := by decide +kernel
theorem dX7_best_18 : decode cX7_best 18 = .ok (.ifCond .eq 9, 3) := by decide +kernel
theorem dX7_best_21 : decode cX7_best 21 = .ok (.aload_n 0, 1) := by decide +kernel
theorem dX7_best_22 : decode cX7_best 22 = .ok (.iconst 3, 1) := by decide +kernel
theorem dX7_best_23 : decode cX7_best 23 = .ok (.invokevirtual 115, 3) := by decide +kernel
theorem dX7_best_26 : decode cX7_best 26 = .ok (.ireturn, 1) := by decide +kernel
theorem dX7_best_27 : decode cX7_best 27 = .ok (.aload_n 0, 1) := by decide +kernel
theorem dX7_best_28 : decode cX7_best 28 = .ok (.iload_n 1, 1) := by decide +kernel
theorem dX7_best_29 : decode cX7_best 29 = .ok (.aload_n 0, 1) := by decide +kernel
theorem dX7_best_30 : decode cX7_best 30 = .ok (.getfield 7, 3) := by decide +kernel
theorem dX7_best_33 : decode cX7_best 33 = .ok (.iconst 2, 1) := by decide +kernel
theorem dX7_best_34 : decode cX7_best 34 = .ok (.iaload, 1) := by decide +kernel
theorem dX7_best_35 : decode cX7_best 35 = .ok (.invokevirtual 75, 3) := by decide +kernel
theorem dX7_best_38 : decode cX7_best 38 = .ok (.ifCond .ne 9, 3) := by decide +kernel
theorem dX7_best_41 : decode cX7_best 41 = .ok (.aload_n 0, 1) := by decide +kernel
theorem dX7_best_42 : decode cX7_best 42 = .ok (.iconst 4, 1) := by decide +kernel
theorem dX7_best_43 : decode cX7_best 43 = .ok (.invokevirtual 115, 3) := by decide +kernel
theorem dX7_best_46 : decode cX7_best 46 = .ok (.ireturn, 1) := by decide +kernel
theorem dX7_best_47 : decode cX7_best 47 = .ok (.aload_n 0, 1) := by decide +kernel
theorem dX7_best_48 : decode cX7_best 48 = .ok (.aload_n 0, 1) := by decide +kernel
theorem dX7_best_49 : decode cX7_best 49 = .ok (.getfield 7, 3) := by decide +kernel
theorem dX7_best_52 : decode cX7_best 52 = .ok (.iconst 2, 1) := by decide +kernel
theorem dX7_best_53 : decode cX7_best 53 = .ok (.iaload, 1) := by decide +kernel
theorem dX7_best_54 : decode cX7_best 54 = .ok (.putfield 22, 3) := by decide +kernel
theorem dX7_best_57 : decode cX7_best 57 = .ok (.aload_n 0, 1) := by decide +kernel
theorem dX7_best_58 : decode cX7_best 58 = .ok (.iload_n 1, 1) := by decide +kernel
theorem dX7_best_59 : decode cX7_best 59 = .ok (.putfield 79, 3) := by decide +kernel
theorem dX7_best_62 : decode cX7_best 62 = .ok (.iconst (-1), 1) := by decide +kernel
theorem dX7_best_63 : decode cX7_best 63 = .ok (.istore_n 2, 1) := by decide +kernel
theorem dX7_best_64 : decode cX7_best 64 = .ok (.lconst 0, 1) := by decide +kernel
theorem dX7_best_65 : decode cX7_best 65 = .ok (.lstore_n 3, 1) := by decide +kernel
theorem dX7_best_66 : decode cX7_best 66 = .ok (.iconst 0, 1) := by decide +kernel
theorem dX7_best_67 : decode cX7_best 67 = .ok (.istore 5, 2) := by decide +kernel
theorem dX7_best_69 : decode cX7_best 69 = .ok (.iload 5, 2) := by decide +kernel
theorem dX7_best_71 : decode cX7_best 71 = .ok (.iconst 3, 1) := by decide +kernel
theorem dX7_best_72 : decode cX7_best 72 = .ok (.if_icmp .gt 39, 3) := by decide +kernel
theorem dX7_best_75 : decode cX7_best 75 = .ok (.aload_n 0, 1) := by decide +kernel
theorem dX7_best_76 : decode cX7_best 76 = .ok (.iload 5, 2) := by decide +kernel
theorem dX7_best_78 : decode cX7_best 78 = .ok (.putfield 82, 3) := by decide +kernel
theorem dX7_best_81 : decode cX7_best 81 = .ok (.aload_n 0, 1) := by decide +kernel
theorem dX7_best_82 : decode cX7_best 82 = .ok (.iload_n 1, 1) := by decide +kernel
theorem dX7_best_83 : decode cX7_best 83 = .ok (.invokevirtual 273, 3) := by decide +kernel
theorem dX7_best_86 : decode cX7_best 86 = .ok (.lstore 6, 2) := by decide +kernel
theorem dX7_best_88 : decode cX7_best 88 = .ok (.iload_n 2, 1) := by decide +kernel
theorem dX7_best_89 : decode cX7_best 89 = .ok (.ifCond .lt 10, 3) := by decide +kernel
theorem dX7_best_92 : decode cX7_best 92 = .ok (.lload 6, 2) := by decide +kernel
theorem dX7_best_94 : decode cX7_best 94 = .ok (.lload_n 3, 1) := by decide +kernel
theorem dX7_best_95 : decode cX7_best 95 = .ok (.lcmp, 1) := by decide +kernel
theorem dX7_best_96 : decode cX7_best 96 = .ok (.ifCond .le 9, 3) := by decide +kernel
theorem dX7_best_99 : decode cX7_best 99 = .ok (.iload 5, 2) := by decide +kernel
theorem dX7_best_101 : decode cX7_best 101 = .ok (.istore_n 2, 1) := by decide +kernel
theorem dX7_best_102 : decode cX7_best 102 = .ok (.lload 6, 2) := by decide +kernel
theorem dX7_best_104 : decode cX7_best 104 = .ok (.lstore_n 3, 1) := by decide +kernel
theorem dX7_best_105 : decode cX7_best 105 = .ok (.iinc 5 1, 3) := by decide +kernel
theorem dX7_best_108 : decode cX7_best 108 = .ok (.goto (-39), 3) := by decide +kernel
theorem dX7_best_111 : decode cX7_best 111 = .ok (.aload_n 0, 1) := by decide +kernel
theorem dX7_best_112 : decode cX7_best 112 = .ok (.iconst (-1), 1) := by decide +kernel
theorem dX7_best_113 : decode cX7_best 113 = .ok (.putfield 22, 3) := by decide +kernel
theorem dX7_best_116 : decode cX7_best 116 = .ok (.iload_n 2, 1) := by decide +kernel
theorem dX7_best_117 : decode cX7_best 117 = .ok (.ireturn, 1) := by decide +kernel
set_option maxHeartbeats 4000000 in
set_option maxRecDepth 100000 in
theorem c_X7_best (l : Launch) (D : va_G) (cy : Nat → ClassId) (ad adK adV : Nat → Nat) (M : Mm) (o0 : Nat) (a1 : Int32) (res : Mm × Int32) (h : f_X7_best M o0 a1 = some res) : Met l yX7_best (wU yX7_best cX7_best 8 (some .int)) rmX7_best (va_Pc [.ref (ad o0), .int a1] (Pre D cy shM ad nM adK adV M)) (va_Qi (fun r (M2 : Mm) => r = res.2 ∧ M2 = res.1) (Pre D cy shM ad nM adK adV) (Aw ad nM)) 0 0 (Aw ad nM) := by
  refine Met.ofW (cc := cX7_best) (maxL := 8) (ret := (some .int)) (by decide) rfl ?_
  intro p e s m args below meth c s₁ B hml hv
  obtain ⟨hargs, hPre⟩ := hv
  have hx := B.exec
  have hb := B.bytes
  have hr := B.returns
  have hts := atoms_spec (ws := wU yX7_best cX7_best 8 (some .int)) B.pre
  have hq : ∀ w ∈ gW, w.before args s = true := fun w hw => hts w (List.mem_cons_of_mem _ hw)
  have hcm : ∀ w ∈ gW, w ∈ wU yX7_best cX7_best 8 (some .int) := fun w hw => List.mem_cons_of_mem _ hw
  have hown : s.vm.findClass RX7 = some m.cls := findClass_of_methodNamed B.named
  have hlocks := B.notSynchronized
  have hF : CallFix p m c cX7_best 8 s args (wU yX7_best cX7_best 8 (some .int)) RX7 := ⟨hx, hb, hml, hown, hts⟩
  have hK := hPre.2.1
  have hZ := hPre.2.2.2
  have hw : Wd D cy shM ad nM (Aw ad nM) s.heap M s.heap [] := ⟨hPre.1, hPre.2.2.1, va_S.rf⟩
  have iw7 : ∀ w ∈ u_ws RX7 TX7 30, w ∈ wU yX7_best cX7_best 8 (some .int) := fun w hw => List.mem_cons_of_mem _ (iX7 w hw)
  rw [show entryFrame m args 8 = entryFrame m ([.ref (ad o0), .int a1] : List Value).toArray 8 from by rw [hargs]]
  have hl := lv_entry ([.ref (ad o0), .int a1]) (n := 8) (Nat.le_of_ble_eq_true rfl)
  rw [lg_entry_eq]
  generalize (lg_sl ([.ref (ad o0), .int a1]) ++ List.replicate (8 - (lg_sl ([.ref (ad o0), .int a1])).length) Slot.unset).toArray = ls at hl ⊢
  have hl : lv_has ls 8 [(0, .ref (ad o0)), (1, .int a1)] := hl
  have hb105 : ∀ (k69 : Mm → Nat → Int32 → Int32 → Int64 → Int32 → Option (Mm × Int32)) (hk69 : ∀ (M : Mm) (x0 : Nat) (x1 : Int32) (x2 : Int32) (x3 : Int64) (x5 : Int32), k69 M x0 x1 x2 x3 x5 = some res → ∀ (H : Heap) (locs : List Loc) (ls : Array Slot), Wd D cy shM ad nM (Aw ad nM) s.heap M H locs → lv_has ls 8 [(0, .ref (ad x0)), (1, .int x1), (2, .int x2), (3, .long x3), (5, .int x5)] → W p l e (headSpec (wU yX7_best cX7_best 8 (some .int)) rmX7_best).room s m args below meth c H locs 0 0 (QI D cy shM ad nM adK adV below args s res) (F0 m 69 ls [])), ∀ (M : Mm) (x0 : Nat) (x1 : Int32) (x2 : Int32) (x3 : Int64) (x5 : Int32), f_X7_best_b105 k69 M x0 x1 x2 x3 x5 = some res → ∀ (H : Heap) (locs : List Loc) (ls : Array Slot), Wd D cy shM ad nM (Aw ad nM) s.heap M H locs → lv_has ls 8 [(0, .ref (ad x0)), (1, .int x1), (2, .int x2), (3, .long x3), (5, .int x5)] → W p l e (headSpec (wU yX7_best cX7_best 8 (some .int)) rmX7_best).room s m args below meth c H locs 0 0 (QI D cy shM ad nM adK adV below args s res) (F0 m 105 ls []) := by
    intro k69 hk69
    intro M x0 x1 x2 x3 x5 h H locs ls hw hl
    unfold f_X7_best_b105 at h
    refine lv_iinc (v := x5 + (1 : Int32)) (lv' := [(5, .int (x5 + (1 : Int32))), (0, .ref (ad x0)), (1, .int x1), (2, .int x2), (3, .long x3)]) hx hb dX7_best_105 hl (k := 4) rfl (congrArg (fun z => x5 + z) (by decide)) (by decide) rfl (fun ls hl => ?_)
    refine lv_goto (tgt := 69) hx hb dX7_best_108 (by decide) ?_
    exact hk69 _ _ _ _ _ _ h _ _ _ hw (lv_sub hl [1, 2, 3, 4, 0] rfl)
  have hb99 : ∀ (k69 : Mm → Nat → Int32 → Int32 → Int64 → Int32 → Option (Mm × Int32)) (hk69 : ∀ (M : Mm) (x0 : Nat) (x1 : Int32) (x2 : Int32) (x3 : Int64) (x5 : Int32), k69 M x0 x1 x2 x3 x5 = some res → ∀ (H : Heap) (locs : List Loc) (ls : Array Slot), Wd D cy shM ad nM (Aw ad nM) s.heap M H locs → lv_has ls 8 [(0, .ref (ad x0)), (1, .int x1), (2, .int x2), (3, .long x3), (5, .int x5)] → W p l e (headSpec (wU yX7_best cX7_best 8 (some .int)) rmX7_best).room s m args below meth c H locs 0 0 (QI D cy shM ad nM adK adV below args s res) (F0 m 69 ls [])), ∀ (M : Mm) (x0 : Nat) (x1 : Int32) (x5 : Int32) (x6 : Int64), f_X7_best_b99 k69 M x0 x1 x5 x6 = some res → ∀ (H : Heap) (locs : List Loc) (ls : Array Slot), Wd D cy shM ad nM (Aw ad nM) s.heap M H locs → lv_has ls 8 [(0, .ref (ad x0)), (1, .int x1), (5, .int x5), (6, .long x6)] → W p l e (headSpec (wU yX7_best cX7_best 8 (some .int)) rmX7_best).room s m args below meth c H locs 0 0 (QI D cy shM ad nM adK adV below args s res) (F0 m 99 ls []) := by
    intro k69 hk69
    intro M x0 x1 x5 x6 h H locs ls hw hl
    unfold f_X7_best_b99 at h
    refine lv_iload hx hb dX7_best_99 (lv_at hl 2 rfl) ?_
    refine lv_istore_n (lv' := [(2, .int x5), (0, .ref (ad x0)), (1, .int x1), (5, .int x5), (6, .long x6)]) hx hb dX7_best_101 rfl hl (by decide) rfl (fun ls hl => ?_)
    refine lv_lload hx hb dX7_best_102 (lv_at hl 4 rfl) ?_
    refine lv_lstore_n (lv' := [(3, .long x6), (2, .int x5), (0, .ref (ad x0)), (1, .int x1), (5, .int x5), (6, .long x6)]) hx hb dX7_best_104 rfl hl (by decide) rfl (fun ls hl => ?_)
    exact hb105 _ hk69 _ _ _ _ _ _ h _ _ _ hw (lv_sub hl [2, 3, 1, 0, 4] rfl)
  have hb69 : ∀ (nn : Nat), ∀ (M : Mm) (x0 : Nat) (x1 : Int32) (x2 : Int32) (x3 : Int64) (x5 : Int32), f_X7_best_b69 nn M x0 x1 x2 x3 x5 = some res → ∀ (H : Heap) (locs : List Loc) (ls : Array Slot), Wd D cy shM ad nM (Aw ad nM) s.heap M H locs → lv_has ls 8 [(0, .ref (ad x0)), (1, .int x1), (2, .int x2), (3, .long x3), (5, .int x5)] → W p l e (headSpec (wU yX7_best cX7_best 8 (some .int)) rmX7_best).room s m args below meth c H locs 0 0 (QI D cy shM ad nM adK adV below args s res) (F0 m 69 ls []) := by
    intro nn
    induction nn with
    | zero => intro M x0 x1 x2 x3 x5 h; simp [f_X7_best_b69] at h
    | succ nn ih =>
      intro M x0 x1 x2 x3 x5 h H locs ls hw hl
      unfold f_X7_best_b69 at h
      refine lv_iload hx hb dX7_best_69 (lv_at hl 4 rfl) ?_
      refine lv_iconst (v := (3 : Int32)) hx hb dX7_best_71 (by decide) ?_
      refine lv_icmp_gt (tgt := 111) hx hb dX7_best_72 (by decide) (fun c1 => ?_) (fun c1 => ?_)
      · replace h := if_some_t c1 h
        refine lv_aload_n hx hb dX7_best_111 rfl (lv_at hl 0 rfl) ?_
        refine lv_iconst (v := (-1 : Int32)) hx hb dX7_best_112 (by decide) ?_
        replace h := gd_some h
        obtain ⟨g2, h⟩ := h
        refine r_putI hx hb hts iw7 tyX7 tyX7_ok nmX7 hown hK hw x0 5 g2 (by decide) rfl (by decide) rfl (hq _ qw893) (fun _ h9 => h9) rfl rfl rfl dX7_best_113 (fun H locs hw => ?_)
        replace h := lt_some h
        obtain ⟨M3, eM3, h⟩ := h
        rw [← eM3] at hw
        refine lv_iload_n hx hb dX7_best_116 rfl (lv_at hl 2 rfl) ?_
        exact r_iret hx hb hr rfl hlocks hZ hK hw h dX7_best_117
      · replace h := if_some_f c1 h
        refine lv_aload_n hx hb dX7_best_75 rfl (lv_at hl 0 rfl) ?_
        refine lv_iload hx hb dX7_best_76 (lv_at hl 4 rfl) ?_
        replace h := gd_some h
        obtain ⟨g4, h⟩ := h
        refine r_putI hx hb hts iw7 tyX7 tyX7_ok nmX7 hown hK hw x0 7 g4 (by decide) rfl (by decide) rfl (hq _ qw895) (fun _ h9 => h9) rfl rfl rfl dX7_best_78 (fun H locs hw => ?_)
        replace h := lt_some h
        obtain ⟨M5, eM5, h⟩ := h
        rw [← eM5] at hw
        refine lv_aload_n hx hb dX7_best_81 rfl (lv_at hl 0 rfl) ?_
        refine lv_iload_n hx hb dX7_best_82 rfl (lv_at hl 1 rfl) ?_
        replace h := bd_some h
        obtain ⟨r6, er6, h⟩ := h
        refine r_callVl (As := [.int x1]) (rest := []) hF (c_X7_meanOf l D cy ad adK adV M5 x0 x1 r6 er6) (gW_goodV hcm qw1254 qw1251 qw1253 qw55 qw67) hdX7_meanOf rfl ⟨Nat.le_of_ble_eq_true rfl, Nat.le_of_ble_eq_true rfl⟩ rfl rfl hZ hK hw g4 (by decide) rfl rfl hl.1 rfl (Nat.le_of_ble_eq_true rfl) ⟨Nat.zero_le _, Nat.zero_le _⟩ dX7_best_83 (fun H locs hw => ?_)
        refine lv_lstore (lv' := [(6, .long r6.2), (0, .ref (ad x0)), (1, .int x1), (2, .int x2), (3, .long x3), (5, .int x5)]) hx hb dX7_best_86 hl (by decide) rfl (fun ls hl => ?_)
        refine lv_iload_n hx hb dX7_best_88 rfl (lv_at hl 3 rfl) ?_
        refine lv_if_lt (tgt := 99) hx hb dX7_best_89 (by decide) (fun c7 => ?_) (fun c7 => ?_)
        · replace h := if_some_t c7 h
          exact hb99 _ ih _ _ _ _ _ h _ _ _ hw (lv_sub hl [1, 2, 5, 0] rfl)
        · replace h := if_some_f c7 h
          refine lv_lload hx hb dX7_best_92 (lv_at hl 0 rfl) ?_
          refine lv_lload_n hx hb dX7_best_94 rfl (lv_at hl 4 rfl) ?_
          refine W.lcmp hx hb dX7_best_95 ?_
          refine lv_if_le (tgt := 105) hx hb dX7_best_96 (by decide) (fun c8 => ?_) (fun c8 => ?_)
          · replace h := if_some_t c8 h
            exact hb105 _ ih _ _ _ _ _ _ h _ _ _ hw (lv_sub hl [1, 2, 3, 4, 5] rfl)
          · replace h := if_some_f c8 h
            exact hb99 _ ih _ _ _ _ _ h _ _ _ hw (lv_sub hl [1, 2, 5, 0] rfl)
  unfold f_X7_best at h
  refine lv_aload_n hx hb dX7_best_0 rfl (lv_at hl 0 rfl) ?_
  refine lv_iload_n hx hb dX7_best_1 rfl (lv_at hl 1 rfl) ?_
  replace h := gd_some h
  obtain ⟨g10, h⟩ := h
  replace h := bd_some h
  obtain ⟨r9, er9, h⟩ := h
  refine r_callVi (As := [.int a1]) (rest := []) hF (c_X7_isSide l D cy ad adK adV M o0 a1 r9 er9) (gW_goodV hcm qw1002 qw999 qw1001 qw20 qw67) hdX7_isSide rfl ⟨Nat.le_of_ble_eq_true rfl, Nat.le_of_ble_eq_true rfl⟩ rfl rfl hZ hK hw g10 (by decide) rfl rfl hl.1 rfl (Nat.le_of_ble_eq_true rfl) ⟨Nat.zero_le _, Nat.zero_le _⟩ dX7_best_2 (fun H locs hw => ?_)
  refine lv_if_ne (tgt := 14) hx hb dX7_best_5 (by decide) (fun c11 => ?_) (fun c11 => ?_)
  · replace h := if_some_f c11 h
    refine lv_aload_n hx hb dX7_best_14 rfl (lv_at hl 0 rfl) ?_
    replace h := bd_some h
    obtain ⟨r12, er12, h⟩ := h
    refine r_callVi (As := []) (rest := []) hF (c_X7_isOver l D cy ad adK adV r9.1 o0 r12 er12) (gW_goodV hcm qw1138 qw1135 qw1137 qw41 qw67) hdX7_isOver rfl ⟨Nat.le_of_ble_eq_true rfl, Nat.le_of_ble_eq_true rfl⟩ rfl rfl hZ hK hw g10 (by decide) rfl rfl hl.1 rfl (Nat.le_of_ble_eq_true rfl) ⟨Nat.zero_le _, Nat.zero_le _⟩ dX7_best_15 (fun H locs hw => ?_)
    refine lv_if_eq (tgt := 27) hx hb dX7_best_18 (by decide) (fun c13 => ?_) (fun c13 => ?_)
    · replace h := if_some_t c13 h
      refine lv_aload_n hx hb dX7_best_27 rfl (lv_at hl 0 rfl) ?_
      refine lv_iload_n hx hb dX7_best_28 rfl (lv_at hl 1 rfl) ?_
      refine lv_aload_n hx hb dX7_best_29 rfl (lv_at hl 0 rfl) ?_
      replace h := bd_some h
      obtain ⟨q14, eq14, h⟩ := h
      refine r_getR hx hb hts iw7 hown hK hw o0 0 g10 (by decide) rfl (by decide) rfl (hq _ qw888) (fun _ h9 => h9) dX7_best_30 eq14 ?_
      refine lv_iconst (v := (2 : Int32)) hx hb dX7_best_33 (by decide) ?_
      replace h := gd_some h
      obtain ⟨g15, h⟩ := h
      refine r_iald hx hb hK hw q14 g15 dX7_best_34 ?_
      replace h := bd_some h
      obtain ⟨r16, er16, h⟩ := h
      refine r_callVi (As := [.int a1, .int (r12.1.1 q14 (2 : Int32).toNatClampNeg)]) (rest := []) hF (c_X7_plays l D cy ad adK adV r12.1 o0 a1 (r12.1.1 q14 (2 : Int32).toNatClampNeg) r16 er16) (gW_goodV hcm qw1018 qw1015 qw1017 qw24 qw67) hdX7_plays rfl ⟨Nat.le_of_ble_eq_true rfl, Nat.le_of_ble_eq_true rfl⟩ rfl rfl hZ hK hw g10 (by decide) rfl rfl hl.1 rfl (Nat.le_of_ble_eq_true rfl) ⟨Nat.zero_le _, Nat.zero_le _⟩ dX7_best_35 (fun H locs hw => ?_)
      refine lv_if_ne (tgt := 47) hx hb dX7_best_38 (by decide) (fun c17 => ?_) (fun c17 => ?_)
      · replace h := if_some_f c17 h
        refine lv_aload_n hx hb dX7_best_47 rfl (lv_at hl 0 rfl) ?_
        refine lv_aload_n hx hb dX7_best_48 rfl (lv_at hl 0 rfl) ?_
        replace h := bd_some h
        obtain ⟨q18, eq18, h⟩ := h
        refine r_getR hx hb hts iw7 hown hK hw o0 0 g10 (by decide) rfl (by decide) rfl (hq _ qw888) (fun _ h9 => h9) dX7_best_49 eq18 ?_
        refine lv_iconst (v := (2 : Int32)) hx hb dX7_best_52 (by decide) ?_
        replace h := gd_some h
        obtain ⟨g19, h⟩ := h
        refine r_iald hx hb hK hw q18 g19 dX7_best_53 ?_
        refine r_putI hx hb hts iw7 tyX7 tyX7_ok nmX7 hown hK hw o0 5 g10 (by decide) rfl (by decide) rfl (hq _ qw893) (fun _ h9 => h9) rfl rfl rfl dX7_best_54 (fun H locs hw => ?_)
        replace h := lt_some h
        obtain ⟨M20, eM20, h⟩ := h
        rw [← eM20] at hw
        refine lv_aload_n hx hb dX7_best_57 rfl (lv_at hl 0 rfl) ?_
        refine lv_iload_n hx hb dX7_best_58 rfl (lv_at hl 1 rfl) ?_
        refine r_putI hx hb hts iw7 tyX7 tyX7_ok nmX7 hown hK hw o0 6 g10 (by decide) rfl (by decide) rfl (hq _ qw894) (fun _ h9 => h9) rfl rfl rfl dX7_best_59 (fun H locs hw => ?_)
        replace h := lt_some h
        obtain ⟨M21, eM21, h⟩ := h
        rw [← eM21] at hw
        refine lv_iconst (v := (-1 : Int32)) hx hb dX7_best_62 (by decide) ?_
        refine lv_istore_n (lv' := [(2, .int (-1 : Int32)), (0, .ref (ad o0)), (1, .int a1)]) hx hb dX7_best_63 rfl hl (by decide) rfl (fun ls hl => ?_)
        refine lv_lconst (v := (0 : Int64)) hx hb dX7_best_64 (by decide) ?_
        refine lv_lstore_n (lv' := [(3, .long (0 : Int64)), (2, .int (-1 : Int32)), (0, .ref (ad o0)), (1, .int a1)]) hx hb dX7_best_65 rfl hl (by decide) rfl (fun ls hl => ?_)
        refine lv_iconst (v := (0 : Int32)) hx hb dX7_best_66 (by decide) ?_
        refine lv_istore (lv' := [(5, .int (0 : Int32)), (3, .long (0 : Int64)), (2, .int (-1 : Int32)), (0, .ref (ad o0)), (1, .int a1)]) hx hb dX7_best_67 hl (by decide) rfl (fun ls hl => ?_)
        exact hb69 1000 _ _ _ _ _ _ h _ _ _ hw (lv_sub hl [3, 4, 2, 1, 0] rfl)
      · replace h := if_some_t c17 h
        refine lv_aload_n hx hb dX7_best_41 rfl (lv_at hl 0 rfl) ?_
        refine lv_iconst (v := (4 : Int32)) hx hb dX7_best_42 (by decide) ?_
        replace h := bd_some h
        obtain ⟨r22, er22, h⟩ := h
        refine r_callVi (As := [.int (4 : Int32)]) (rest := []) hF (c_X7_finding l D cy ad adK adV r16.1 o0 (4 : Int32) r22 er22) (gW_goodV hcm qw989 qw986 qw988 qw18 qw67) hdX7_finding rfl ⟨Nat.le_of_ble_eq_true rfl, Nat.le_of_ble_eq_true rfl⟩ rfl rfl hZ hK hw g10 (by decide) rfl rfl hl.1 rfl (Nat.le_of_ble_eq_true rfl) ⟨Nat.zero_le _, Nat.zero_le _⟩ dX7_best_43 (fun H locs hw => ?_)
        exact r_iret hx hb hr rfl hlocks hZ hK hw h dX7_best_46
    · replace h := if_some_f c13 h
      refine lv_aload_n hx hb dX7_best_21 rfl (lv_at hl 0 rfl) ?_
      refine lv_iconst (v := (3 : Int32)) hx hb dX7_best_22 (by decide) ?_
      replace h := bd_some h
      obtain ⟨r23, er23, h⟩ := h
      refine r_callVi (As := [.int (3 : Int32)]) (rest := []) hF (c_X7_finding l D cy ad adK adV r12.1 o0 (3 : Int32) r23 er23) (gW_goodV hcm qw989 qw986 qw988 qw18 qw67) hdX7_finding rfl ⟨Nat.le_of_ble_eq_true rfl, Nat.le_of_ble_eq_true rfl⟩ rfl rfl hZ hK hw g10 (by decide) rfl rfl hl.1 rfl (Nat.le_of_ble_eq_true rfl) ⟨Nat.zero_le _, Nat.zero_le _⟩ dX7_best_23 (fun H locs hw => ?_)
      exact r_iret hx hb hr rfl hlocks hZ hK hw h dX7_best_26
  · replace h := if_some_t c11 h
    refine lv_aload_n hx hb dX7_best_8 rfl (lv_at hl 0 rfl) ?_
    refine lv_iconst (v := (0 : Int32)) hx hb dX7_best_9 (by decide) ?_
    replace h := bd_some h
    obtain ⟨r24, er24, h⟩ := h
    refine r_callVi (As := [.int (0 : Int32)]) (rest := []) hF (c_X7_finding l D cy ad adK adV r9.1 o0 (0 : Int32) r24 er24) (gW_goodV hcm qw989 qw986 qw988 qw18 qw67) hdX7_finding rfl ⟨Nat.le_of_ble_eq_true rfl, Nat.le_of_ble_eq_true rfl⟩ rfl rfl hZ hK hw g10 (by decide) rfl rfl hl.1 rfl (Nat.le_of_ble_eq_true rfl) ⟨Nat.zero_le _, Nat.zero_le _⟩ dX7_best_10 (fun H locs hw => ?_)
    exact r_iret hx hb hr rfl hlocks hZ hK hw h dX7_best_13
theorem dX7_bestLaid_0 : decode cX7_bestLaid 0 = .ok (.aload_n 0, 1) := by decide +kernel
theorem dX7_bestLaid_1 : decode cX7_bestLaid 1 = .ok (.getfield 7, 3) := by decide +kernel
theorem dX7_bestLaid_4 : decode cX7_bestLaid 4 = .ok (.iload_n 1, 1) := by decide +kernel
theorem dX7_bestLaid_5 : decode cX7_bestLaid 5 = .ok (.iaload, 1) := by decide +kernel
theorem dX7_bestLaid_6 : decode cX7_bestLaid 6 = .ok (.istore 5, 2) := by decide +kernel
theorem dX7_bestLaid_8 : decode cX7_bestLaid 8 = .ok (.iconst (-1), 1) := by decide +kernel
theorem dX7_bestLaid_9 : decode cX7_bestLaid 9 = .ok (.istore 6, 2) := by decide +kernel
theorem dX7_bestLaid_11 : decode cX7_bestLaid 11 = .ok (.lconst 0, 1) := by decide +kernel
theorem dX7_bestLaid_12 : decode cX7_bestLaid 12 = .ok (.lstore 7, 2) := by decide +kernel
theorem dX7_bestLaid_14 : decode cX7_bestLaid 14 = .ok (.iload_n 2, 1) := by decide +kernel
theorem dX7_bestLaid_15 : decode cX7_bestLaid 15 = .ok (.istore 9, 2) := by decide +kernel
theorem dX7_bestLaid_17 : decode cX7_bestLaid 17 = .ok (.iload 9, 2) := by decide +kernel
theorem dX7_bestLaid_19 : decode cX7_bestLaid 19 = .ok (.iload_n 3, 1) := by decide +kernel
theorem dX7_bestLaid_20 : decode cX7_bestLaid 20 = .ok (.if_icmp .gt 46, 3) := by decide +kernel
theorem dX7_bestLaid_23 : decode cX7_bestLaid 23 = .ok (.aload_n 0, 1) := by decide +kernel
theorem dX7_bestLaid_24 : decode cX7_bestLaid 24 = .ok (.getfield 7, 3) := by decide +kernel
theorem dX7_bestLaid_27 : decode cX7_bestLaid 27 = .ok (.iload_n 1, 1) := by decide +kernel
theorem dX7_bestLaid_28 : decode cX7_bestLaid 28 = .ok (.iload 9, 2) := by decide +kernel
theorem dX7_bestLaid_30 : decode cX7_bestLaid 30 = .ok (.iastore, 1) := by decide +kernel
theorem dX7_bestLaid_31 : decode cX7_bestLaid 31 = .ok (.aload_n 0, 1) := by decide +kernel
theorem dX7_bestLaid_32 : decode cX7_bestLaid 32 = .ok (.iload 4, 2) := by decide +kernel
theorem dX7_bestLaid_34 : decode cX7_bestLaid 34 = .ok (.invokevirtual 273, 3) := by decide +kernel
theorem dX7_bestLaid_37 : decode cX7_bestLaid 37 = .ok (.lstore 10, 2) := by decide +kernel
theorem dX7_bestLaid_39 : decode cX7_bestLaid 39 = .ok (.iload 6, 2) := by decide +kernel
theorem dX7_bestLaid_41 : decode cX7_bestLaid 41 = .ok (.ifCond .lt 11, 3) := by decide +kernel
theorem dX7_bestLaid_44 : decode cX7_bestLaid 44 = .ok (.lload 10, 2) := by decide +kernel
theorem dX7_bestLaid_46 : decode cX7_bestLaid 46 = .ok (.lload 7, 2) := by decide +kernel
theorem dX7_bestLaid_48 : decode cX7_bestLaid 48 = .ok (.lcmp, 1) := by decide +kernel
theorem dX7_bestLaid_49 : decode cX7_bestLaid 49 = .ok (.ifCond .le 11, 3) := by decide +kernel
theorem dX7_bestLaid_52 : decode cX7_bestLaid 52 = .ok (.iload 9, 2) := by decide +kernel
theorem dX7_bestLaid_54 : decode cX7_bestLaid 54 = .ok (.istore 6, 2) := by decide +kernel
theorem dX7_bestLaid_56 : decode cX7_bestLaid 56 = .ok (.lload 10, 2) := by decide +kernel
theorem dX7_bestLaid_58 : decode cX7_bestLaid 58 = .ok (.lstore 7, 2) := by decide +kernel
theorem dX7_bestLaid_60 : decode cX7_bestLaid 60 = .ok (.iinc 9 1, 3) := by decide +kernel
theorem dX7_bestLaid_63 : decode cX7_bestLaid 63 = .ok (.goto (-46), 3) := by decide +kernel
theorem dX7_bestLaid_66 : decode cX7_bestLaid 66 = .ok (.aload_n 0, 1) := by decide +kernel
theorem dX7_bestLaid_67 : decode cX7_bestLaid 67 = .ok (.getfield 7, 3) := by decide +kernel
theorem dX7_bestLaid_70 : decode cX7_bestLaid 70 = .ok (.iload_n 1, 1) := by decide +kernel
theorem dX7_bestLaid_71 : decode cX7_bestLaid 71 = .ok (.iload 5, 2) := by decide +kernel
theorem dX7_bestLaid_73 : decode cX7_bestLaid 73 = .ok (.iastore, 1) := by decide +kernel
theorem dX7_bestLaid_74 : decode cX7_bestLaid 74 = .ok (.iload 6, 2) := by decide +kernel
theorem dX7_bestLaid_76 : decode cX7_bestLaid 76 = .ok (.ireturn, 1) := by decide +kernel
set_option maxHeartbeats 4000000 in
set_option maxRecDepth 100000 in
theorem c_X7_bestLaid (l : Launch) (D : va_G) (cy : Nat → ClassId) (ad adK adV : Nat → Nat) (M : Mm) (o0 : Nat) (a1 : Int32) (a2 : Int32) (a3 : Int32) (a4 : Int32) (res : Mm × Int32) (h : f_X7_bestLaid M o0 a1 a2 a3 a4 = some res) : Met l yX7_bestLaid (wU yX7_bestLaid cX7_bestLaid 12 (some .int)) rmX7_bestLaid (va_Pc [.ref (ad o0), .int a1, .int a2, .int a3, .int a4] (Pre D cy shM ad nM adK adV M)) (va_Qi (fun r (M2 : Mm) => r = res.2 ∧ M2 = res.1) (Pre D cy shM ad nM adK adV) (Aw ad nM)) 0 0 (Aw ad nM) := by
  refine Met.ofW (cc := cX7_bestLaid) (maxL := 12) (ret := (some .int)) (by decide) rfl ?_
  intro p e s m args below meth c s₁ B hml hv
  obtain ⟨hargs, hPre⟩ := hv
  have hx := B.exec
  have hb := B.bytes
  have hr := B.returns
  have hts := atoms_spec (ws := wU yX7_bestLaid cX7_bestLaid 12 (some .int)) B.pre
  have hq : ∀ w ∈ gW, w.before args s = true := fun w hw => hts w (List.mem_cons_of_mem _ hw)
  have hcm : ∀ w ∈ gW, w ∈ wU yX7_bestLaid cX7_bestLaid 12 (some .int) := fun w hw => List.mem_cons_of_mem _ hw
  have hown : s.vm.findClass RX7 = some m.cls := findClass_of_methodNamed B.named
  have hlocks := B.notSynchronized
  have hF : CallFix p m c cX7_bestLaid 12 s args (wU yX7_bestLaid cX7_bestLaid 12 (some .int)) RX7 := ⟨hx, hb, hml, hown, hts⟩
  have hK := hPre.2.1
  have hZ := hPre.2.2.2
  have hw : Wd D cy shM ad nM (Aw ad nM) s.heap M s.heap [] := ⟨hPre.1, hPre.2.2.1, va_S.rf⟩
  have iw7 : ∀ w ∈ u_ws RX7 TX7 30, w ∈ wU yX7_bestLaid cX7_bestLaid 12 (some .int) := fun w hw => List.mem_cons_of_mem _ (iX7 w hw)
  rw [show entryFrame m args 12 = entryFrame m ([.ref (ad o0), .int a1, .int a2, .int a3, .int a4] : List Value).toArray 12 from by rw [hargs]]
  have hl := lv_entry ([.ref (ad o0), .int a1, .int a2, .int a3, .int a4]) (n := 12) (Nat.le_of_ble_eq_true rfl)
  rw [lg_entry_eq]
  generalize (lg_sl ([.ref (ad o0), .int a1, .int a2, .int a3, .int a4]) ++ List.replicate (12 - (lg_sl ([.ref (ad o0), .int a1, .int a2, .int a3, .int a4])).length) Slot.unset).toArray = ls at hl ⊢
  have hl : lv_has ls 12 [(0, .ref (ad o0)), (1, .int a1), (2, .int a2), (3, .int a3), (4, .int a4)] := hl
  have hb60 : ∀ (k17 : Mm → Nat → Int32 → Int32 → Int32 → Int32 → Int32 → Int64 → Int32 → Option (Mm × Int32)) (hk17 : ∀ (M : Mm) (x0 : Nat) (x1 : Int32) (x3 : Int32) (x4 : Int32) (x5 : Int32) (x6 : Int32) (x7 : Int64) (x9 : Int32), k17 M x0 x1 x3 x4 x5 x6 x7 x9 = some res → ∀ (H : Heap) (locs : List Loc) (ls : Array Slot), Wd D cy shM ad nM (Aw ad nM) s.heap M H locs → lv_has ls 12 [(0, .ref (ad x0)), (1, .int x1), (3, .int x3), (4, .int x4), (5, .int x5), (6, .int x6), (7, .long x7), (9, .int x9)] → W p l e (headSpec (wU yX7_bestLaid cX7_bestLaid 12 (some .int)) rmX7_bestLaid).room s m args below meth c H locs 0 0 (QI D cy shM ad nM adK adV below args s res) (F0 m 17 ls [])), ∀ (M : Mm) (x0 : Nat) (x1 : Int32) (x3 : Int32) (x4 : Int32) (x5 : Int32) (x6 : Int32) (x7 : Int64) (x9 : Int32), f_X7_bestLaid_b60 k17 M x0 x1 x3 x4 x5 x6 x7 x9 = some res → ∀ (H : Heap) (locs : List Loc) (ls : Array Slot), Wd D cy shM ad nM (Aw ad nM) s.heap M H locs → lv_has ls 12 [(0, .ref (ad x0)), (1, .int x1), (3, .int x3), (4, .int x4), (5, .int x5), (6, .int x6), (7, .long x7), (9, .int x9)] → W p l e (headSpec (wU yX7_bestLaid cX7_bestLaid 12 (some .int)) rmX7_bestLaid).room s m args below meth c H locs 0 0 (QI D cy shM ad nM adK adV below args s res) (F0 m 60 ls []) := by
    intro k17 hk17
    intro M x0 x1 x3 x4 x5 x6 x7 x9 h H locs ls hw hl
    unfold f_X7_bestLaid_b60 at h
    refine lv_iinc (v := x9 + (1 : Int32)) (lv' := [(9, .int (x9 + (1 : Int32))), (0, .ref (ad x0)), (1, .int x1), (3, .int x3), (4, .int x4), (5, .int x5), (6, .int x6), (7, .long x7)]) hx hb dX7_bestLaid_60 hl (k := 7) rfl (congrArg (fun z => x9 + z) (by decide)) (by decide) rfl (fun ls hl => ?_)
    refine lv_goto (tgt := 17) hx hb dX7_bestLaid_63 (by decide) ?_
    exact hk17 _ _ _ _ _ _ _ _ _ h _ _ _ hw (lv_sub hl [1, 2, 3, 4, 5, 6, 7, 0] rfl)
  have hb52 : ∀ (k17 : Mm → Nat → Int32 → Int32 → Int32 → Int32 → Int32 → Int64 → Int32 → Option (Mm × Int32)) (hk17 : ∀ (M : Mm) (x0 : Nat) (x1 : Int32) (x3 : Int32) (x4 : Int32) (x5 : Int32) (x6 : Int32) (x7 : Int64) (x9 : Int32), k17 M x0 x1 x3 x4 x5 x6 x7 x9 = some res → ∀ (H : Heap) (locs : List Loc) (ls : Array Slot), Wd D cy shM ad nM (Aw ad nM) s.heap M H locs → lv_has ls 12 [(0, .ref (ad x0)), (1, .int x1), (3, .int x3), (4, .int x4), (5, .int x5), (6, .int x6), (7, .long x7), (9, .int x9)] → W p l e (headSpec (wU yX7_bestLaid cX7_bestLaid 12 (some .int)) rmX7_bestLaid).room s m args below meth c H locs 0 0 (QI D cy shM ad nM adK adV below args s res) (F0 m 17 ls [])), ∀ (M : Mm) (x0 : Nat) (x1 : Int32) (x3 : Int32) (x4 : Int32) (x5 : Int32) (x9 : Int32) (x10 : Int64), f_X7_bestLaid_b52 k17 M x0 x1 x3 x4 x5 x9 x10 = some res → ∀ (H : Heap) (locs : List Loc) (ls : Array Slot), Wd D cy shM ad nM (Aw ad nM) s.heap M H locs → lv_has ls 12 [(0, .ref (ad x0)), (1, .int x1), (3, .int x3), (4, .int x4), (5, .int x5), (9, .int x9), (10, .long x10)] → W p l e (headSpec (wU yX7_bestLaid cX7_bestLaid 12 (some .int)) rmX7_bestLaid).room s m args below meth c H locs 0 0 (QI D cy shM ad nM adK adV below args s res) (F0 m 52 ls []) := by
    intro k17 hk17
    intro M x0 x1 x3 x4 x5 x9 x10 h H locs ls hw hl
    unfold f_X7_bestLaid_b52 at h
    refine lv_iload hx hb dX7_bestLaid_52 (lv_at hl 5 rfl) ?_
    refine lv_istore (lv' := [(6, .int x9), (0, .ref (ad x0)), (1, .int x1), (3, .int x3), (4, .int x4), (5, .int x5), (9, .int x9), (10, .long x10)]) hx hb dX7_bestLaid_54 hl (by decide) rfl (fun ls hl => ?_)
    refine lv_lload hx hb dX7_bestLaid_56 (lv_at hl 7 rfl) ?_
    refine lv_lstore (lv' := [(7, .long x10), (6, .int x9), (0, .ref (ad x0)), (1, .int x1), (3, .int x3), (4, .int x4), (5, .int x5), (9, .int x9), (10, .long x10)]) hx hb dX7_bestLaid_58 hl (by decide) rfl (fun ls hl => ?_)
    exact hb60 _ hk17 _ _ _ _ _ _ _ _ _ h _ _ _ hw (lv_sub hl [2, 3, 4, 5, 6, 1, 0, 7] rfl)
  have hb17 : ∀ (nn : Nat), ∀ (M : Mm) (x0 : Nat) (x1 : Int32) (x3 : Int32) (x4 : Int32) (x5 : Int32) (x6 : Int32) (x7 : Int64) (x9 : Int32), f_X7_bestLaid_b17 nn M x0 x1 x3 x4 x5 x6 x7 x9 = some res → ∀ (H : Heap) (locs : List Loc) (ls : Array Slot), Wd D cy shM ad nM (Aw ad nM) s.heap M H locs → lv_has ls 12 [(0, .ref (ad x0)), (1, .int x1), (3, .int x3), (4, .int x4), (5, .int x5), (6, .int x6), (7, .long x7), (9, .int x9)] → W p l e (headSpec (wU yX7_bestLaid cX7_bestLaid 12 (some .int)) rmX7_bestLaid).room s m args below meth c H locs 0 0 (QI D cy shM ad nM adK adV below args s res) (F0 m 17 ls []) := by
    intro nn
    induction nn with
    | zero => intro M x0 x1 x3 x4 x5 x6 x7 x9 h; simp [f_X7_bestLaid_b17] at h
    | succ nn ih =>
      intro M x0 x1 x3 x4 x5 x6 x7 x9 h H locs ls hw hl
      unfold f_X7_bestLaid_b17 at h
      refine lv_iload hx hb dX7_bestLaid_17 (lv_at hl 7 rfl) ?_
      refine lv_iload_n hx hb dX7_bestLaid_19 rfl (lv_at hl 2 rfl) ?_
      refine lv_icmp_gt (tgt := 66) hx hb dX7_bestLaid_20 (by decide) (fun c1 => ?_) (fun c1 => ?_)
      · replace h := if_some_t c1 h
        refine lv_aload_n hx hb dX7_bestLaid_66 rfl (lv_at hl 0 rfl) ?_
        replace h := gd_some h
        obtain ⟨g2, h⟩ := h
        replace h := bd_some h
        obtain ⟨q3, eq3, h⟩ := h
        refine r_getR hx hb hts iw7 hown hK hw x0 0 g2 (by decide) rfl (by decide) rfl (hq _ qw888) (fun _ h9 => h9) dX7_bestLaid_67 eq3 ?_
        refine lv_iload_n hx hb dX7_bestLaid_70 rfl (lv_at hl 1 rfl) ?_
        refine lv_iload hx hb dX7_bestLaid_71 (lv_at hl 4 rfl) ?_
        replace h := gd_some h
        obtain ⟨g4, h⟩ := h
        refine r_iast hx hb hK hw q3 g4 dX7_bestLaid_73 (fun H locs hw => ?_)
        replace h := lt_some h
        obtain ⟨M5, eM5, h⟩ := h
        rw [← eM5] at hw
        refine lv_iload hx hb dX7_bestLaid_74 (lv_at hl 5 rfl) ?_
        exact r_iret hx hb hr rfl hlocks hZ hK hw h dX7_bestLaid_76
      · replace h := if_some_f c1 h
        refine lv_aload_n hx hb dX7_bestLaid_23 rfl (lv_at hl 0 rfl) ?_
        replace h := gd_some h
        obtain ⟨g6, h⟩ := h
        replace h := bd_some h
        obtain ⟨q7, eq7, h⟩ := h
        refine r_getR hx hb hts iw7 hown hK hw x0 0 g6 (by decide) rfl (by decide) rfl (hq _ qw888) (fun _ h9 => h9) dX7_bestLaid_24 eq7 ?_
        refine lv_iload_n hx hb dX7_bestLaid_27 rfl (lv_at hl 1 rfl) ?_
        refine lv_iload hx hb dX7_bestLaid_28 (lv_at hl 7 rfl) ?_
        replace h := gd_some h
        obtain ⟨g8, h⟩ := h
        refine r_iast hx hb hK hw q7 g8 dX7_bestLaid_30 (fun H locs hw => ?_)
        replace h := lt_some h
        obtain ⟨M9, eM9, h⟩ := h
        rw [← eM9] at hw
        refine lv_aload_n hx hb dX7_bestLaid_31 rfl (lv_at hl 0 rfl) ?_
        refine lv_iload hx hb dX7_bestLaid_32 (lv_at hl 3 rfl) ?_
        replace h := bd_some h
        obtain ⟨r10, er10, h⟩ := h
        refine r_callVl (As := [.int x4]) (rest := []) hF (c_X7_meanOf l D cy ad adK adV M9 x0 x4 r10 er10) (gW_goodV hcm qw1254 qw1251 qw1253 qw55 qw67) hdX7_meanOf rfl ⟨Nat.le_of_ble_eq_true rfl, Nat.le_of_ble_eq_true rfl⟩ rfl rfl hZ hK hw g6 (by decide) rfl rfl hl.1 rfl (Nat.le_of_ble_eq_true rfl) ⟨Nat.zero_le _, Nat.zero_le _⟩ dX7_bestLaid_34 (fun H locs hw => ?_)
        refine lv_lstore (lv' := [(10, .long r10.2), (0, .ref (ad x0)), (1, .int x1), (3, .int x3), (4, .int x4), (5, .int x5), (6, .int x6), (7, .long x7), (9, .int x9)]) hx hb dX7_bestLaid_37 hl (by decide) rfl (fun ls hl => ?_)
        refine lv_iload hx hb dX7_bestLaid_39 (lv_at hl 6 rfl) ?_
        refine lv_if_lt (tgt := 52) hx hb dX7_bestLaid_41 (by decide) (fun c11 => ?_) (fun c11 => ?_)
        · replace h := if_some_t c11 h
          exact hb52 _ ih _ _ _ _ _ _ _ _ h _ _ _ hw (lv_sub hl [1, 2, 3, 4, 5, 8, 0] rfl)
        · replace h := if_some_f c11 h
          refine lv_lload hx hb dX7_bestLaid_44 (lv_at hl 0 rfl) ?_
          refine lv_lload hx hb dX7_bestLaid_46 (lv_at hl 7 rfl) ?_
          refine W.lcmp hx hb dX7_bestLaid_48 ?_
          refine lv_if_le (tgt := 60) hx hb dX7_bestLaid_49 (by decide) (fun c12 => ?_) (fun c12 => ?_)
          · replace h := if_some_t c12 h
            exact hb60 _ ih _ _ _ _ _ _ _ _ _ h _ _ _ hw (lv_sub hl [1, 2, 3, 4, 5, 6, 7, 8] rfl)
          · replace h := if_some_f c12 h
            exact hb52 _ ih _ _ _ _ _ _ _ _ h _ _ _ hw (lv_sub hl [1, 2, 3, 4, 5, 8, 0] rfl)
  unfold f_X7_bestLaid at h
  refine lv_aload_n hx hb dX7_bestLaid_0 rfl (lv_at hl 0 rfl) ?_
  replace h := gd_some h
  obtain ⟨g13, h⟩ := h
  replace h := bd_some h
  obtain ⟨q14, eq14, h⟩ := h
  refine r_getR hx hb hts iw7 hown hK hw o0 0 g13 (by decide) rfl (by decide) rfl (hq _ qw888) (fun _ h9 => h9) dX7_bestLaid_1 eq14 ?_
  refine lv_iload_n hx hb dX7_bestLaid_4 rfl (lv_at hl 1 rfl) ?_
  replace h := gd_some h
  obtain ⟨g15, h⟩ := h
  refine r_iald hx hb hK hw q14 g15 dX7_bestLaid_5 ?_
  refine lv_istore (lv' := [(5, .int (M.1 q14 a1.toNatClampNeg)), (0, .ref (ad o0)), (1, .int a1), (2, .int a2), (3, .int a3), (4, .int a4)]) hx hb dX7_bestLaid_6 hl (by decide) rfl (fun ls hl => ?_)
  refine lv_iconst (v := (-1 : Int32)) hx hb dX7_bestLaid_8 (by decide) ?_
  refine lv_istore (lv' := [(6, .int (-1 : Int32)), (5, .int (M.1 q14 a1.toNatClampNeg)), (0, .ref (ad o0)), (1, .int a1), (2, .int a2), (3, .int a3), (4, .int a4)]) hx hb dX7_bestLaid_9 hl (by decide) rfl (fun ls hl => ?_)
  refine lv_lconst (v := (0 : Int64)) hx hb dX7_bestLaid_11 (by decide) ?_
  refine lv_lstore (lv' := [(7, .long (0 : Int64)), (6, .int (-1 : Int32)), (5, .int (M.1 q14 a1.toNatClampNeg)), (0, .ref (ad o0)), (1, .int a1), (2, .int a2), (3, .int a3), (4, .int a4)]) hx hb dX7_bestLaid_12 hl (by decide) rfl (fun ls hl => ?_)
  refine lv_iload_n hx hb dX7_bestLaid_14 rfl (lv_at hl 5 rfl) ?_
  refine lv_istore (lv' := [(9, .int a2), (7, .long (0 : Int64)), (6, .int (-1 : Int32)), (5, .int (M.1 q14 a1.toNatClampNeg)), (0, .ref (ad o0)), (1, .int a1), (2, .int a2), (3, .int a3), (4, .int a4)]) hx hb dX7_bestLaid_15 hl (by decide) rfl (fun ls hl => ?_)
  exact hb17 1000 _ _ _ _ _ _ _ _ _ h _ _ _ hw (lv_sub hl [4, 5, 7, 8, 3, 2, 1, 0] rfl)
theorem dX7_kindFor_0 : decode cX7_kindFor 0 = .ok (.aload_n 0, 1) := by decide +kernel
theorem dX7_kindFor_1 : decode cX7_kindFor 1 = .ok (.iload_n 1, 1) := by decide +kernel
theorem dX7_kindFor_2 : decode cX7_kindFor 2 = .ok (.invokevirtual 121, 3) := by decide +kernel
theorem dX7_kindFor_5 : decode cX7_kindFor 5 = .ok (.ifCond .eq 21, 3) := by decide +kernel
theorem dX7_kindFor_8 : decode cX7_kindFor 8 = .ok (.aload_n 0, 1) := by decide +kernel
theorem dX7_kindFor_9 : decode cX7_kindFor 9 = .ok (.iconst 5, 1) := by decide +kernel
theorem dX7_kindFor_10 : decode cX7_kindFor 10 = .ok (.iconst 3, 1) := by decide +kernel
theorem dX7_kindFor_11 : decode cX7_kindFor 11 = .ok (.iload_n 1, 1) := by decide +kernel
theorem dX7_kindFor_12 : decode cX7_kindFor 12 = .ok (.imul, 1) := by decide +kernel
theorem dX7_kindFor_13 : decode cX7_kindFor 13 = .ok (.iadd, 1) := by decide +kernel
theorem dX7_kindFor_14 : decode cX7_kindFor 14 = .ok (.iconst 0, 1) := by decide +kernel
theorem dX7_kindFor_15 : decode cX7_kindFor 15 = .ok (.iadd, 1) := by decide +kernel
theorem dX7_kindFor_16 : decode cX7_kindFor 16 = .ok (.iconst 0, 1) := by decide +kernel
theorem dX7_kindFor_17 : decode cX7_kindFor 17 = .ok (.bipush 6, 2) := by decide +kernel
theorem dX7_kindFor_19 : decode cX7_kindFor 19 = .ok (.iload_n 1, 1) := by decide +kernel
theorem dX7_kindFor_20 : decode cX7_kindFor 20 = .ok (.invokevirtual 277, 3) := by decide +kernel
theorem dX7_kindFor_23 : decode cX7_kindFor 23 = .ok (.goto 8, 3) := by decide +kernel
theorem dX7_kindFor_26 : decode cX7_kindFor 26 = .ok (.aload_n 0, 1) := by decide +kernel
theorem dX7_kindFor_27 : decode cX7_kindFor 27 = .ok (.iconst 0, 1) := by decide +kernel
theorem dX7_kindFor_28 : decode cX7_kindFor 28 = .ok (.invokevirtual 115, 3) := by decide +kernel
theorem dX7_kindFor_31 : decode cX7_kindFor 31 = .ok (.ireturn, 1) := by decide +kernel
set_option maxHeartbeats 4000000 in
set_option maxRecDepth 100000 in
theorem c_X7_kindFor (l : Launch) (D : va_G) (cy : Nat → ClassId) (ad adK adV : Nat → Nat) (M : Mm) (o0 : Nat) (a1 : Int32) (res : Mm × Int32) (h : f_X7_kindFor M o0 a1 = some res) : Met l yX7_kindFor (wU yX7_kindFor cX7_kindFor 2 (some .int)) rmX7_kindFor (va_Pc [.ref (ad o0), .int a1] (Pre D cy shM ad nM adK adV M)) (va_Qi (fun r (M2 : Mm) => r = res.2 ∧ M2 = res.1) (Pre D cy shM ad nM adK adV) (Aw ad nM)) 0 0 (Aw ad nM) := by
  refine Met.ofW (cc := cX7_kindFor) (maxL := 2) (ret := (some .int)) (by decide) rfl ?_
  intro p e s m args below meth c s₁ B hml hv
  obtain ⟨hargs, hPre⟩ := hv
  have hx := B.exec
  have hb := B.bytes
  have hr := B.returns
  have hts := atoms_spec (ws := wU yX7_kindFor cX7_kindFor 2 (some .int)) B.pre
  have hq : ∀ w ∈ gW, w.before args s = true := fun w hw => hts w (List.mem_cons_of_mem _ hw)
  have hcm : ∀ w ∈ gW, w ∈ wU yX7_kindFor cX7_kindFor 2 (some .int) := fun w hw => List.mem_cons_of_mem _ hw
  have hown : s.vm.findClass RX7 = some m.cls := findClass_of_methodNamed B.named
  have hlocks := B.notSynchronized
  have hF : CallFix p m c cX7_kindFor 2 s args (wU yX7_kindFor cX7_kindFor 2 (some .int)) RX7 := ⟨hx, hb, hml, hown, hts⟩
  have hK := hPre.2.1
  have hZ := hPre.2.2.2
  have hw : Wd D cy shM ad nM (Aw ad nM) s.heap M s.heap [] := ⟨hPre.1, hPre.2.2.1, va_S.rf⟩
  rw [show entryFrame m args 2 = entryFrame m ([.ref (ad o0), .int a1] : List Value).toArray 2 from by rw [hargs]]
  have hl := lv_entry ([.ref (ad o0), .int a1]) (n := 2) (Nat.le_of_ble_eq_true rfl)
  rw [lg_entry_eq]
  generalize (lg_sl ([.ref (ad o0), .int a1]) ++ List.replicate (2 - (lg_sl ([.ref (ad o0), .int a1])).length) Slot.unset).toArray = ls at hl ⊢
  have hl : lv_has ls 2 [(0, .ref (ad o0)), (1, .int a1)] := hl
  unfold f_X7_kindFor at h
  refine lv_aload_n hx hb dX7_kindFor_0 rfl (lv_at hl 0 rfl) ?_
  refine lv_iload_n hx hb dX7_kindFor_1 rfl (lv_at hl 1 rfl) ?_
  replace h := gd_some h
  obtain ⟨g2, h⟩ := h
  replace h := bd_some h
  obtain ⟨r1, er1, h⟩ := h
  refine r_callVi (As := [.int a1]) (rest := []) hF (c_X7_isSide l D cy ad adK adV M o0 a1 r1 er1) (gW_goodV hcm qw1002 qw999 qw1001 qw20 qw67) hdX7_isSide rfl ⟨Nat.le_of_ble_eq_true rfl, Nat.le_of_ble_eq_true rfl⟩ rfl rfl hZ hK hw g2 (by decide) rfl rfl hl.1 rfl (Nat.le_of_ble_eq_true rfl) ⟨Nat.zero_le _, Nat.zero_le _⟩ dX7_kindFor_2 (fun H locs hw => ?_)
  refine lv_if_eq (tgt := 26) hx hb dX7_kindFor_5 (by decide) (fun c3 => ?_) (fun c3 => ?_)
  · replace h := if_some_t c3 h
    refine lv_aload_n hx hb dX7_kindFor_26 rfl (lv_at hl 0 rfl) ?_
    refine lv_iconst (v := (0 : Int32)) hx hb dX7_kindFor_27 (by decide) ?_
    replace h := bd_some h
    obtain ⟨r4, er4, h⟩ := h
    refine r_callVi (As := [.int (0 : Int32)]) (rest := []) hF (c_X7_finding l D cy ad adK adV r1.1 o0 (0 : Int32) r4 er4) (gW_goodV hcm qw989 qw986 qw988 qw18 qw67) hdX7_finding rfl ⟨Nat.le_of_ble_eq_true rfl, Nat.le_of_ble_eq_true rfl⟩ rfl rfl hZ hK hw g2 (by decide) rfl rfl hl.1 rfl (Nat.le_of_ble_eq_true rfl) ⟨Nat.zero_le _, Nat.zero_le _⟩ dX7_kindFor_28 (fun H locs hw => ?_)
    exact r_iret hx hb hr rfl hlocks hZ hK hw h dX7_kindFor_31
  · replace h := if_some_f c3 h
    refine lv_aload_n hx hb dX7_kindFor_8 rfl (lv_at hl 0 rfl) ?_
    refine lv_iconst (v := (5 : Int32)) hx hb dX7_kindFor_9 (by decide) ?_
    refine lv_iconst (v := (3 : Int32)) hx hb dX7_kindFor_10 (by decide) ?_
    refine lv_iload_n hx hb dX7_kindFor_11 rfl (lv_at hl 1 rfl) ?_
    refine lv_imul hx hb dX7_kindFor_12 ?_
    refine lv_iadd hx hb dX7_kindFor_13 ?_
    refine lv_iconst (v := (0 : Int32)) hx hb dX7_kindFor_14 (by decide) ?_
    refine lv_iadd hx hb dX7_kindFor_15 ?_
    refine lv_iconst (v := (0 : Int32)) hx hb dX7_kindFor_16 (by decide) ?_
    refine lv_bipush (v := (6 : Int32)) hx hb dX7_kindFor_17 (by decide) ?_
    refine lv_iload_n hx hb dX7_kindFor_19 rfl (lv_at hl 1 rfl) ?_
    replace h := bd_some h
    obtain ⟨r5, er5, h⟩ := h
    refine r_callVi (As := [.int (((5 : Int32) + ((3 : Int32) * a1)) + (0 : Int32)), .int (0 : Int32), .int (6 : Int32), .int a1]) (rest := []) hF (c_X7_bestLaid l D cy ad adK adV r1.1 o0 (((5 : Int32) + ((3 : Int32) * a1)) + (0 : Int32)) (0 : Int32) (6 : Int32) a1 r5 er5) (gW_goodV hcm qw1262 qw1259 qw1261 qw56 qw67) hdX7_bestLaid rfl ⟨Nat.le_of_ble_eq_true rfl, Nat.le_of_ble_eq_true rfl⟩ rfl rfl hZ hK hw g2 (by decide) rfl rfl hl.1 rfl (Nat.le_of_ble_eq_true rfl) ⟨Nat.zero_le _, Nat.zero_le _⟩ dX7_kindFor_20 (fun H locs hw => ?_)
    refine lv_goto (tgt := 31) hx hb dX7_kindFor_23 (by decide) ?_
    exact r_iret hx hb hr rfl hlocks hZ hK hw h dX7_kindFor_31
theorem dX7_tellsFor_0 : decode cX7_tellsFor 0 = .ok (.aload_n 0, 1) := by decide +kernel
theorem dX7_tellsFor_1 : decode cX7_tellsFor 1 = .ok (.iload_n 1, 1) := by decide +kernel
theorem dX7_tellsFor_2 : decode cX7_tellsFor 2 = .ok (.invokevirtual 121, 3) := by decide +kernel
theorem dX7_tellsFor_5 : decode cX7_tellsFor 5 = .ok (.ifCond .eq 21, 3) := by decide +kernel
theorem dX7_tellsFor_8 : decode cX7_tellsFor 8 = .ok (.aload_n 0, 1) := by decide +kernel
theorem dX7_tellsFor_9 : decode cX7_tellsFor 9 = .ok (.iconst 5, 1) := by decide +kernel
theorem dX7_tellsFor_10 : decode cX7_tellsFor 10 = .ok (.iconst 3, 1) := by decide +kernel
theorem dX7_tellsFor_11 : decode cX7_tellsFor 11 = .ok (.iload_n 1, 1) := by decide +kernel
theorem dX7_tellsFor_12 : decode cX7_tellsFor 12 = .ok (.imul, 1) := by decide +kernel
theorem dX7_tellsFor_13 : decode cX7_tellsFor 13 = .ok (.iadd, 1) := by decide +kernel
theorem dX7_tellsFor_14 : decode cX7_tellsFor 14 = .ok (.iconst 2, 1) := by decide +kernel
theorem dX7_tellsFor_15 : decode cX7_tellsFor 15 = .ok (.iadd, 1) := by decide +kernel
theorem dX7_tellsFor_16 : decode cX7_tellsFor 16 = .ok (.iconst 0, 1) := by decide +kernel
theorem dX7_tellsFor_17 : decode cX7_tellsFor 17 = .ok (.bipush 9, 2) := by decide +kernel
theorem dX7_tellsFor_19 : decode cX7_tellsFor 19 = .ok (.iload_n 1, 1) := by decide +kernel
theorem dX7_tellsFor_20 : decode cX7_tellsFor 20 = .ok (.invokevirtual 277, 3) := by decide +kernel
theorem dX7_tellsFor_23 : decode cX7_tellsFor 23 = .ok (.goto 8, 3) := by decide +kernel
theorem dX7_tellsFor_26 : decode cX7_tellsFor 26 = .ok (.aload_n 0, 1) := by decide +kernel
theorem dX7_tellsFor_27 : decode cX7_tellsFor 27 = .ok (.iconst 0, 1) := by decide +kernel
theorem dX7_tellsFor_28 : decode cX7_tellsFor 28 = .ok (.invokevirtual 115, 3) := by decide +kernel
theorem dX7_tellsFor_31 : decode cX7_tellsFor 31 = .ok (.ireturn, 1) := by decide +kernel
set_option maxHeartbeats 4000000 in
set_option maxRecDepth 100000 in
theorem c_X7_tellsFor (l : Launch) (D : va_G) (cy : Nat → ClassId) (ad adK adV : Nat → Nat) (M : Mm) (o0 : Nat) (a1 : Int32) (res : Mm × Int32) (h : f_X7_tellsFor M o0 a1 = some res) : Met l yX7_tellsFor (wU yX7_tellsFor cX7_tellsFor 2 (some .int)) rmX7_tellsFor (va_Pc [.ref (ad o0), .int a1] (Pre D cy shM ad nM adK adV M)) (va_Qi (fun r (M2 : Mm) => r = res.2 ∧ M2 = res.1) (Pre D cy shM ad nM adK adV) (Aw ad nM)) 0 0 (Aw ad nM) := by
  refine Met.ofW (cc := cX7_tellsFor) (maxL := 2) (ret := (some .int)) (by decide) rfl ?_
  intro p e s m args below meth c s₁ B hml hv
  obtain ⟨hargs, hPre⟩ := hv
  have hx := B.exec
  have hb := B.bytes
  have hr := B.returns
  have hts := atoms_spec (ws := wU yX7_tellsFor cX7_tellsFor 2 (some .int)) B.pre
  have hq : ∀ w ∈ gW, w.before args s = true := fun w hw => hts w (List.mem_cons_of_mem _ hw)
  have hcm : ∀ w ∈ gW, w ∈ wU yX7_tellsFor cX7_tellsFor 2 (some .int) := fun w hw => List.mem_cons_of_mem _ hw
  have hown : s.vm.findClass RX7 = some m.cls := findClass_of_methodNamed B.named
  have hlocks := B.notSynchronized
  have hF : CallFix p m c cX7_tellsFor 2 s args (wU yX7_tellsFor cX7_tellsFor 2 (some .int)) RX7 := ⟨hx, hb, hml, hown, hts⟩
  have hK := hPre.2.1
  have hZ := hPre.2.2.2
  have hw : Wd D cy shM ad nM (Aw ad nM) s.heap M s.heap [] := ⟨hPre.1, hPre.2.2.1, va_S.rf⟩
  rw [show entryFrame m args 2 = entryFrame m ([.ref (ad o0), .int a1] : List Value).toArray 2 from by rw [hargs]]
  have hl := lv_entry ([.ref (ad o0), .int a1]) (n := 2) (Nat.le_of_ble_eq_true rfl)
  rw [lg_entry_eq]
  generalize (lg_sl ([.ref (ad o0), .int a1]) ++ List.replicate (2 - (lg_sl ([.ref (ad o0), .int a1])).length) Slot.unset).toArray = ls at hl ⊢
  have hl : lv_has ls 2 [(0, .ref (ad o0)), (1, .int a1)] := hl
  unfold f_X7_tellsFor at h
  refine lv_aload_n hx hb dX7_tellsFor_0 rfl (lv_at hl 0 rfl) ?_
  refine lv_iload_n hx hb dX7_tellsFor_1 rfl (lv_at hl 1 rfl) ?_
  replace h := gd_some h
  obtain ⟨g2, h⟩ := h
  replace h := bd_some h
  obtain ⟨r1, er1, h⟩ := h
  refine r_callVi (As := [.int a1]) (rest := []) hF (c_X7_isSide l D cy ad adK adV M o0 a1 r1 er1) (gW_goodV hcm qw1002 qw999 qw1001 qw20 qw67) hdX7_isSide rfl ⟨Nat.le_of_ble_eq_true rfl, Nat.le_of_ble_eq_true rfl⟩ rfl rfl hZ hK hw g2 (by decide) rfl rfl hl.1 rfl (Nat.le_of_ble_eq_true rfl) ⟨Nat.zero_le _, Nat.zero_le _⟩ dX7_tellsFor_2 (fun H locs hw => ?_)
  refine lv_if_eq (tgt := 26) hx hb dX7_tellsFor_5 (by decide) (fun c3 => ?_) (fun c3 => ?_)
  · replace h := if_some_t c3 h
    refine lv_aload_n hx hb dX7_tellsFor_26 rfl (lv_at hl 0 rfl) ?_
    refine lv_iconst (v := (0 : Int32)) hx hb dX7_tellsFor_27 (by decide) ?_
    replace h := bd_some h
    obtain ⟨r4, er4, h⟩ := h
    refine r_callVi (As := [.int (0 : Int32)]) (rest := []) hF (c_X7_finding l D cy ad adK adV r1.1 o0 (0 : Int32) r4 er4) (gW_goodV hcm qw989 qw986 qw988 qw18 qw67) hdX7_finding rfl ⟨Nat.le_of_ble_eq_true rfl, Nat.le_of_ble_eq_true rfl⟩ rfl rfl hZ hK hw g2 (by decide) rfl rfl hl.1 rfl (Nat.le_of_ble_eq_true rfl) ⟨Nat.zero_le _, Nat.zero_le _⟩ dX7_tellsFor_28 (fun H locs hw => ?_)
    exact r_iret hx hb hr rfl hlocks hZ hK hw h dX7_tellsFor_31
  · replace h := if_some_f c3 h
    refine lv_aload_n hx hb dX7_tellsFor_8 rfl (lv_at hl 0 rfl) ?_
    refine lv_iconst (v := (5 : Int32)) hx hb dX7_tellsFor_9 (by decide) ?_
    refine lv_iconst (v := (3 : Int32)) hx hb dX7_tellsFor_10 (by decide) ?_
    refine lv_iload_n hx hb dX7_tellsFor_11 rfl (lv_at hl 1 rfl) ?_
    refine lv_imul hx hb dX7_tellsFor_12 ?_
    refine lv_iadd hx hb dX7_tellsFor_13 ?_
    refine lv_iconst (v := (2 : Int32)) hx hb dX7_tellsFor_14 (by decide) ?_
    refine lv_iadd hx hb dX7_tellsFor_15 ?_
    refine lv_iconst (v := (0 : Int32)) hx hb dX7_tellsFor_16 (by decide) ?_
    refine lv_bipush (v := (9 : Int32)) hx hb dX7_tellsFor_17 (by decide) ?_
    refine lv_iload_n hx hb dX7_tellsFor_19 rfl (lv_at hl 1 rfl) ?_
    replace h := bd_some h
    obtain ⟨r5, er5, h⟩ := h
    refine r_callVi (As := [.int (((5 : Int32) + ((3 : Int32) * a1)) + (2 : Int32)), .int (0 : Int32), .int (9 : Int32), .int a1]) (rest := []) hF (c_X7_bestLaid l D cy ad adK adV r1.1 o0 (((5 : Int32) + ((3 : Int32) * a1)) + (2 : Int32)) (0 : Int32) (9 : Int32) a1 r5 er5) (gW_goodV hcm qw1262 qw1259 qw1261 qw56 qw67) hdX7_bestLaid rfl ⟨Nat.le_of_ble_eq_true rfl, Nat.le_of_ble_eq_true rfl⟩ rfl rfl hZ hK hw g2 (by decide) rfl rfl hl.1 rfl (Nat.le_of_ble_eq_true rfl) ⟨Nat.zero_le _, Nat.zero_le _⟩ dX7_tellsFor_20 (fun H locs hw => ?_)
    refine lv_goto (tgt := 31) hx hb dX7_tellsFor_23 (by decide) ?_
    exact r_iret hx hb hr rfl hlocks hZ hK hw h dX7_tellsFor_31
theorem dX7_nextRow_0 : decode cX7_nextRow 0 = .ok (.iload_n 1, 1) := by decide +kernel
theorem dX7_nextRow_1 : decode cX7_nextRow 1 = .ok (.iconst 2, 1) := by decide +kernel
theorem dX7_nextRow_2 : decode cX7_nextRow 2 = .ok (.isub, 1) := by decide +kernel
theorem dX7_nextRow_3 : decode cX7_nextRow 3 = .ok (.istore_n 2, 1) := by decide +kernel
theorem dX7_nextRow_4 : decode cX7_nextRow 4 = .ok (.iload_n 2, 1) := by decide +kernel
theorem dX7_nextRow_5 : decode cX7_nextRow 5 = .ok (.ifCond .lt 26, 3) := by decide +kernel
theorem dX7_nextRow_8 : decode cX7_nextRow 8 = .ok (.aload_n 0, 1) := by decide +kernel
theorem dX7_nextRow_9 : decode cX7_nextRow 9 = .ok (.getfield 48, 3) := by decide +kernel
theorem dX7_nextRow_12 : decode cX7_nextRow 12 = .ok (.iload_n 2, 1) := by decide +kernel
theorem dX7_nextRow_13 : decode cX7_nextRow 13 = .ok (.iaload, 1) := by decide +kernel
theorem dX7_nextRow_14 : decode cX7_nextRow 14 = .ok (.aload_n 0, 1) := by decide +kernel
theorem dX7_nextRow_15 : decode cX7_nextRow 15 = .ok (.getfield 48, 3) := by decide +kernel
theorem dX7_nextRow_18 : decode cX7_nextRow 18 = .ok (.iload_n 2, 1) := by decide +kernel
theorem dX7_nextRow_19 : decode cX7_nextRow 19 = .ok (.iconst 1, 1) := by decide +kernel
theorem dX7_nextRow_20 : decode cX7_nextRow 20 = .ok (.iadd, 1) := by decide +kernel
theorem dX7_nextRow_21 : decode cX7_nextRow 21 = .ok (.iaload, 1) := by decide +kernel
theorem dX7_nextRow_22 : decode cX7_nextRow 22 = .ok (.if_icmp .le 9, 3) := by decide +kernel
theorem dX7_nextRow_25 : decode cX7_nextRow 25 = .ok (.iinc 2 (-1), 3) := by decide +kernel
theorem dX7_nextRow_28 : decode cX7_nextRow 28 = .ok (.goto (-24), 3) := by decide +kernel
theorem dX7_nextRow_31 : decode cX7_nextRow 31 = .ok (.iload_n 2, 1) := by decide +kernel
theorem dX7_nextRow_32 : decode cX7_nextRow 32 = .ok (.ifCond .ge 5, 3) := by decide +kernel
theorem dX7_nextRow_35 : decode cX7_nextRow 35 = .ok (.iconst 0, 1) := by decide +kernel
theorem dX7_nextRow_36 : decode cX7_nextRow 36 = .ok (.ireturn, 1) := by decide +kernel
theorem dX7_nextRow_37 : decode cX7_nextRow 37 = .ok (.iload_n 1, 1) := by decide +kernel
theorem dX7_nextRow_38 : decode cX7_nextRow 38 = .ok (.iconst 1, 1) := by decide +kernel
theorem dX7_nextRow_39 : decode cX7_nextRow 39 = .ok (.isub, 1) := by decide +kernel
theorem dX7_nextRow_40 : decode cX7_nextRow 40 = .ok (.istore_n 3, 1) := by decide +kernel
theorem dX7_nextRow_41 : decode cX7_nextRow 41 = .ok (.aload_n 0, 1) := by decide +kernel
theorem dX7_nextRow_42 : decode cX7_nextRow 42 = .ok (.getfield 48, 3) := by decide +kernel
theorem dX7_nextRow_45 : decode cX7_nextRow 45 = .ok (.iload_n 3, 1) := by decide +kernel
theorem dX7_nextRow_46 : decode cX7_nextRow 46 = .ok (.iaload, 1) := by decide +kernel
theorem dX7_nextRow_47 : decode cX7_nextRow 47 = .ok (.aload_n 0, 1) := by decide +kernel
theorem dX7_nextRow_48 : decode cX7_nextRow 48 = .ok (.getfield 48, 3) := by decide +kernel
theorem dX7_nextRow_51 : decode cX7_nextRow 51 = .ok (.iload_n 2, 1) := by decide +kernel
theorem dX7_nextRow_52 : decode cX7_nextRow 52 = .ok (.iaload, 1) := by decide +kernel
theorem dX7_nextRow_53 : decode cX7_nextRow 53 = .ok (.if_icmp .ge 9, 3) := by decide +kernel
theorem dX7_nextRow_56 : decode cX7_nextRow 56 = .ok (.iinc 3 (-1), 3) := by decide +kernel
theorem dX7_nextRow_59 : decode cX7_nextRow 59 = .ok (.goto (-18), 3) := by decide +kernel
theorem dX7_nextRow_62 : decode cX7_nextRow 62 = .ok (.aload_n 0, 1) := by decide +kernel
theorem dX7_nextRow_63 : decode cX7_nextRow 63 = .ok (.getfield 48, 3) := by decide +kernel
theorem dX7_nextRow_66 : decode cX7_nextRow 66 = .ok (.iload_n 2, 1) := by decide +kernel
theorem dX7_nextRow_67 : decode cX7_nextRow 67 = .ok (.iaload, 1) := by decide +kernel
theorem dX7_nextRow_68 : decode cX7_nextRow 68 = .ok (.istore 4, 2) := by decide +kernel
theorem dX7_nextRow_70 : decode cX7_nextRow 70 = .ok (.aload_n 0, 1) := by decide +kernel
theorem dX7_nextRow_71 : decode cX7_nextRow 71 = .ok (.getfield 48, 3) := by decide +kernel
theorem dX7_nextRow_74 : decode cX7_nextRow 74 = .ok (.iload_n 2, 1) := by decide +kernel
theorem dX7_nextRow_75 : decode cX7_nextRow 75 = .ok (.aload_n 0, 1) := by decide +kernel
theorem dX7_nextRow_76 : decode cX7_nextRow 76 = .ok (.getfield 48, 3) := by decide +kernel
theorem dX7_nextRow_79 : decode cX7_nextRow 79 = .ok (.iload_n 3, 1) := by decide +kernel
theorem dX7_nextRow_80 : decode cX7_nextRow 80 = .ok (.iaload, 1) := by decide +kernel
theorem dX7_nextRow_81 : decode cX7_nextRow 81 = .ok (.iastore, 1) := by decide +kernel
theorem dX7_nextRow_82 : decode cX7_nextRow 82 = .ok (.aload_n 0, 1) := by decide +kernel
theorem dX7_nextRow_83 : decode cX7_nextRow 83 = .ok (.getfield 48, 3) := by decide +kernel
theorem dX7_nextRow_86 : decode cX7_nextRow 86 = .ok (.iload_n 3, 1) := by decide +kernel
theorem dX7_nextRow_87 : decode cX7_nextRow 87 = .ok (.iload 4, 2) := by decide +kernel
theorem dX7_nextRow_89 : decode cX7_nextRow 89 = .ok (.iastore, 1) := by decide +kernel
theorem dX7_nextRow_90 : decode cX7_nextRow 90 = .ok (.iload_n 2, 1) := by decide +kernel
theorem dX7_nextRow_91 : decode cX7_nextRow 91 = .ok (.iconst 1, 1) := by decide +kernel
theorem dX7_nextRow_92 : decode cX7_nextRow 92 = .ok (.iadd, 1) := by decide +kernel
theorem dX7_nextRow_93 : decode cX7_nextRow 93 = .ok (.istore 5, 2) := by decide +kernel
theorem dX7_nextRow_95 : decode cX7_nextRow 95 = .ok (.iload_n 1, 1) := by decide +kernel
theorem dX7_nextRow_96 : decode cX7_nextRow 96 = .ok (.iconst 1, 1) := by decide +kernel
theorem dX7_nextRow_97 : decode cX7_nextRow 97 = .ok (.isub, 1) := by decide +kernel
theorem dX7_nextRow_98 : decode cX7_nextRow 98 = .ok (.istore 6, 2) := by decide +kernel
theorem dX7_nextRow_100 : decode cX7_nextRow 100 = .ok (.iload 5, 2) := by decide +kernel
theorem dX7_nextRow_102 : decode cX7_nextRow 102 = .ok (.iload 6, 2) := by decide +kernel
theorem dX7_nextRow_104 : decode cX7_nextRow 104 = .ok (.if_icmp .ge 44, 3) := by decide +kernel
theorem dX7_nextRow_107 : decode cX7_nextRow 107 = .ok (.aload_n 0, 1) := by decide +kernel
theorem dX7_nextRow_108 : decode cX7_nextRow 108 = .ok (.getfield 48, 3) := by decide +kernel
theorem dX7_nextRow_111 : decode cX7_nextRow 111 = .ok (.iload 5, 2) := by decide +kernel
theorem dX7_nextRow_113 : decode cX7_nextRow 113 = .ok (.iaload, 1) := by decide +kernel
theorem dX7_nextRow_114 : decode cX7_nextRow 114 = .ok (.istore 4, 2) := by decide +kernel
theorem dX7_nextRow_116 : decode cX7_nextRow 116 = .ok (.aload_n 0, 1) := by decide +kernel
theorem dX7_nextRow_117 : decode cX7_nextRow 117 = .ok (.getfield 48, 3) := by decide +kernel
theorem dX7_nextRow_120 : decode cX7_nextRow 120 = .ok (.iload 5, 2) := by decide +kernel
theorem dX7_nextRow_122 : decode cX7_nextRow 122 = .ok (.aload_n 0, 1) := by decide +kernel
theorem dX7_nextRow_123 : decode cX7_nextRow 123 = .ok (.getfield 48, 3) := by decide +kernel
theorem dX7_nextRow_126 : decode cX7_nextRow 126 = .ok (.iload 6, 2) := by decide +kernel
theorem dX7_nextRow_128 : decode cX7_nextRow 128 = .ok (.iaload, 1) := by decide +kernel
theorem dX7_nextRow_129 : decode cX7_nextRow 129 = .ok (.iastore, 1) := by decide +kernel
theorem dX7_nextRow_130 : decode cX7_nextRow 130 = .ok (.aload_n 0, 1) := by decide +kernel
theorem dX7_nextRow_131 : decode cX7_nextRow 131 = .ok (.getfield 48, 3) := by decide +kernel
theorem dX7_nextRow_134 : decode cX7_nextRow 134 = .ok (.iload 6, 2) := by decide +kernel
theorem dX7_nextRow_136 : decode cX7_nextRow 136 = .ok (.iload 4, 2) := by decide +kernel
theorem dX7_nextRow_138 : decode cX7_nextRow 138 = .ok (.iastore, 1) := by decide +kernel
theorem dX7_nextRow_139 : decode cX7_nextRow 139 = .ok (.iinc 5 1, 3) := by decide +kernel
theorem dX7_nextRow_142 : decode cX7_nextRow 142 = .ok (.iinc 6 (-1), 3) := by decide +kernel
theorem dX7_nextRow_145 : decode cX7_nextRow 145 = .ok (.goto (-45), 3) := by decide +kernel
theorem dX7_nextRow_148 : decode cX7_nextRow 148 = .ok (.iconst 1, 1) := by decide +kernel
theorem dX7_nextRow_149 : decode cX7_nextRow 149 = .ok (.ireturn, 1) := by decide +kernel
set_option maxHeartbeats 4000000 in
set_option maxRecDepth 100000 in
theorem c_X7_nextRow (l : Launch) (D : va_G) (cy : Nat → ClassId) (ad adK adV : Nat → Nat) (M : Mm) (o0 : Nat) (a1 : Int32) (res : Mm × Int32) (h : f_X7_nextRow M o0 a1 = some res) : Met l yX7_nextRow (wU yX7_nextRow cX7_nextRow 7 (some .boolean)) rmX7_nextRow (va_Pc [.ref (ad o0), .int a1] (Pre D cy shM ad nM adK adV M)) (va_Qi (fun r (M2 : Mm) => r = res.2 ∧ M2 = res.1) (Pre D cy shM ad nM adK adV) (Aw ad nM)) 0 0 (Aw ad nM) := by
  refine Met.ofW (cc := cX7_nextRow) (maxL := 7) (ret := (some .boolean)) (by decide) rfl ?_
  intro p e s m args below meth c s₁ B hml hv
  obtain ⟨hargs, hPre⟩ := hv
  have hx := B.exec
  have hb := B.bytes
  have hr := B.returns
  have hts := atoms_spec (ws := wU yX7_nextRow cX7_nextRow 7 (some .boolean)) B.pre
  have hq : ∀ w ∈ gW, w.before args s = true := fun w hw => hts w (List.mem_cons_of_mem _ hw)
  have hcm : ∀ w ∈ gW, w ∈ wU yX7_nextRow cX7_nextRow 7 (some .boolean) := fun w hw => List.mem_cons_of_mem _ hw
  have hown : s.vm.findClass RX7 = some m.cls := findClass_of_methodNamed B.named
  have hlocks := B.notSynchronized
  have hF : CallFix p m c cX7_nextRow 7 s args (wU yX7_nextRow cX7_nextRow 7 (some .boolean)) RX7 := ⟨hx, hb, hml, hown, hts⟩
  have hK := hPre.2.1
  have hZ := hPre.2.2.2
  have hw : Wd D cy shM ad nM (Aw ad nM) s.heap M s.heap [] := ⟨hPre.1, hPre.2.2.1, va_S.rf⟩
  have iw7 : ∀ w ∈ u_ws RX7 TX7 30, w ∈ wU yX7_nextRow cX7_nextRow 7 (some .boolean) := fun w hw => List.mem_cons_of_mem _ (iX7 w hw)
  rw [show entryFrame m args 7 = entryFrame m ([.ref (ad o0), .int a1] : List Value).toArray 7 from by rw [hargs]]
  have hl := lv_entry ([.ref (ad o0), .int a1]) (n := 7) (Nat.le_of_ble_eq_true rfl)
  rw [lg_entry_eq]
  generalize (lg_sl ([.ref (ad o0), .int a1]) ++ List.replicate (7 - (lg_sl ([.ref (ad o0), .int a1])).length) Slot.unset).toArray = ls at hl ⊢
  have hl : lv_has ls 7 [(0, .ref (ad o0)), (1, .int a1)] := hl
  have hb100 : ∀ (nn : Nat), ∀ (M : Mm) (x0 : Nat) (x5 : Int32) (x6 : Int32), f_X7_nextRow_b100 nn M x0 x5 x6 = some res → ∀ (H : Heap) (locs : List Loc) (ls : Array Slot), Wd D cy shM ad nM (Aw ad nM) s.heap M H locs → lv_has ls 7 [(0, .ref (ad x0)), (5, .int x5), (6, .int x6)] → W p l e (headSpec (wU yX7_nextRow cX7_nextRow 7 (some .boolean)) rmX7_nextRow).room s m args below meth c H locs 0 0 (QI D cy shM ad nM adK adV below args s res) (F0 m 100 ls []) := by
    intro nn
    induction nn with
    | zero => intro M x0 x5 x6 h; simp [f_X7_nextRow_b100] at h
    | succ nn ih =>
      intro M x0 x5 x6 h H locs ls hw hl
      unfold f_X7_nextRow_b100 at h
      refine lv_iload hx hb dX7_nextRow_100 (lv_at hl 1 rfl) ?_
      refine lv_iload hx hb dX7_nextRow_102 (lv_at hl 2 rfl) ?_
      refine lv_icmp_ge (tgt := 148) hx hb dX7_nextRow_104 (by decide) (fun c1 => ?_) (fun c1 => ?_)
      · replace h := if_some_t c1 h
        refine lv_iconst (v := (1 : Int32)) hx hb dX7_nextRow_148 (by decide) ?_
        exact r_iret hx hb hr rfl hlocks hZ hK hw h dX7_nextRow_149
      · replace h := if_some_f c1 h
        refine lv_aload_n hx hb dX7_nextRow_107 rfl (lv_at hl 0 rfl) ?_
        replace h := gd_some h
        obtain ⟨g2, h⟩ := h
        replace h := bd_some h
        obtain ⟨q3, eq3, h⟩ := h
        refine r_getR hx hb hts iw7 hown hK hw x0 24 g2 (by decide) rfl (by decide) rfl (hq _ qw912) (fun _ h9 => h9) dX7_nextRow_108 eq3 ?_
        refine lv_iload hx hb dX7_nextRow_111 (lv_at hl 1 rfl) ?_
        replace h := gd_some h
        obtain ⟨g4, h⟩ := h
        refine r_iald hx hb hK hw q3 g4 dX7_nextRow_113 ?_
        refine lv_istore (lv' := [(4, .int (M.1 q3 x5.toNatClampNeg)), (0, .ref (ad x0)), (5, .int x5), (6, .int x6)]) hx hb dX7_nextRow_114 hl (by decide) rfl (fun ls hl => ?_)
        refine lv_aload_n hx hb dX7_nextRow_116 rfl (lv_at hl 1 rfl) ?_
        replace h := bd_some h
        obtain ⟨q5, eq5, h⟩ := h
        refine r_getR hx hb hts iw7 hown hK hw x0 24 g2 (by decide) rfl (by decide) rfl (hq _ qw912) (fun _ h9 => h9) dX7_nextRow_117 eq5 ?_
        refine lv_iload hx hb dX7_nextRow_120 (lv_at hl 2 rfl) ?_
        refine lv_aload_n hx hb dX7_nextRow_122 rfl (lv_at hl 1 rfl) ?_
        replace h := bd_some h
        obtain ⟨q6, eq6, h⟩ := h
        refine r_getR hx hb hts iw7 hown hK hw x0 24 g2 (by decide) rfl (by decide) rfl (hq _ qw912) (fun _ h9 => h9) dX7_nextRow_123 eq6 ?_
        refine lv_iload hx hb dX7_nextRow_126 (lv_at hl 3 rfl) ?_
        replace h := gd_some h
        obtain ⟨g7, h⟩ := h
        refine r_iald hx hb hK hw q6 g7 dX7_nextRow_128 ?_
        replace h := gd_some h
        obtain ⟨g8, h⟩ := h
        refine r_iast hx hb hK hw q5 g8 dX7_nextRow_129 (fun H locs hw => ?_)
        replace h := lt_some h
        obtain ⟨M9, eM9, h⟩ := h
        rw [← eM9] at hw
        refine lv_aload_n hx hb dX7_nextRow_130 rfl (lv_at hl 1 rfl) ?_
        replace h := bd_some h
        obtain ⟨q10, eq10, h⟩ := h
        refine r_getR hx hb hts iw7 hown hK hw x0 24 g2 (by decide) rfl (by decide) rfl (hq _ qw912) (fun _ h9 => h9) dX7_nextRow_131 eq10 ?_
        refine lv_iload hx hb dX7_nextRow_134 (lv_at hl 3 rfl) ?_
        refine lv_iload hx hb dX7_nextRow_136 (lv_at hl 0 rfl) ?_
        replace h := gd_some h
        obtain ⟨g11, h⟩ := h
        refine r_iast hx hb hK hw q10 g11 dX7_nextRow_138 (fun H locs hw => ?_)
        replace h := lt_some h
        obtain ⟨M12, eM12, h⟩ := h
        rw [← eM12] at hw
        refine lv_iinc (v := x5 + (1 : Int32)) (lv' := [(5, .int (x5 + (1 : Int32))), (4, .int (M.1 q3 x5.toNatClampNeg)), (0, .ref (ad x0)), (6, .int x6)]) hx hb dX7_nextRow_139 hl (k := 2) rfl (congrArg (fun z => x5 + z) (by decide)) (by decide) rfl (fun ls hl => ?_)
        refine lv_iinc (v := x6 + (-1 : Int32)) (lv' := [(6, .int (x6 + (-1 : Int32))), (5, .int (x5 + (1 : Int32))), (4, .int (M.1 q3 x5.toNatClampNeg)), (0, .ref (ad x0))]) hx hb dX7_nextRow_142 hl (k := 3) rfl (congrArg (fun z => x6 + z) (by decide)) (by decide) rfl (fun ls hl => ?_)
        refine lv_goto (tgt := 100) hx hb dX7_nextRow_145 (by decide) ?_
        exact ih _ _ _ _ h _ _ _ hw (lv_sub hl [3, 1, 0] rfl)
  have hb41 : ∀ (nn : Nat), ∀ (M : Mm) (x0 : Nat) (x1 : Int32) (x2 : Int32) (x3 : Int32), f_X7_nextRow_b41 nn M x0 x1 x2 x3 = some res → ∀ (H : Heap) (locs : List Loc) (ls : Array Slot), Wd D cy shM ad nM (Aw ad nM) s.heap M H locs → lv_has ls 7 [(0, .ref (ad x0)), (1, .int x1), (2, .int x2), (3, .int x3)] → W p l e (headSpec (wU yX7_nextRow cX7_nextRow 7 (some .boolean)) rmX7_nextRow).room s m args below meth c H locs 0 0 (QI D cy shM ad nM adK adV below args s res) (F0 m 41 ls []) := by
    intro nn
    induction nn with
    | zero => intro M x0 x1 x2 x3 h; simp [f_X7_nextRow_b41] at h
    | succ nn ih =>
      intro M x0 x1 x2 x3 h H locs ls hw hl
      unfold f_X7_nextRow_b41 at h
      refine lv_aload_n hx hb dX7_nextRow_41 rfl (lv_at hl 0 rfl) ?_
      replace h := gd_some h
      obtain ⟨g13, h⟩ := h
      replace h := bd_some h
      obtain ⟨q14, eq14, h⟩ := h
      refine r_getR hx hb hts iw7 hown hK hw x0 24 g13 (by decide) rfl (by decide) rfl (hq _ qw912) (fun _ h9 => h9) dX7_nextRow_42 eq14 ?_
      refine lv_iload_n hx hb dX7_nextRow_45 rfl (lv_at hl 3 rfl) ?_
      replace h := gd_some h
      obtain ⟨g15, h⟩ := h
      refine r_iald hx hb hK hw q14 g15 dX7_nextRow_46 ?_
      refine lv_aload_n hx hb dX7_nextRow_47 rfl (lv_at hl 0 rfl) ?_
      replace h := bd_some h
      obtain ⟨q16, eq16, h⟩ := h
      refine r_getR hx hb hts iw7 hown hK hw x0 24 g13 (by decide) rfl (by decide) rfl (hq _ qw912) (fun _ h9 => h9) dX7_nextRow_48 eq16 ?_
      refine lv_iload_n hx hb dX7_nextRow_51 rfl (lv_at hl 2 rfl) ?_
      replace h := gd_some h
      obtain ⟨g17, h⟩ := h
      refine r_iald hx hb hK hw q16 g17 dX7_nextRow_52 ?_
      refine lv_icmp_ge (tgt := 62) hx hb dX7_nextRow_53 (by decide) (fun c18 => ?_) (fun c18 => ?_)
      · replace h := if_some_t c18 h
        refine lv_aload_n hx hb dX7_nextRow_62 rfl (lv_at hl 0 rfl) ?_
        replace h := bd_some h
        obtain ⟨q19, eq19, h⟩ := h
        refine r_getR hx hb hts iw7 hown hK hw x0 24 g13 (by decide) rfl (by decide) rfl (hq _ qw912) (fun _ h9 => h9) dX7_nextRow_63 eq19 ?_
        refine lv_iload_n hx hb dX7_nextRow_66 rfl (lv_at hl 2 rfl) ?_
        replace h := gd_some h
        obtain ⟨g20, h⟩ := h
        refine r_iald hx hb hK hw q19 g20 dX7_nextRow_67 ?_
        refine lv_istore (lv' := [(4, .int (M.1 q19 x2.toNatClampNeg)), (0, .ref (ad x0)), (1, .int x1), (2, .int x2), (3, .int x3)]) hx hb dX7_nextRow_68 hl (by decide) rfl (fun ls hl => ?_)
        refine lv_aload_n hx hb dX7_nextRow_70 rfl (lv_at hl 1 rfl) ?_
        replace h := bd_some h
        obtain ⟨q21, eq21, h⟩ := h
        refine r_getR hx hb hts iw7 hown hK hw x0 24 g13 (by decide) rfl (by decide) rfl (hq _ qw912) (fun _ h9 => h9) dX7_nextRow_71 eq21 ?_
        refine lv_iload_n hx hb dX7_nextRow_74 rfl (lv_at hl 3 rfl) ?_
        refine lv_aload_n hx hb dX7_nextRow_75 rfl (lv_at hl 1 rfl) ?_
        replace h := bd_some h
        obtain ⟨q22, eq22, h⟩ := h
        refine r_getR hx hb hts iw7 hown hK hw x0 24 g13 (by decide) rfl (by decide) rfl (hq _ qw912) (fun _ h9 => h9) dX7_nextRow_76 eq22 ?_
        refine lv_iload_n hx hb dX7_nextRow_79 rfl (lv_at hl 4 rfl) ?_
        replace h := gd_some h
        obtain ⟨g23, h⟩ := h
        refine r_iald hx hb hK hw q22 g23 dX7_nextRow_80 ?_
        replace h := gd_some h
        obtain ⟨g24, h⟩ := h
        refine r_iast hx hb hK hw q21 g24 dX7_nextRow_81 (fun H locs hw => ?_)
        replace h := lt_some h
        obtain ⟨M25, eM25, h⟩ := h
        rw [← eM25] at hw
        refine lv_aload_n hx hb dX7_nextRow_82 rfl (lv_at hl 1 rfl) ?_
        replace h := bd_some h
        obtain ⟨q26, eq26, h⟩ := h
        refine r_getR hx hb hts iw7 hown hK hw x0 24 g13 (by decide) rfl (by decide) rfl (hq _ qw912) (fun _ h9 => h9) dX7_nextRow_83 eq26 ?_
        refine lv_iload_n hx hb dX7_nextRow_86 rfl (lv_at hl 4 rfl) ?_
        refine lv_iload hx hb dX7_nextRow_87 (lv_at hl 0 rfl) ?_
        replace h := gd_some h
        obtain ⟨g27, h⟩ := h
        refine r_iast hx hb hK hw q26 g27 dX7_nextRow_89 (fun H locs hw => ?_)
        replace h := lt_some h
        obtain ⟨M28, eM28, h⟩ := h
        rw [← eM28] at hw
        refine lv_iload_n hx hb dX7_nextRow_90 rfl (lv_at hl 3 rfl) ?_
        refine lv_iconst (v := (1 : Int32)) hx hb dX7_nextRow_91 (by decide) ?_
        refine lv_iadd hx hb dX7_nextRow_92 ?_
        refine lv_istore (lv' := [(5, .int (x2 + (1 : Int32))), (4, .int (M.1 q19 x2.toNatClampNeg)), (0, .ref (ad x0)), (1, .int x1), (2, .int x2), (3, .int x3)]) hx hb dX7_nextRow_93 hl (by decide) rfl (fun ls hl => ?_)
        refine lv_iload_n hx hb dX7_nextRow_95 rfl (lv_at hl 3 rfl) ?_
        refine lv_iconst (v := (1 : Int32)) hx hb dX7_nextRow_96 (by decide) ?_
        refine lv_isub hx hb dX7_nextRow_97 ?_
        refine lv_istore (lv' := [(6, .int (x1 - (1 : Int32))), (5, .int (x2 + (1 : Int32))), (4, .int (M.1 q19 x2.toNatClampNeg)), (0, .ref (ad x0)), (1, .int x1), (2, .int x2), (3, .int x3)]) hx hb dX7_nextRow_98 hl (by decide) rfl (fun ls hl => ?_)
        exact hb100 1000 _ _ _ _ h _ _ _ hw (lv_sub hl [3, 1, 0] rfl)
      · replace h := if_some_f c18 h
        refine lv_iinc (v := x3 + (-1 : Int32)) (lv' := [(3, .int (x3 + (-1 : Int32))), (0, .ref (ad x0)), (1, .int x1), (2, .int x2)]) hx hb dX7_nextRow_56 hl (k := 3) rfl (congrArg (fun z => x3 + z) (by decide)) (by decide) rfl (fun ls hl => ?_)
        refine lv_goto (tgt := 41) hx hb dX7_nextRow_59 (by decide) ?_
        exact ih _ _ _ _ _ h _ _ _ hw (lv_sub hl [1, 2, 3, 0] rfl)
  have hb31 : ∀ (M : Mm) (x0 : Nat) (x1 : Int32) (x2 : Int32), f_X7_nextRow_b31 M x0 x1 x2 = some res → ∀ (H : Heap) (locs : List Loc) (ls : Array Slot), Wd D cy shM ad nM (Aw ad nM) s.heap M H locs → lv_has ls 7 [(0, .ref (ad x0)), (1, .int x1), (2, .int x2)] → W p l e (headSpec (wU yX7_nextRow cX7_nextRow 7 (some .boolean)) rmX7_nextRow).room s m args below meth c H locs 0 0 (QI D cy shM ad nM adK adV below args s res) (F0 m 31 ls []) := by
    intro M x0 x1 x2 h H locs ls hw hl
    unfold f_X7_nextRow_b31 at h
    refine lv_iload_n hx hb dX7_nextRow_31 rfl (lv_at hl 2 rfl) ?_
    refine lv_if_ge (tgt := 37) hx hb dX7_nextRow_32 (by decide) (fun c29 => ?_) (fun c29 => ?_)
    · replace h := if_some_t c29 h
      refine lv_iload_n hx hb dX7_nextRow_37 rfl (lv_at hl 1 rfl) ?_
      refine lv_iconst (v := (1 : Int32)) hx hb dX7_nextRow_38 (by decide) ?_
      refine lv_isub hx hb dX7_nextRow_39 ?_
      refine lv_istore_n (lv' := [(3, .int (x1 - (1 : Int32))), (0, .ref (ad x0)), (1, .int x1), (2, .int x2)]) hx hb dX7_nextRow_40 rfl hl (by decide) rfl (fun ls hl => ?_)
      exact hb41 1000 _ _ _ _ _ h _ _ _ hw (lv_sub hl [1, 2, 3, 0] rfl)
    · replace h := if_some_f c29 h
      refine lv_iconst (v := (0 : Int32)) hx hb dX7_nextRow_35 (by decide) ?_
      exact r_iret hx hb hr rfl hlocks hZ hK hw h dX7_nextRow_36
  have hb4 : ∀ (nn : Nat), ∀ (M : Mm) (x0 : Nat) (x1 : Int32) (x2 : Int32), f_X7_nextRow_b4 nn M x0 x1 x2 = some res → ∀ (H : Heap) (locs : List Loc) (ls : Array Slot), Wd D cy shM ad nM (Aw ad nM) s.heap M H locs → lv_has ls 7 [(0, .ref (ad x0)), (1, .int x1), (2, .int x2)] → W p l e (headSpec (wU yX7_nextRow cX7_nextRow 7 (some .boolean)) rmX7_nextRow).room s m args below meth c H locs 0 0 (QI D cy shM ad nM adK adV below args s res) (F0 m 4 ls []) := by
    intro nn
    induction nn with
    | zero => intro M x0 x1 x2 h; simp [f_X7_nextRow_b4] at h
    | succ nn ih =>
      intro M x0 x1 x2 h H locs ls hw hl
      unfold f_X7_nextRow_b4 at h
      refine lv_iload_n hx hb dX7_nextRow_4 rfl (lv_at hl 2 rfl) ?_
      refine lv_if_lt (tgt := 31) hx hb dX7_nextRow_5 (by decide) (fun c30 => ?_) (fun c30 => ?_)
      · replace h := if_some_t c30 h
        exact hb31 _ _ _ _ h _ _ _ hw (lv_sub hl [0, 1, 2] rfl)
      · replace h := if_some_f c30 h
        refine lv_aload_n hx hb dX7_nextRow_8 rfl (lv_at hl 0 rfl) ?_
        replace h := gd_some h
        obtain ⟨g31, h⟩ := h
        replace h := bd_some h
        obtain ⟨q32, eq32, h⟩ := h
        refine r_getR hx hb hts iw7 hown hK hw x0 24 g31 (by decide) rfl (by decide) rfl (hq _ qw912) (fun _ h9 => h9) dX7_nextRow_9 eq32 ?_
        refine lv_iload_n hx hb dX7_nextRow_12 rfl (lv_at hl 2 rfl) ?_
        replace h := gd_some h
        obtain ⟨g33, h⟩ := h
        refine r_iald hx hb hK hw q32 g33 dX7_nextRow_13 ?_
        refine lv_aload_n hx hb dX7_nextRow_14 rfl (lv_at hl 0 rfl) ?_
        replace h := bd_some h
        obtain ⟨q34, eq34, h⟩ := h
        refine r_getR hx hb hts iw7 hown hK hw x0 24 g31 (by decide) rfl (by decide) rfl (hq _ qw912) (fun _ h9 => h9) dX7_nextRow_15 eq34 ?_
        refine lv_iload_n hx hb dX7_nextRow_18 rfl (lv_at hl 2 rfl) ?_
        refine lv_iconst (v := (1 : Int32)) hx hb dX7_nextRow_19 (by decide) ?_
        refine lv_iadd hx hb dX7_nextRow_20 ?_
        replace h := gd_some h
        obtain ⟨g35, h⟩ := h
        refine r_iald hx hb hK hw q34 g35 dX7_nextRow_21 ?_
        refine lv_icmp_le (tgt := 31) hx hb dX7_nextRow_22 (by decide) (fun c36 => ?_) (fun c36 => ?_)
        · replace h := if_some_t c36 h
          exact hb31 _ _ _ _ h _ _ _ hw (lv_sub hl [0, 1, 2] rfl)
        · replace h := if_some_f c36 h
          refine lv_iinc (v := x2 + (-1 : Int32)) (lv' := [(2, .int (x2 + (-1 : Int32))), (0, .ref (ad x0)), (1, .int x1)]) hx hb dX7_nextRow_25 hl (k := 2) rfl (congrArg (fun z => x2 + z) (by decide)) (by decide) rfl (fun ls hl => ?_)
          refine lv_goto (tgt := 4) hx hb dX7_nextRow_28 (by decide) ?_
          exact ih _ _ _ _ h _ _ _ hw (lv_sub hl [1, 2, 0] rfl)
  unfold f_X7_nextRow at h
  refine lv_iload_n hx hb dX7_nextRow_0 rfl (lv_at hl 1 rfl) ?_
  refine lv_iconst (v := (2 : Int32)) hx hb dX7_nextRow_1 (by decide) ?_
  refine lv_isub hx hb dX7_nextRow_2 ?_
  refine lv_istore_n (lv' := [(2, .int (a1 - (2 : Int32))), (0, .ref (ad o0)), (1, .int a1)]) hx hb dX7_nextRow_3 rfl hl (by decide) rfl (fun ls hl => ?_)
  exact hb4 1000 _ _ _ _ h _ _ _ hw (lv_sub hl [1, 2, 0] rfl)
theorem dX7_order_0 : decode cX7_order 0 = .ok (.aload_n 0, 1) := by decide +kernel
theorem dX7_order_1 : decode cX7_order 1 = .ok (.iload_n 1, 1) := by decide +kernel
theorem dX7_order_2 : decode cX7_order 2 = .ok (.invokevirtual 121, 3) := by decide +kernel
theorem dX7_order_5 : decode cX7_order 5 = .ok (.ifCond .ne 9, 3) := by decide +kernel
theorem dX7_order_8 : decode cX7_order 8 = .ok (.aload_n 0, 1) := by decide +kernel
theorem dX7_order_9 : decode cX7_order 9 = .ok (.iconst 0, 1) := by decide +kernel
theorem dX7_order_10 : decode cX7_order 10 = .ok (.invokevirtual 115, 3) := by decide +kernel
theorem dX7_order_13 : decode cX7_order 13 = .ok (.ireturn, 1) := by decide +kernel
theorem dX7_order_14 : decode cX7_order 14 = .ok (.aload_n 0, 1) := by decide +kernel
theorem dX7_order_15 : decode cX7_order 15 = .ok (.invokevirtual 227, 3) := by decide +kernel
theorem dX7_order_18 : decode cX7_order 18 = .ok (.ifCond .eq 9, 3) := by decide +kernel
theorem dX7_order_21 : decode cX7_order 21 = .ok (.aload_n 0, 1) := by decide +kernel
theorem dX7_order_22 : decode cX7_order 22 = .ok (.iconst 3, 1) := by decide +kernel
theorem dX7_order_23 : decode cX7_order 23 = .ok (.invokevirtual 115, 3) := by decide +kernel
theorem dX7_order_26 : decode cX7_order 26 = .ok (.ireturn, 1) := by decide +kernel
theorem dX7_order_27 : decode cX7_order 27 = .ok (.aload_n 0, 1) := by decide +kernel
theorem dX7_order_28 : decode cX7_order 28 = .ok (.getfield 7, 3) := by decide +kernel
theorem dX7_order_31 : decode cX7_order 31 = .ok (.iconst 1, 1) := by decide +kernel
theorem dX7_order_32 : decode cX7_order 32 = .ok (.iaload, 1) := by decide +kernel
theorem dX7_order_33 : decode cX7_order 33 = .ok (.aload_n 0, 1) := by decide +kernel
theorem dX7_order_34 : decode cX7_order 34 = .ok (.getfield 7, 3) := by decide +kernel
theorem dX7_order_37 : decode cX7_order 37 = .ok (.iconst 2, 1) := by decide +kernel
theorem dX7_order_38 : decode cX7_order 38 = .ok (.iaload, 1) := by decide +kernel
theorem dX7_order_39 : decode cX7_order 39 = .ok (.isub, 1) := by decide +kernel
theorem dX7_order_40 : decode cX7_order 40 = .ok (.istore_n 2, 1) := by decide +kernel
theorem dX7_order_41 : decode cX7_order 41 = .ok (.iload_n 2, 1) := by decide +kernel
theorem dX7_order_42 : decode cX7_order 42 = .ok (.iconst 4, 1) := by decide +kernel
theorem dX7_order_43 : decode cX7_order 43 = .ok (.if_icmp .le 10, 3) := by decide +kernel
theorem dX7_order_46 : decode cX7_order 46 = .ok (.aload_n 0, 1) := by decide +kernel
theorem dX7_order_47 : decode cX7_order 47 = .ok (.bipush 6, 2) := by decide +kernel
theorem dX7_order_49 : decode cX7_order 49 = .ok (.invokevirtual 115, 3) := by decide +kernel
theorem dX7_order_52 : decode cX7_order 52 = .ok (.ireturn, 1) := by decide +kernel
theorem dX7_order_53 : decode cX7_order 53 = .ok (.aload_n 0, 1) := by decide +kernel
theorem dX7_order_54 : decode cX7_order 54 = .ok (.getfield 7, 3) := by decide +kernel
theorem dX7_order_57 : decode cX7_order 57 = .ok (.aload_n 0, 1) := by decide +kernel
theorem dX7_order_58 : decode cX7_order 58 = .ok (.getfield 16, 3) := by decide +kernel
theorem dX7_order_61 : decode cX7_order 61 = .ok (.invokestatic 220, 3) := by decide +kernel
theorem dX7_order_64 : decode cX7_order 64 = .ok (.iconst 0, 1) := by decide +kernel
theorem dX7_order_65 : decode cX7_order 65 = .ok (.istore_n 3, 1) := by decide +kernel
theorem dX7_order_66 : decode cX7_order 66 = .ok (.iload_n 3, 1) := by decide +kernel
theorem dX7_order_67 : decode cX7_order 67 = .ok (.iload_n 2, 1) := by decide +kernel
theorem dX7_order_68 : decode cX7_order 68 = .ok (.if_icmp .ge 23, 3) := by decide +kernel
theorem dX7_order_71 : decode cX7_order 71 = .ok (.aload_n 0, 1) := by decide +kernel
theorem dX7_order_72 : decode cX7_order 72 = .ok (.getfield 48, 3) := by decide +kernel
theorem dX7_order_75 : decode cX7_order 75 = .ok (.iload_n 3, 1) := by decide +kernel
theorem dX7_order_76 : decode cX7_order 76 = .ok (.aload_n 0, 1) := by decide +kernel
theorem dX7_order_77 : decode cX7_order 77 = .ok (.getfield 7, 3) := by decide +kernel
theorem dX7_order_80 : decode cX7_order 80 = .ok (.iconst 2, 1) := by decide +kernel
theorem dX7_order_81 : decode cX7_order 81 = .ok (.iaload, 1) := by decide +kernel
theorem dX7_order_82 : decode cX7_order 82 = .ok (.iload_n 3, 1) := by decide +kernel
theorem dX7_order_83 : decode cX7_order 83 = .ok (.iadd, 1) := by decide +kernel
theorem dX7_order_84 : decode cX7_order 84 = .ok (.iastore, 1) := by decide +kernel
theorem dX7_order_85 : decode cX7_order 85 = .ok (.iinc 3 1, 3) := by decide +kernel
theorem dX7_order_88 : decode cX7_order 88 = .ok (.goto (-22), 3) := by decide +kernel
theorem dX7_order_91 : decode cX7_order 91 = .ok (.iconst (-1), 1) := by decide +kernel
theorem dX7_order_92 : decode cX7_order 92 = .ok (.istore_n 3, 1) := by decide +kernel
theorem dX7_order_93 : decode cX7_order 93 = .ok (.lconst 0, 1) := by decide +kernel
theorem dX7_order_94 : decode cX7_order 94 = .ok (.lstore 4, 2) := by decide +kernel
theorem dX7_order_96 : decode cX7_order 96 = .ok (.iconst 1, 1) := by decide +kernel
theorem dX7_order_97 : decode cX7_order 97 = .ok (.istore 6, 2) := by decide +kernel
theorem dX7_order_99 : decode cX7_order 99 = .ok (.iload 6, 2) := by decide +kernel
theorem dX7_order_101 : decode cX7_order 101 = .ok (.ifCond .eq 139, 3) := by decide +kernel
theorem dX7_order_104 : decode cX7_order 104 = .ok (.iconst 0, 1) := by decide +kernel
theorem dX7_order_105 : decode cX7_order 105 = .ok (.istore 7, 2) := by decide +kernel
theorem dX7_order_107 : decode cX7_order 107 = .ok (.iconst 0, 1) := by decide +kernel
theorem dX7_order_108 : decode cX7_order 108 = .ok (.istore 8, 2) := by decide +kernel
theorem dX7_order_110 : decode cX7_order 110 = .ok (.iload 8, 2) := by decide +kernel
theorem dX7_order_112 : decode cX7_order 112 = .ok (.iload_n 2, 1) := by decide +kernel
theorem dX7_order_113 : decode cX7_order 113 = .ok (.if_icmp .ge 84, 3) := by decide +kernel
theorem dX7_order_116 : decode cX7_order 116 = .ok (.bipush 10, 2) := by decide +kernel
theorem dX7_order_118 : decode cX7_order 118 = .ok (.iload 7, 2) := by decide +kernel
theorem dX7_order_120 : decode cX7_order 120 = .ok (.imul, 1) := by decide +kernel
theorem dX7_order_121 : decode cX7_order 121 = .ok (.aload_n 0, 1) := by decide +kernel
theorem dX7_order_122 : decode cX7_order 122 = .ok (.getfield 48, 3) := by decide +kernel
theorem dX7_order_125 : decode cX7_order 125 = .ok (.iload 8, 2) := by decide +kernel
theorem dX7_order_127 : decode cX7_order 127 = .ok (.iaload, 1) := by decide +kernel
theorem dX7_order_128 : decode cX7_order 128 = .ok (.iadd, 1) := by decide +kernel
theorem dX7_order_129 : decode cX7_order 129 = .ok (.istore 7, 2) := by decide +kernel
theorem dX7_order_131 : decode cX7_order 131 = .ok (.iconst 0, 1) := by decide +kernel
theorem dX7_order_132 : decode cX7_order 132 = .ok (.istore 9, 2) := by decide +kernel
theorem dX7_order_134 : decode cX7_order 134 = .ok (.iload 9, 2) := by decide +kernel
theorem dX7_order_136 : decode cX7_order 136 = .ok (.bipush 7, 2) := by decide +kernel
theorem dX7_order_138 : decode cX7_order 138 = .ok (.if_icmp .ge 53, 3) := by decide +kernel
theorem dX7_order_141 : decode cX7_order 141 = .ok (.aload_n 0, 1) := by decide +kernel
theorem dX7_order_142 : decode cX7_order 142 = .ok (.getfield 7, 3) := by decide +kernel
theorem dX7_order_145 : decode cX7_order 145 = .ok (.bipush 23, 2) := by decide +kernel
theorem dX7_order_147 : decode cX7_order 147 = .ok (.bipush 7, 2) := by decide +kernel
theorem dX7_order_149 : decode cX7_order 149 = .ok (.aload_n 0, 1) := by decide +kernel
theorem dX7_order_150 : decode cX7_order 150 = .ok (.getfield 7, 3) := by decide +kernel
theorem dX7_order_153 : decode cX7_order 153 = .ok (.iconst 2, 1) := by decide +kernel
theorem dX7_order_154 : decode cX7_order 154 = .ok (.iaload, 1) := by decide +kernel
theorem dX7_order_155 : decode cX7_order 155 = .ok (.iload 8, 2) := by decide +kernel
theorem dX7_order_157 : decode cX7_order 157 = .ok (.iadd, 1) := by decide +kernel
theorem dX7_order_158 : decode cX7_order 158 = .ok (.imul, 1) := by decide +kernel
theorem dX7_order_159 : decode cX7_order 159 = .ok (.iadd, 1) := by decide +kernel
theorem dX7_order_160 : decode cX7_order 160 = .ok (.iload 9, 2) := by decide +kernel
theorem dX7_order_162 : decode cX7_order 162 = .ok (.iadd, 1) := by decide +kernel
theorem dX7_order_163 : decode cX7_order 163 = .ok (.aload_n 0, 1) := by decide +kernel
theorem dX7_order_164 : decode cX7_order 164 = .ok (.getfield 16, 3) := by decide +kernel
theorem dX7_order_167 : decode cX7_order 167 = .ok (.bipush 23, 2) := by decide +kernel
theorem dX7_order_169 : decode cX7_order 169 = .ok (.bipush 7, 2) := by decide +kernel
theorem dX7_order_171 : decode cX7_order 171 = .ok (.aload_n 0, 1) := by decide +kernel
theorem dX7_order_172 : decode cX7_order 172 = .ok (.getfield 48, 3) := by decide +kernel
theorem dX7_order_175 : decode cX7_order 175 = .ok (.iload 8, 2) := by decide +kernel
theorem dX7_order_177 : decode cX7_order 177 = .ok (.iaload, 1) := by decide +kernel
theorem dX7_order_178 : decode cX7_order 178 = .ok (.imul, 1) := by decide +kernel
theorem dX7_order_179 : decode cX7_order 179 = .ok (.iadd, 1) := by decide +kernel
theorem dX7_order_180 : decode cX7_order 180 = .ok (.iload 9, 2) := by decide +kernel
theorem dX7_order_182 : decode cX7_order 182 = .ok (.iadd, 1) := by decide +kernel
theorem dX7_order_183 : decode cX7_order 183 = .ok (.iaload, 1) := by decide +kernel
theorem dX7_order_184 : decode cX7_order 184 = .ok (.iastore, 1) := by decide +kernel
theorem dX7_order_185 : decode cX7_order 185 = .ok (.iinc 9 1, 3) := by decide +kernel
theorem dX7_order_188 : decode cX7_order 188 = .ok (.goto (-54), 3) := by decide +kernel
theorem dX7_order_191 : decode cX7_order 191 = .ok (.iinc 8 1, 3) := by decide +kernel
theorem dX7_order_194 : decode cX7_order 194 = .ok (.goto (-84), 3) := by decide +kernel
theorem dX7_order_197 : decode cX7_order 197 = .ok (.aload_n 0, 1) := by decide +kernel
theorem dX7_order_198 : decode cX7_order 198 = .ok (.invokevirtual 266, 3) := by decide +kernel
theorem dX7_order_201 : decode cX7_order 201 = .ok (.lstore 8, 2) := by decide +kernel
theorem dX7_order_203 : decode cX7_order 203 = .ok (.iload_n 3, 1) := by decide +kernel
theorem dX7_order_204 : decode cX7_order 204 = .ok (.ifCond .lt 15, 3) := by decide +kernel
theorem dX7_order_207 : decode cX7_order 207 = .ok (.aload_n 0, 1) := by decide +kernel
theorem dX7_order_208 : decode cX7_order 208 = .ok (.getfield 36, 3) := by decide +kernel
theorem dX7_order_211 : decode cX7_order 211 = .ok (.iload_n 1, 1) := by decide +kernel
theorem dX7_order_212 : decode cX7_order 212 = .ok (.laload, 1) := by decide +kernel
theorem dX7_order_213 : decode cX7_order 213 = .ok (.lload 4, 2) := by decide +kernel
theorem dX7_order_215 : decode cX7_order 215 = .ok (.lcmp, 1) := by decide +kernel
theorem dX7_order_216 : decode cX7_order 216 = .ok (.ifCond .le 14, 3) := by decide +kernel
theorem dX7_order_219 : decode cX7_order 219 = .ok (.iload 7, 2) := by decide +kernel
theorem dX7_order_221 : decode cX7_order 221 = .ok (.istore_n 3, 1) := by decide +kernel
theorem dX7_order_222 : decode cX7_order 222 = .ok (.aload_n 0, 1) := by decide +kernel
theorem dX7_order_223 : decode cX7_order 223 = .ok (.getfield 36, 3) := by decide +kernel
theorem dX7_order_226 : decode cX7_order 226 = .ok (.iload_n 1, 1) := by decide +kernel
theorem dX7_order_227 : decode cX7_order 227 = .ok (.laload, 1) := by decide +kernel
theorem dX7_order_228 : decode cX7_order 228 = .ok (.lstore 4, 2) := by decide +kernel
theorem dX7_order_230 : decode cX7_order 230 = .ok (.aload_n 0, 1) := by decide +kernel
theorem dX7_order_231 : decode cX7_order 231 = .ok (.iload_n 2, 1) := by decide +kernel
theorem dX7_order_232 : decode cX7_order 232 = .ok (.invokevirtual 281, 3) := by decide +kernel
theorem dX7_order_235 : decode cX7_order 235 = .ok (.istore 6, 2) := by decide +kernel
theorem dX7_order_237 : decode cX7_order 237 = .ok (.goto (-138), 3) := by decide +kernel
theorem dX7_order_240 : decode cX7_order 240 = .ok (.aload_n 0, 1) := by decide +kernel
theorem dX7_order_241 : decode cX7_order 241 = .ok (.getfield 16, 3) := by decide +kernel
theorem dX7_order_244 : decode cX7_order 244 = .ok (.aload_n 0, 1) := by decide +kernel
theorem dX7_order_245 : decode cX7_order 245 = .ok (.getfield 7, 3) := by decide +kernel
theorem dX7_order_248 : decode cX7_order 248 = .ok (.invokestatic 220, 3) := by decide +kernel
theorem dX7_order_251 : decode cX7_order 251 = .ok (.iload_n 3, 1) := by decide +kernel
theorem dX7_order_252 : decode cX7_order 252 = .ok (.ireturn, 1) := by decide +kernel
set_option maxHeartbeats 4000000 in
set_option maxRecDepth 100000 in
theorem c_X7_order (l : Launch) (D : va_G) (cy : Nat → ClassId) (ad adK adV : Nat → Nat) (M : Mm) (o0 : Nat) (a1 : Int32) (res : Mm × Int32) (h : f_X7_order M o0 a1 = some res) : Met l yX7_order (wU yX7_order cX7_order 10 (some .int)) rmX7_order (va_Pc [.ref (ad o0), .int a1] (Pre D cy shM ad nM adK adV M)) (va_Qi (fun r (M2 : Mm) => r = res.2 ∧ M2 = res.1) (Pre D cy shM ad nM adK adV) (Aw ad nM)) 0 0 (Aw ad nM) := by
  refine Met.ofW (cc := cX7_order) (maxL := 10) (ret := (some .int)) (by decide) rfl ?_
  intro p e s m args below meth c s₁ B hml hv
  obtain ⟨hargs, hPre⟩ := hv
  have hx := B.exec
  have hb := B.bytes
  have hr := B.returns
  have hts := atoms_spec (ws := wU yX7_order cX7_order 10 (some .int)) B.pre
  have hq : ∀ w ∈ gW, w.before args s = true := fun w hw => hts w (List.mem_cons_of_mem _ hw)
  have hcm : ∀ w ∈ gW, w ∈ wU yX7_order cX7_order 10 (some .int) := fun w hw => List.mem_cons_of_mem _ hw
  have hown : s.vm.findClass RX7 = some m.cls := findClass_of_methodNamed B.named
  have hlocks := B.notSynchronized
  have hF : CallFix p m c cX7_order 10 s args (wU yX7_order cX7_order 10 (some .int)) RX7 := ⟨hx, hb, hml, hown, hts⟩
  have hK := hPre.2.1
  have hZ := hPre.2.2.2
  have hw : Wd D cy shM ad nM (Aw ad nM) s.heap M s.heap [] := ⟨hPre.1, hPre.2.2.1, va_S.rf⟩
  have iw7 : ∀ w ∈ u_ws RX7 TX7 30, w ∈ wU yX7_order cX7_order 10 (some .int) := fun w hw => List.mem_cons_of_mem _ (iX7 w hw)
  rw [show entryFrame m args 10 = entryFrame m ([.ref (ad o0), .int a1] : List Value).toArray 10 from by rw [hargs]]
  have hl := lv_entry ([.ref (ad o0), .int a1]) (n := 10) (Nat.le_of_ble_eq_true rfl)
  rw [lg_entry_eq]
  generalize (lg_sl ([.ref (ad o0), .int a1]) ++ List.replicate (10 - (lg_sl ([.ref (ad o0), .int a1])).length) Slot.unset).toArray = ls at hl ⊢
  have hl : lv_has ls 10 [(0, .ref (ad o0)), (1, .int a1)] := hl
  have hb230 : ∀ (k99 : Mm → Nat → Int32 → Int32 → Int32 → Int64 → Int32 → Option (Mm × Int32)) (hk99 : ∀ (M : Mm) (x0 : Nat) (x1 : Int32) (x2 : Int32) (x3 : Int32) (x4 : Int64) (x6 : Int32), k99 M x0 x1 x2 x3 x4 x6 = some res → ∀ (H : Heap) (locs : List Loc) (ls : Array Slot), Wd D cy shM ad nM (Aw ad nM) s.heap M H locs → lv_has ls 10 [(0, .ref (ad x0)), (1, .int x1), (2, .int x2), (3, .int x3), (4, .long x4), (6, .int x6)] → W p l e (headSpec (wU yX7_order cX7_order 10 (some .int)) rmX7_order).room s m args below meth c H locs 0 0 (QI D cy shM ad nM adK adV below args s res) (F0 m 99 ls [])), ∀ (M : Mm) (x0 : Nat) (x1 : Int32) (x2 : Int32) (x3 : Int32) (x4 : Int64), f_X7_order_b230 k99 M x0 x1 x2 x3 x4 = some res → ∀ (H : Heap) (locs : List Loc) (ls : Array Slot), Wd D cy shM ad nM (Aw ad nM) s.heap M H locs → lv_has ls 10 [(0, .ref (ad x0)), (1, .int x1), (2, .int x2), (3, .int x3), (4, .long x4)] → W p l e (headSpec (wU yX7_order cX7_order 10 (some .int)) rmX7_order).room s m args below meth c H locs 0 0 (QI D cy shM ad nM adK adV below args s res) (F0 m 230 ls []) := by
    intro k99 hk99
    intro M x0 x1 x2 x3 x4 h H locs ls hw hl
    unfold f_X7_order_b230 at h
    refine lv_aload_n hx hb dX7_order_230 rfl (lv_at hl 0 rfl) ?_
    refine lv_iload_n hx hb dX7_order_231 rfl (lv_at hl 2 rfl) ?_
    replace h := gd_some h
    obtain ⟨g2, h⟩ := h
    replace h := bd_some h
    obtain ⟨r1, er1, h⟩ := h
    refine r_callVi (As := [.int x2]) (rest := []) hF (c_X7_nextRow l D cy ad adK adV M x0 x2 r1 er1) (gW_goodV hcm qw1274 qw1271 qw1273 qw57 qw67) hdX7_nextRow rfl ⟨Nat.le_of_ble_eq_true rfl, Nat.le_of_ble_eq_true rfl⟩ rfl rfl hZ hK hw g2 (by decide) rfl rfl hl.1 rfl (Nat.le_of_ble_eq_true rfl) ⟨Nat.zero_le _, Nat.zero_le _⟩ dX7_order_232 (fun H locs hw => ?_)
    refine lv_istore (lv' := [(6, .int r1.2), (0, .ref (ad x0)), (1, .int x1), (2, .int x2), (3, .int x3), (4, .long x4)]) hx hb dX7_order_235 hl (by decide) rfl (fun ls hl => ?_)
    refine lv_goto (tgt := 99) hx hb dX7_order_237 (by decide) ?_
    exact hk99 _ _ _ _ _ _ _ h _ _ _ hw (lv_sub hl [1, 2, 3, 4, 5, 0] rfl)
  have hb219 : ∀ (k99 : Mm → Nat → Int32 → Int32 → Int32 → Int64 → Int32 → Option (Mm × Int32)) (hk99 : ∀ (M : Mm) (x0 : Nat) (x1 : Int32) (x2 : Int32) (x3 : Int32) (x4 : Int64) (x6 : Int32), k99 M x0 x1 x2 x3 x4 x6 = some res → ∀ (H : Heap) (locs : List Loc) (ls : Array Slot), Wd D cy shM ad nM (Aw ad nM) s.heap M H locs → lv_has ls 10 [(0, .ref (ad x0)), (1, .int x1), (2, .int x2), (3, .int x3), (4, .long x4), (6, .int x6)] → W p l e (headSpec (wU yX7_order cX7_order 10 (some .int)) rmX7_order).room s m args below meth c H locs 0 0 (QI D cy shM ad nM adK adV below args s res) (F0 m 99 ls [])), ∀ (M : Mm) (x0 : Nat) (x1 : Int32) (x2 : Int32) (x7 : Int32), f_X7_order_b219 k99 M x0 x1 x2 x7 = some res → ∀ (H : Heap) (locs : List Loc) (ls : Array Slot), Wd D cy shM ad nM (Aw ad nM) s.heap M H locs → lv_has ls 10 [(0, .ref (ad x0)), (1, .int x1), (2, .int x2), (7, .int x7)] → W p l e (headSpec (wU yX7_order cX7_order 10 (some .int)) rmX7_order).room s m args below meth c H locs 0 0 (QI D cy shM ad nM adK adV below args s res) (F0 m 219 ls []) := by
    intro k99 hk99
    intro M x0 x1 x2 x7 h H locs ls hw hl
    unfold f_X7_order_b219 at h
    refine lv_iload hx hb dX7_order_219 (lv_at hl 3 rfl) ?_
    refine lv_istore_n (lv' := [(3, .int x7), (0, .ref (ad x0)), (1, .int x1), (2, .int x2), (7, .int x7)]) hx hb dX7_order_221 rfl hl (by decide) rfl (fun ls hl => ?_)
    refine lv_aload_n hx hb dX7_order_222 rfl (lv_at hl 1 rfl) ?_
    replace h := gd_some h
    obtain ⟨g3, h⟩ := h
    replace h := bd_some h
    obtain ⟨q4, eq4, h⟩ := h
    refine r_getR hx hb hts iw7 hown hK hw x0 18 g3 (by decide) rfl (by decide) rfl (hq _ qw906) (fun _ h9 => h9) dX7_order_223 eq4 ?_
    refine lv_iload_n hx hb dX7_order_226 rfl (lv_at hl 2 rfl) ?_
    replace h := gd_some h
    obtain ⟨g5, h⟩ := h
    refine r_lald hx hb hK hw q4 g5 dX7_order_227 ?_
    refine lv_lstore (lv' := [(4, .long (M.2.1 q4 x1.toNatClampNeg)), (3, .int x7), (0, .ref (ad x0)), (1, .int x1), (2, .int x2), (7, .int x7)]) hx hb dX7_order_228 hl (by decide) rfl (fun ls hl => ?_)
    exact hb230 _ hk99 _ _ _ _ _ _ h _ _ _ hw (lv_sub hl [2, 3, 4, 1, 0] rfl)
  have hb134 : ∀ (k110 : Mm → Nat → Int32 → Int32 → Int32 → Int64 → Int32 → Int32 → Option (Mm × Int32)) (hk110 : ∀ (M : Mm) (x0 : Nat) (x1 : Int32) (x2 : Int32) (x3 : Int32) (x4 : Int64) (x7 : Int32) (x8 : Int32), k110 M x0 x1 x2 x3 x4 x7 x8 = some res → ∀ (H : Heap) (locs : List Loc) (ls : Array Slot), Wd D cy shM ad nM (Aw ad nM) s.heap M H locs → lv_has ls 10 [(0, .ref (ad x0)), (1, .int x1), (2, .int x2), (3, .int x3), (4, .long x4), (7, .int x7), (8, .int x8)] → W p l e (headSpec (wU yX7_order cX7_order 10 (some .int)) rmX7_order).room s m args below meth c H locs 0 0 (QI D cy shM ad nM adK adV below args s res) (F0 m 110 ls [])), ∀ (nn : Nat), ∀ (M : Mm) (x0 : Nat) (x1 : Int32) (x2 : Int32) (x3 : Int32) (x4 : Int64) (x7 : Int32) (x8 : Int32) (x9 : Int32), f_X7_order_b134 k110 nn M x0 x1 x2 x3 x4 x7 x8 x9 = some res → ∀ (H : Heap) (locs : List Loc) (ls : Array Slot), Wd D cy shM ad nM (Aw ad nM) s.heap M H locs → lv_has ls 10 [(0, .ref (ad x0)), (1, .int x1), (2, .int x2), (3, .int x3), (4, .long x4), (7, .int x7), (8, .int x8), (9, .int x9)] → W p l e (headSpec (wU yX7_order cX7_order 10 (some .int)) rmX7_order).room s m args below meth c H locs 0 0 (QI D cy shM ad nM adK adV below args s res) (F0 m 134 ls []) := by
    intro k110 hk110
    intro nn
    induction nn with
    | zero => intro M x0 x1 x2 x3 x4 x7 x8 x9 h; simp [f_X7_order_b134] at h
    | succ nn ih =>
      intro M x0 x1 x2 x3 x4 x7 x8 x9 h H locs ls hw hl
      unfold f_X7_order_b134 at h
      refine lv_iload hx hb dX7_order_134 (lv_at hl 7 rfl) ?_
      refine lv_bipush (v := (7 : Int32)) hx hb dX7_order_136 (by decide) ?_
      refine lv_icmp_ge (tgt := 191) hx hb dX7_order_138 (by decide) (fun c6 => ?_) (fun c6 => ?_)
      · replace h := if_some_t c6 h
        refine lv_iinc (v := x8 + (1 : Int32)) (lv' := [(8, .int (x8 + (1 : Int32))), (0, .ref (ad x0)), (1, .int x1), (2, .int x2), (3, .int x3), (4, .long x4), (7, .int x7), (9, .int x9)]) hx hb dX7_order_191 hl (k := 6) rfl (congrArg (fun z => x8 + z) (by decide)) (by decide) rfl (fun ls hl => ?_)
        refine lv_goto (tgt := 110) hx hb dX7_order_194 (by decide) ?_
        exact hk110 _ _ _ _ _ _ _ _ h _ _ _ hw (lv_sub hl [1, 2, 3, 4, 5, 6, 0] rfl)
      · replace h := if_some_f c6 h
        refine lv_aload_n hx hb dX7_order_141 rfl (lv_at hl 0 rfl) ?_
        replace h := gd_some h
        obtain ⟨g7, h⟩ := h
        replace h := bd_some h
        obtain ⟨q8, eq8, h⟩ := h
        refine r_getR hx hb hts iw7 hown hK hw x0 0 g7 (by decide) rfl (by decide) rfl (hq _ qw888) (fun _ h9 => h9) dX7_order_142 eq8 ?_
        refine lv_bipush (v := (23 : Int32)) hx hb dX7_order_145 (by decide) ?_
        refine lv_bipush (v := (7 : Int32)) hx hb dX7_order_147 (by decide) ?_
        refine lv_aload_n hx hb dX7_order_149 rfl (lv_at hl 0 rfl) ?_
        replace h := bd_some h
        obtain ⟨q9, eq9, h⟩ := h
        refine r_getR hx hb hts iw7 hown hK hw x0 0 g7 (by decide) rfl (by decide) rfl (hq _ qw888) (fun _ h9 => h9) dX7_order_150 eq9 ?_
        refine lv_iconst (v := (2 : Int32)) hx hb dX7_order_153 (by decide) ?_
        replace h := gd_some h
        obtain ⟨g10, h⟩ := h
        refine r_iald hx hb hK hw q9 g10 dX7_order_154 ?_
        refine lv_iload hx hb dX7_order_155 (lv_at hl 6 rfl) ?_
        refine lv_iadd hx hb dX7_order_157 ?_
        refine lv_imul hx hb dX7_order_158 ?_
        refine lv_iadd hx hb dX7_order_159 ?_
        refine lv_iload hx hb dX7_order_160 (lv_at hl 7 rfl) ?_
        refine lv_iadd hx hb dX7_order_162 ?_
        refine lv_aload_n hx hb dX7_order_163 rfl (lv_at hl 0 rfl) ?_
        replace h := bd_some h
        obtain ⟨q11, eq11, h⟩ := h
        refine r_getR hx hb hts iw7 hown hK hw x0 2 g7 (by decide) rfl (by decide) rfl (hq _ qw890) (fun _ h9 => h9) dX7_order_164 eq11 ?_
        refine lv_bipush (v := (23 : Int32)) hx hb dX7_order_167 (by decide) ?_
        refine lv_bipush (v := (7 : Int32)) hx hb dX7_order_169 (by decide) ?_
        refine lv_aload_n hx hb dX7_order_171 rfl (lv_at hl 0 rfl) ?_
        replace h := bd_some h
        obtain ⟨q12, eq12, h⟩ := h
        refine r_getR hx hb hts iw7 hown hK hw x0 24 g7 (by decide) rfl (by decide) rfl (hq _ qw912) (fun _ h9 => h9) dX7_order_172 eq12 ?_
        refine lv_iload hx hb dX7_order_175 (lv_at hl 6 rfl) ?_
        replace h := gd_some h
        obtain ⟨g13, h⟩ := h
        refine r_iald hx hb hK hw q12 g13 dX7_order_177 ?_
        refine lv_imul hx hb dX7_order_178 ?_
        refine lv_iadd hx hb dX7_order_179 ?_
        refine lv_iload hx hb dX7_order_180 (lv_at hl 7 rfl) ?_
        refine lv_iadd hx hb dX7_order_182 ?_
        replace h := gd_some h
        obtain ⟨g14, h⟩ := h
        refine r_iald hx hb hK hw q11 g14 dX7_order_183 ?_
        replace h := gd_some h
        obtain ⟨g15, h⟩ := h
        refine r_iast hx hb hK hw q8 g15 dX7_order_184 (fun H locs hw => ?_)
        replace h := lt_some h
        obtain ⟨M16, eM16, h⟩ := h
        rw [← eM16] at hw
        refine lv_iinc (v := x9 + (1 : Int32)) (lv' := [(9, .int (x9 + (1 : Int32))), (0, .ref (ad x0)), (1, .int x1), (2, .int x2), (3, .int x3), (4, .long x4), (7, .int x7), (8, .int x8)]) hx hb dX7_order_185 hl (k := 7) rfl (congrArg (fun z => x9 + z) (by decide)) (by decide) rfl (fun ls hl => ?_)
        refine lv_goto (tgt := 134) hx hb dX7_order_188 (by decide) ?_
        exact ih _ _ _ _ _ _ _ _ _ h _ _ _ hw (lv_sub hl [1, 2, 3, 4, 5, 6, 7, 0] rfl)
  have hb110 : ∀ (k99 : Mm → Nat → Int32 → Int32 → Int32 → Int64 → Int32 → Option (Mm × Int32)) (hk99 : ∀ (M : Mm) (x0 : Nat) (x1 : Int32) (x2 : Int32) (x3 : Int32) (x4 : Int64) (x6 : Int32), k99 M x0 x1 x2 x3 x4 x6 = some res → ∀ (H : Heap) (locs : List Loc) (ls : Array Slot), Wd D cy shM ad nM (Aw ad nM) s.heap M H locs → lv_has ls 10 [(0, .ref (ad x0)), (1, .int x1), (2, .int x2), (3, .int x3), (4, .long x4), (6, .int x6)] → W p l e (headSpec (wU yX7_order cX7_order 10 (some .int)) rmX7_order).room s m args below meth c H locs 0 0 (QI D cy shM ad nM adK adV below args s res) (F0 m 99 ls [])), ∀ (nn : Nat), ∀ (M : Mm) (x0 : Nat) (x1 : Int32) (x2 : Int32) (x3 : Int32) (x4 : Int64) (x7 : Int32) (x8 : Int32), f_X7_order_b110 k99 nn M x0 x1 x2 x3 x4 x7 x8 = some res → ∀ (H : Heap) (locs : List Loc) (ls : Array Slot), Wd D cy shM ad nM (Aw ad nM) s.heap M H locs → lv_has ls 10 [(0, .ref (ad x0)), (1, .int x1), (2, .int x2), (3, .int x3), (4, .long x4), (7, .int x7), (8, .int x8)] → W p l e (headSpec (wU yX7_order cX7_order 10 (some .int)) rmX7_order).room s m args below meth c H locs 0 0 (QI D cy shM ad nM adK adV below args s res) (F0 m 110 ls []) := by
    intro k99 hk99
    intro nn
    induction nn with
    | zero => intro M x0 x1 x2 x3 x4 x7 x8 h; simp [f_X7_order_b110] at h
    | succ nn ih =>
      intro M x0 x1 x2 x3 x4 x7 x8 h H locs ls hw hl
      unfold f_X7_order_b110 at h
      refine lv_iload hx hb dX7_order_110 (lv_at hl 6 rfl) ?_
      refine lv_iload_n hx hb dX7_order_112 rfl (lv_at hl 2 rfl) ?_
      refine lv_icmp_ge (tgt := 197) hx hb dX7_order_113 (by decide) (fun c17 => ?_) (fun c17 => ?_)
      · replace h := if_some_t c17 h
        refine lv_aload_n hx hb dX7_order_197 rfl (lv_at hl 0 rfl) ?_
        replace h := gd_some h
        obtain ⟨g19, h⟩ := h
        replace h := bd_some h
        obtain ⟨r18, er18, h⟩ := h
        refine r_callVl (As := []) (rest := []) hF (c_X7_findWays l D cy ad adK adV M x0 r18 er18) (gW_goodV hcm qw1210 qw1207 qw1209 qw52 qw67) hdX7_findWays rfl ⟨Nat.le_of_ble_eq_true rfl, Nat.le_of_ble_eq_true rfl⟩ rfl rfl hZ hK hw g19 (by decide) rfl rfl hl.1 rfl (Nat.le_of_ble_eq_true rfl) ⟨Nat.zero_le _, Nat.zero_le _⟩ dX7_order_198 (fun H locs hw => ?_)
        refine lv_lstore (lv' := [(8, .long r18.2), (0, .ref (ad x0)), (1, .int x1), (2, .int x2), (3, .int x3), (4, .long x4), (7, .int x7)]) hx hb dX7_order_201 hl (by decide) rfl (fun ls hl => ?_)
        refine lv_iload_n hx hb dX7_order_203 rfl (lv_at hl 4 rfl) ?_
        refine lv_if_lt (tgt := 219) hx hb dX7_order_204 (by decide) (fun c20 => ?_) (fun c20 => ?_)
        · replace h := if_some_t c20 h
          exact hb219 _ hk99 _ _ _ _ _ h _ _ _ hw (lv_sub hl [1, 2, 3, 6] rfl)
        · replace h := if_some_f c20 h
          refine lv_aload_n hx hb dX7_order_207 rfl (lv_at hl 1 rfl) ?_
          replace h := bd_some h
          obtain ⟨q21, eq21, h⟩ := h
          refine r_getR hx hb hts iw7 hown hK hw x0 18 g19 (by decide) rfl (by decide) rfl (hq _ qw906) (fun _ h9 => h9) dX7_order_208 eq21 ?_
          refine lv_iload_n hx hb dX7_order_211 rfl (lv_at hl 2 rfl) ?_
          replace h := gd_some h
          obtain ⟨g22, h⟩ := h
          refine r_lald hx hb hK hw q21 g22 dX7_order_212 ?_
          refine lv_lload hx hb dX7_order_213 (lv_at hl 5 rfl) ?_
          refine W.lcmp hx hb dX7_order_215 ?_
          refine lv_if_le (tgt := 230) hx hb dX7_order_216 (by decide) (fun c23 => ?_) (fun c23 => ?_)
          · replace h := if_some_t c23 h
            exact hb230 _ hk99 _ _ _ _ _ _ h _ _ _ hw (lv_sub hl [1, 2, 3, 4, 5] rfl)
          · replace h := if_some_f c23 h
            exact hb219 _ hk99 _ _ _ _ _ h _ _ _ hw (lv_sub hl [1, 2, 3, 6] rfl)
      · replace h := if_some_f c17 h
        refine lv_bipush (v := (10 : Int32)) hx hb dX7_order_116 (by decide) ?_
        refine lv_iload hx hb dX7_order_118 (lv_at hl 5 rfl) ?_
        refine lv_imul hx hb dX7_order_120 ?_
        refine lv_aload_n hx hb dX7_order_121 rfl (lv_at hl 0 rfl) ?_
        replace h := gd_some h
        obtain ⟨g24, h⟩ := h
        replace h := bd_some h
        obtain ⟨q25, eq25, h⟩ := h
        refine r_getR hx hb hts iw7 hown hK hw x0 24 g24 (by decide) rfl (by decide) rfl (hq _ qw912) (fun _ h9 => h9) dX7_order_122 eq25 ?_
        refine lv_iload hx hb dX7_order_125 (lv_at hl 6 rfl) ?_
        replace h := gd_some h
        obtain ⟨g26, h⟩ := h
        refine r_iald hx hb hK hw q25 g26 dX7_order_127 ?_
        refine lv_iadd hx hb dX7_order_128 ?_
        refine lv_topi (fun y27 ey27 => ?_)
        replace h := lt_at ey27 h
        refine lv_istore (lv' := [(7, .int y27), (0, .ref (ad x0)), (1, .int x1), (2, .int x2), (3, .int x3), (4, .long x4), (8, .int x8)]) hx hb dX7_order_129 hl (by decide) rfl (fun ls hl => ?_)
        refine lv_iconst (v := (0 : Int32)) hx hb dX7_order_131 (by decide) ?_
        refine lv_istore (lv' := [(9, .int (0 : Int32)), (7, .int y27), (0, .ref (ad x0)), (1, .int x1), (2, .int x2), (3, .int x3), (4, .long x4), (8, .int x8)]) hx hb dX7_order_132 hl (by decide) rfl (fun ls hl => ?_)
        exact hb134 _ ih 1000 _ _ _ _ _ _ _ _ _ h _ _ _ hw (lv_sub hl [2, 3, 4, 5, 6, 1, 7, 0] rfl)
  have hb99 : ∀ (nn : Nat), ∀ (M : Mm) (x0 : Nat) (x1 : Int32) (x2 : Int32) (x3 : Int32) (x4 : Int64) (x6 : Int32), f_X7_order_b99 nn M x0 x1 x2 x3 x4 x6 = some res → ∀ (H : Heap) (locs : List Loc) (ls : Array Slot), Wd D cy shM ad nM (Aw ad nM) s.heap M H locs → lv_has ls 10 [(0, .ref (ad x0)), (1, .int x1), (2, .int x2), (3, .int x3), (4, .long x4), (6, .int x6)] → W p l e (headSpec (wU yX7_order cX7_order 10 (some .int)) rmX7_order).room s m args below meth c H locs 0 0 (QI D cy shM ad nM adK adV below args s res) (F0 m 99 ls []) := by
    intro nn
    induction nn with
    | zero => intro M x0 x1 x2 x3 x4 x6 h; simp [f_X7_order_b99] at h
    | succ nn ih =>
      intro M x0 x1 x2 x3 x4 x6 h H locs ls hw hl
      unfold f_X7_order_b99 at h
      refine lv_iload hx hb dX7_order_99 (lv_at hl 5 rfl) ?_
      refine lv_if_eq (tgt := 240) hx hb dX7_order_101 (by decide) (fun c28 => ?_) (fun c28 => ?_)
      · replace h := if_some_t c28 h
        refine lv_aload_n hx hb dX7_order_240 rfl (lv_at hl 0 rfl) ?_
        replace h := gd_some h
        obtain ⟨g29, h⟩ := h
        replace h := bd_some h
        obtain ⟨q30, eq30, h⟩ := h
        refine r_getR hx hb hts iw7 hown hK hw x0 2 g29 (by decide) rfl (by decide) rfl (hq _ qw890) (fun _ h9 => h9) dX7_order_241 eq30 ?_
        refine lv_aload_n hx hb dX7_order_244 rfl (lv_at hl 0 rfl) ?_
        replace h := bd_some h
        obtain ⟨q31, eq31, h⟩ := h
        refine r_getR hx hb hts iw7 hown hK hw x0 0 g29 (by decide) rfl (by decide) rfl (hq _ qw888) (fun _ h9 => h9) dX7_order_245 eq31 ?_
        replace h := bd_some h
        obtain ⟨r32, er32, h⟩ := h
        refine r_callSv (As := [.ref (ad q30), .ref (ad q31)]) (rest := []) hF (c_X7_carry l D cy ad adK adV M q30 q31 r32 er32) (gW_goodS hcm qw1077 qw1075 qw1076 qw67) hdX7_carry ⟨Nat.le_of_ble_eq_true rfl, Nat.le_of_ble_eq_true rfl⟩ rfl rfl hZ hK hw rfl hl.1 rfl (Nat.le_of_ble_eq_true rfl) ⟨Nat.zero_le _, Nat.zero_le _⟩ dX7_order_248 (fun H locs hw => ?_)
        refine lv_iload_n hx hb dX7_order_251 rfl (lv_at hl 3 rfl) ?_
        exact r_iret hx hb hr rfl hlocks hZ hK hw h dX7_order_252
      · replace h := if_some_f c28 h
        refine lv_iconst (v := (0 : Int32)) hx hb dX7_order_104 (by decide) ?_
        refine lv_istore (lv' := [(7, .int (0 : Int32)), (0, .ref (ad x0)), (1, .int x1), (2, .int x2), (3, .int x3), (4, .long x4), (6, .int x6)]) hx hb dX7_order_105 hl (by decide) rfl (fun ls hl => ?_)
        refine lv_iconst (v := (0 : Int32)) hx hb dX7_order_107 (by decide) ?_
        refine lv_istore (lv' := [(8, .int (0 : Int32)), (7, .int (0 : Int32)), (0, .ref (ad x0)), (1, .int x1), (2, .int x2), (3, .int x3), (4, .long x4), (6, .int x6)]) hx hb dX7_order_108 hl (by decide) rfl (fun ls hl => ?_)
        exact hb110 _ ih 1000 _ _ _ _ _ _ _ _ h _ _ _ hw (lv_sub hl [2, 3, 4, 5, 6, 1, 0] rfl)
  have hb66 : ∀ (nn : Nat), ∀ (M : Mm) (x0 : Nat) (x1 : Int32) (x2 : Int32) (x3 : Int32), f_X7_order_b66 nn M x0 x1 x2 x3 = some res → ∀ (H : Heap) (locs : List Loc) (ls : Array Slot), Wd D cy shM ad nM (Aw ad nM) s.heap M H locs → lv_has ls 10 [(0, .ref (ad x0)), (1, .int x1), (2, .int x2), (3, .int x3)] → W p l e (headSpec (wU yX7_order cX7_order 10 (some .int)) rmX7_order).room s m args below meth c H locs 0 0 (QI D cy shM ad nM adK adV below args s res) (F0 m 66 ls []) := by
    intro nn
    induction nn with
    | zero => intro M x0 x1 x2 x3 h; simp [f_X7_order_b66] at h
    | succ nn ih =>
      intro M x0 x1 x2 x3 h H locs ls hw hl
      unfold f_X7_order_b66 at h
      refine lv_iload_n hx hb dX7_order_66 rfl (lv_at hl 3 rfl) ?_
      refine lv_iload_n hx hb dX7_order_67 rfl (lv_at hl 2 rfl) ?_
      refine lv_icmp_ge (tgt := 91) hx hb dX7_order_68 (by decide) (fun c33 => ?_) (fun c33 => ?_)
      · replace h := if_some_t c33 h
        refine lv_iconst (v := (-1 : Int32)) hx hb dX7_order_91 (by decide) ?_
        refine lv_istore_n (lv' := [(3, .int (-1 : Int32)), (0, .ref (ad x0)), (1, .int x1), (2, .int x2)]) hx hb dX7_order_92 rfl hl (by decide) rfl (fun ls hl => ?_)
        refine lv_lconst (v := (0 : Int64)) hx hb dX7_order_93 (by decide) ?_
        refine lv_lstore (lv' := [(4, .long (0 : Int64)), (3, .int (-1 : Int32)), (0, .ref (ad x0)), (1, .int x1), (2, .int x2)]) hx hb dX7_order_94 hl (by decide) rfl (fun ls hl => ?_)
        refine lv_iconst (v := (1 : Int32)) hx hb dX7_order_96 (by decide) ?_
        refine lv_istore (lv' := [(6, .int (1 : Int32)), (4, .long (0 : Int64)), (3, .int (-1 : Int32)), (0, .ref (ad x0)), (1, .int x1), (2, .int x2)]) hx hb dX7_order_97 hl (by decide) rfl (fun ls hl => ?_)
        exact hb99 1000 _ _ _ _ _ _ _ h _ _ _ hw (lv_sub hl [3, 4, 5, 2, 1, 0] rfl)
      · replace h := if_some_f c33 h
        refine lv_aload_n hx hb dX7_order_71 rfl (lv_at hl 0 rfl) ?_
        replace h := gd_some h
        obtain ⟨g34, h⟩ := h
        replace h := bd_some h
        obtain ⟨q35, eq35, h⟩ := h
        refine r_getR hx hb hts iw7 hown hK hw x0 24 g34 (by decide) rfl (by decide) rfl (hq _ qw912) (fun _ h9 => h9) dX7_order_72 eq35 ?_
        refine lv_iload_n hx hb dX7_order_75 rfl (lv_at hl 3 rfl) ?_
        refine lv_aload_n hx hb dX7_order_76 rfl (lv_at hl 0 rfl) ?_
        replace h := bd_some h
        obtain ⟨q36, eq36, h⟩ := h
        refine r_getR hx hb hts iw7 hown hK hw x0 0 g34 (by decide) rfl (by decide) rfl (hq _ qw888) (fun _ h9 => h9) dX7_order_77 eq36 ?_
        refine lv_iconst (v := (2 : Int32)) hx hb dX7_order_80 (by decide) ?_
        replace h := gd_some h
        obtain ⟨g37, h⟩ := h
        refine r_iald hx hb hK hw q36 g37 dX7_order_81 ?_
        refine lv_iload_n hx hb dX7_order_82 rfl (lv_at hl 3 rfl) ?_
        refine lv_iadd hx hb dX7_order_83 ?_
        replace h := gd_some h
        obtain ⟨g38, h⟩ := h
        refine r_iast hx hb hK hw q35 g38 dX7_order_84 (fun H locs hw => ?_)
        replace h := lt_some h
        obtain ⟨M39, eM39, h⟩ := h
        rw [← eM39] at hw
        refine lv_iinc (v := x3 + (1 : Int32)) (lv' := [(3, .int (x3 + (1 : Int32))), (0, .ref (ad x0)), (1, .int x1), (2, .int x2)]) hx hb dX7_order_85 hl (k := 3) rfl (congrArg (fun z => x3 + z) (by decide)) (by decide) rfl (fun ls hl => ?_)
        refine lv_goto (tgt := 66) hx hb dX7_order_88 (by decide) ?_
        exact ih _ _ _ _ _ h _ _ _ hw (lv_sub hl [1, 2, 3, 0] rfl)
  unfold f_X7_order at h
  refine lv_aload_n hx hb dX7_order_0 rfl (lv_at hl 0 rfl) ?_
  refine lv_iload_n hx hb dX7_order_1 rfl (lv_at hl 1 rfl) ?_
  replace h := gd_some h
  obtain ⟨g41, h⟩ := h
  replace h := bd_some h
  obtain ⟨r40, er40, h⟩ := h
  refine r_callVi (As := [.int a1]) (rest := []) hF (c_X7_isSide l D cy ad adK adV M o0 a1 r40 er40) (gW_goodV hcm qw1002 qw999 qw1001 qw20 qw67) hdX7_isSide rfl ⟨Nat.le_of_ble_eq_true rfl, Nat.le_of_ble_eq_true rfl⟩ rfl rfl hZ hK hw g41 (by decide) rfl rfl hl.1 rfl (Nat.le_of_ble_eq_true rfl) ⟨Nat.zero_le _, Nat.zero_le _⟩ dX7_order_2 (fun H locs hw => ?_)
  refine lv_if_ne (tgt := 14) hx hb dX7_order_5 (by decide) (fun c42 => ?_) (fun c42 => ?_)
  · replace h := if_some_f c42 h
    refine lv_aload_n hx hb dX7_order_14 rfl (lv_at hl 0 rfl) ?_
    replace h := bd_some h
    obtain ⟨r43, er43, h⟩ := h
    refine r_callVi (As := []) (rest := []) hF (c_X7_isOver l D cy ad adK adV r40.1 o0 r43 er43) (gW_goodV hcm qw1138 qw1135 qw1137 qw41 qw67) hdX7_isOver rfl ⟨Nat.le_of_ble_eq_true rfl, Nat.le_of_ble_eq_true rfl⟩ rfl rfl hZ hK hw g41 (by decide) rfl rfl hl.1 rfl (Nat.le_of_ble_eq_true rfl) ⟨Nat.zero_le _, Nat.zero_le _⟩ dX7_order_15 (fun H locs hw => ?_)
    refine lv_if_eq (tgt := 27) hx hb dX7_order_18 (by decide) (fun c44 => ?_) (fun c44 => ?_)
    · replace h := if_some_t c44 h
      refine lv_aload_n hx hb dX7_order_27 rfl (lv_at hl 0 rfl) ?_
      replace h := bd_some h
      obtain ⟨q45, eq45, h⟩ := h
      refine r_getR hx hb hts iw7 hown hK hw o0 0 g41 (by decide) rfl (by decide) rfl (hq _ qw888) (fun _ h9 => h9) dX7_order_28 eq45 ?_
      refine lv_iconst (v := (1 : Int32)) hx hb dX7_order_31 (by decide) ?_
      replace h := gd_some h
      obtain ⟨g46, h⟩ := h
      refine r_iald hx hb hK hw q45 g46 dX7_order_32 ?_
      refine lv_aload_n hx hb dX7_order_33 rfl (lv_at hl 0 rfl) ?_
      replace h := bd_some h
      obtain ⟨q47, eq47, h⟩ := h
      refine r_getR hx hb hts iw7 hown hK hw o0 0 g41 (by decide) rfl (by decide) rfl (hq _ qw888) (fun _ h9 => h9) dX7_order_34 eq47 ?_
      refine lv_iconst (v := (2 : Int32)) hx hb dX7_order_37 (by decide) ?_
      replace h := gd_some h
      obtain ⟨g48, h⟩ := h
      refine r_iald hx hb hK hw q47 g48 dX7_order_38 ?_
      refine lv_isub hx hb dX7_order_39 ?_
      refine lv_topi (fun y49 ey49 => ?_)
      replace h := lt_at ey49 h
      refine lv_istore_n (lv' := [(2, .int y49), (0, .ref (ad o0)), (1, .int a1)]) hx hb dX7_order_40 rfl hl (by decide) rfl (fun ls hl => ?_)
      refine lv_iload_n hx hb dX7_order_41 rfl (lv_at hl 0 rfl) ?_
      refine lv_iconst (v := (4 : Int32)) hx hb dX7_order_42 (by decide) ?_
      refine lv_icmp_le (tgt := 53) hx hb dX7_order_43 (by decide) (fun c50 => ?_) (fun c50 => ?_)
      · replace h := if_some_t c50 h
        refine lv_aload_n hx hb dX7_order_53 rfl (lv_at hl 1 rfl) ?_
        replace h := bd_some h
        obtain ⟨q51, eq51, h⟩ := h
        refine r_getR hx hb hts iw7 hown hK hw o0 0 g41 (by decide) rfl (by decide) rfl (hq _ qw888) (fun _ h9 => h9) dX7_order_54 eq51 ?_
        refine lv_aload_n hx hb dX7_order_57 rfl (lv_at hl 1 rfl) ?_
        replace h := bd_some h
        obtain ⟨q52, eq52, h⟩ := h
        refine r_getR hx hb hts iw7 hown hK hw o0 2 g41 (by decide) rfl (by decide) rfl (hq _ qw890) (fun _ h9 => h9) dX7_order_58 eq52 ?_
        replace h := bd_some h
        obtain ⟨r53, er53, h⟩ := h
        refine r_callSv (As := [.ref (ad q51), .ref (ad q52)]) (rest := []) hF (c_X7_carry l D cy ad adK adV r43.1 q51 q52 r53 er53) (gW_goodS hcm qw1077 qw1075 qw1076 qw67) hdX7_carry ⟨Nat.le_of_ble_eq_true rfl, Nat.le_of_ble_eq_true rfl⟩ rfl rfl hZ hK hw rfl hl.1 rfl (Nat.le_of_ble_eq_true rfl) ⟨Nat.zero_le _, Nat.zero_le _⟩ dX7_order_61 (fun H locs hw => ?_)
        refine lv_iconst (v := (0 : Int32)) hx hb dX7_order_64 (by decide) ?_
        refine lv_istore_n (lv' := [(3, .int (0 : Int32)), (2, .int y49), (0, .ref (ad o0)), (1, .int a1)]) hx hb dX7_order_65 rfl hl (by decide) rfl (fun ls hl => ?_)
        exact hb66 1000 _ _ _ _ _ h _ _ _ hw (lv_sub hl [2, 3, 1, 0] rfl)
      · replace h := if_some_f c50 h
        refine lv_aload_n hx hb dX7_order_46 rfl (lv_at hl 1 rfl) ?_
        refine lv_bipush (v := (6 : Int32)) hx hb dX7_order_47 (by decide) ?_
        replace h := bd_some h
        obtain ⟨r54, er54, h⟩ := h
        refine r_callVi (As := [.int (6 : Int32)]) (rest := []) hF (c_X7_finding l D cy ad adK adV r43.1 o0 (6 : Int32) r54 er54) (gW_goodV hcm qw989 qw986 qw988 qw18 qw67) hdX7_finding rfl ⟨Nat.le_of_ble_eq_true rfl, Nat.le_of_ble_eq_true rfl⟩ rfl rfl hZ hK hw g41 (by decide) rfl rfl hl.1 rfl (Nat.le_of_ble_eq_true rfl) ⟨Nat.zero_le _, Nat.zero_le _⟩ dX7_order_49 (fun H locs hw => ?_)
        exact r_iret hx hb hr rfl hlocks hZ hK hw h dX7_order_52
    · replace h := if_some_f c44 h
      refine lv_aload_n hx hb dX7_order_21 rfl (lv_at hl 0 rfl) ?_
      refine lv_iconst (v := (3 : Int32)) hx hb dX7_order_22 (by decide) ?_
      replace h := bd_some h
      obtain ⟨r55, er55, h⟩ := h
      refine r_callVi (As := [.int (3 : Int32)]) (rest := []) hF (c_X7_finding l D cy ad adK adV r43.1 o0 (3 : Int32) r55 er55) (gW_goodV hcm qw989 qw986 qw988 qw18 qw67) hdX7_finding rfl ⟨Nat.le_of_ble_eq_true rfl, Nat.le_of_ble_eq_true rfl⟩ rfl rfl hZ hK hw g41 (by decide) rfl rfl hl.1 rfl (Nat.le_of_ble_eq_true rfl) ⟨Nat.zero_le _, Nat.zero_le _⟩ dX7_order_23 (fun H locs hw => ?_)
      exact r_iret hx hb hr rfl hlocks hZ hK hw h dX7_order_26
  · replace h := if_some_t c42 h
    refine lv_aload_n hx hb dX7_order_8 rfl (lv_at hl 0 rfl) ?_
    refine lv_iconst (v := (0 : Int32)) hx hb dX7_order_9 (by decide) ?_
    replace h := bd_some h
    obtain ⟨r56, er56, h⟩ := h
    refine r_callVi (As := [.int (0 : Int32)]) (rest := []) hF (c_X7_finding l D cy ad adK adV r40.1 o0 (0 : Int32) r56 er56) (gW_goodV hcm qw989 qw986 qw988 qw18 qw67) hdX7_finding rfl ⟨Nat.le_of_ble_eq_true rfl, Nat.le_of_ble_eq_true rfl⟩ rfl rfl hZ hK hw g41 (by decide) rfl rfl hl.1 rfl (Nat.le_of_ble_eq_true rfl) ⟨Nat.zero_le _, Nat.zero_le _⟩ dX7_order_10 (fun H locs hw => ?_)
    exact r_iret hx hb hr rfl hlocks hZ hK hw h dX7_order_13
theorem dX7_lawFor_0 : decode cX7_lawFor 0 = .ok (.aload_n 0, 1) := by decide +kernel
theorem dX7_lawFor_1 : decode cX7_lawFor 1 = .ok (.iload_n 1, 1) := by decide +kernel
theorem dX7_lawFor_2 : decode cX7_lawFor 2 = .ok (.invokevirtual 121, 3) := by decide +kernel
theorem dX7_lawFor_5 : decode cX7_lawFor 5 = .ok (.ifCond .eq 14, 3) := by decide +kernel
theorem dX7_lawFor_8 : decode cX7_lawFor 8 = .ok (.aload_n 0, 1) := by decide +kernel
theorem dX7_lawFor_9 : decode cX7_lawFor 9 = .ok (.iconst 3, 1) := by decide +kernel
theorem dX7_lawFor_10 : decode cX7_lawFor 10 = .ok (.iconst 1, 1) := by decide +kernel
theorem dX7_lawFor_11 : decode cX7_lawFor 11 = .ok (.iconst 3, 1) := by decide +kernel
theorem dX7_lawFor_12 : decode cX7_lawFor 12 = .ok (.iload_n 1, 1) := by decide +kernel
theorem dX7_lawFor_13 : decode cX7_lawFor 13 = .ok (.invokevirtual 277, 3) := by decide +kernel
theorem dX7_lawFor_16 : decode cX7_lawFor 16 = .ok (.goto 8, 3) := by decide +kernel
theorem dX7_lawFor_19 : decode cX7_lawFor 19 = .ok (.aload_n 0, 1) := by decide +kernel
theorem dX7_lawFor_20 : decode cX7_lawFor 20 = .ok (.iconst 0, 1) := by decide +kernel
theorem dX7_lawFor_21 : decode cX7_lawFor 21 = .ok (.invokevirtual 115, 3) := by decide +kernel
theorem dX7_lawFor_24 : decode cX7_lawFor 24 = .ok (.ireturn, 1) := by decide +kernel
set_option maxHeartbeats 4000000 in
set_option maxRecDepth 100000 in
theorem c_X7_lawFor (l : Launch) (D : va_G) (cy : Nat → ClassId) (ad adK adV : Nat → Nat) (M : Mm) (o0 : Nat) (a1 : Int32) (res : Mm × Int32) (h : f_X7_lawFor M o0 a1 = some res) : Met l yX7_lawFor (wU yX7_lawFor cX7_lawFor 2 (some .int)) rmX7_lawFor (va_Pc [.ref (ad o0), .int a1] (Pre D cy shM ad nM adK adV M)) (va_Qi (fun r (M2 : Mm) => r = res.2 ∧ M2 = res.1) (Pre D cy shM ad nM adK adV) (Aw ad nM)) 0 0 (Aw ad nM) := by
  refine Met.ofW (cc := cX7_lawFor) (maxL := 2) (ret := (some .int)) (by decide) rfl ?_
  intro p e s m args below meth c s₁ B hml hv
  obtain ⟨hargs, hPre⟩ := hv
  have hx := B.exec
  have hb := B.bytes
  have hr := B.returns
  have hts := atoms_spec (ws := wU yX7_lawFor cX7_lawFor 2 (some .int)) B.pre
  have hq : ∀ w ∈ gW, w.before args s = true := fun w hw => hts w (List.mem_cons_of_mem _ hw)
  have hcm : ∀ w ∈ gW, w ∈ wU yX7_lawFor cX7_lawFor 2 (some .int) := fun w hw => List.mem_cons_of_mem _ hw
  have hown : s.vm.findClass RX7 = some m.cls := findClass_of_methodNamed B.named
  have hlocks := B.notSynchronized
  have hF : CallFix p m c cX7_lawFor 2 s args (wU yX7_lawFor cX7_lawFor 2 (some .int)) RX7 := ⟨hx, hb, hml, hown, hts⟩
  have hK := hPre.2.1
  have hZ := hPre.2.2.2
  have hw : Wd D cy shM ad nM (Aw ad nM) s.heap M s.heap [] := ⟨hPre.1, hPre.2.2.1, va_S.rf⟩
  rw [show entryFrame m args 2 = entryFrame m ([.ref (ad o0), .int a1] : List Value).toArray 2 from by rw [hargs]]
  have hl := lv_entry ([.ref (ad o0), .int a1]) (n := 2) (Nat.le_of_ble_eq_true rfl)
  rw [lg_entry_eq]
  generalize (lg_sl ([.ref (ad o0), .int a1]) ++ List.replicate (2 - (lg_sl ([.ref (ad o0), .int a1])).length) Slot.unset).toArray = ls at hl ⊢
  have hl : lv_has ls 2 [(0, .ref (ad o0)), (1, .int a1)] := hl
  unfold f_X7_lawFor at h
  refine lv_aload_n hx hb dX7_lawFor_0 rfl (lv_at hl 0 rfl) ?_
  refine lv_iload_n hx hb dX7_lawFor_1 rfl (lv_at hl 1 rfl) ?_
  replace h := gd_some h
  obtain ⟨g2, h⟩ := h
  replace h := bd_some h
  obtain ⟨r1, er1, h⟩ := h
  refine r_callVi (As := [.int a1]) (rest := []) hF (c_X7_isSide l D cy ad adK adV M o0 a1 r1 er1) (gW_goodV hcm qw1002 qw999 qw1001 qw20 qw67) hdX7_isSide rfl ⟨Nat.le_of_ble_eq_true rfl, Nat.le_of_ble_eq_true rfl⟩ rfl rfl hZ hK hw g2 (by decide) rfl rfl hl.1 rfl (Nat.le_of_ble_eq_true rfl) ⟨Nat.zero_le _, Nat.zero_le _⟩ dX7_lawFor_2 (fun H locs hw => ?_)
  refine lv_if_eq (tgt := 19) hx hb dX7_lawFor_5 (by decide) (fun c3 => ?_) (fun c3 => ?_)
  · replace h := if_some_t c3 h
    refine lv_aload_n hx hb dX7_lawFor_19 rfl (lv_at hl 0 rfl) ?_
    refine lv_iconst (v := (0 : Int32)) hx hb dX7_lawFor_20 (by decide) ?_
    replace h := bd_some h
    obtain ⟨r4, er4, h⟩ := h
    refine r_callVi (As := [.int (0 : Int32)]) (rest := []) hF (c_X7_finding l D cy ad adK adV r1.1 o0 (0 : Int32) r4 er4) (gW_goodV hcm qw989 qw986 qw988 qw18 qw67) hdX7_finding rfl ⟨Nat.le_of_ble_eq_true rfl, Nat.le_of_ble_eq_true rfl⟩ rfl rfl hZ hK hw g2 (by decide) rfl rfl hl.1 rfl (Nat.le_of_ble_eq_true rfl) ⟨Nat.zero_le _, Nat.zero_le _⟩ dX7_lawFor_21 (fun H locs hw => ?_)
    exact r_iret hx hb hr rfl hlocks hZ hK hw h dX7_lawFor_24
  · replace h := if_some_f c3 h
    refine lv_aload_n hx hb dX7_lawFor_8 rfl (lv_at hl 0 rfl) ?_
    refine lv_iconst (v := (3 : Int32)) hx hb dX7_lawFor_9 (by decide) ?_
    refine lv_iconst (v := (1 : Int32)) hx hb dX7_lawFor_10 (by decide) ?_
    refine lv_iconst (v := (3 : Int32)) hx hb dX7_lawFor_11 (by decide) ?_
    refine lv_iload_n hx hb dX7_lawFor_12 rfl (lv_at hl 1 rfl) ?_
    replace h := bd_some h
    obtain ⟨r5, er5, h⟩ := h
    refine r_callVi (As := [.int (3 : Int32), .int (1 : Int32), .int (3 : Int32), .int a1]) (rest := []) hF (c_X7_bestLaid l D cy ad adK adV r1.1 o0 (3 : Int32) (1 : Int32) (3 : Int32) a1 r5 er5) (gW_goodV hcm qw1262 qw1259 qw1261 qw56 qw67) hdX7_bestLaid rfl ⟨Nat.le_of_ble_eq_true rfl, Nat.le_of_ble_eq_true rfl⟩ rfl rfl hZ hK hw g2 (by decide) rfl rfl hl.1 rfl (Nat.le_of_ble_eq_true rfl) ⟨Nat.zero_le _, Nat.zero_le _⟩ dX7_lawFor_13 (fun H locs hw => ?_)
    refine lv_goto (tgt := 24) hx hb dX7_lawFor_16 (by decide) ?_
    exact r_iret hx hb hr rfl hlocks hZ hK hw h dX7_lawFor_24
theorem dX7_gains_0 : decode cX7_gains 0 = .ok (.aload_n 0, 1) := by decide +kernel
theorem dX7_gains_1 : decode cX7_gains 1 = .ok (.getfield 7, 3) := by decide +kernel
theorem dX7_gains_4 : decode cX7_gains 4 = .ok (.iconst 0, 1) := by decide +kernel
theorem dX7_gains_5 : decode cX7_gains 5 = .ok (.iaload, 1) := by decide +kernel
theorem dX7_gains_6 : decode cX7_gains 6 = .ok (.ifCond .ne 9, 3) := by decide +kernel
theorem dX7_gains_9 : decode cX7_gains 9 = .ok (.aload_n 0, 1) := by decide +kernel
theorem dX7_gains_10 : decode cX7_gains 10 = .ok (.iconst 3, 1) := by decide +kernel
theorem dX7_gains_11 : decode cX7_gains 11 = .ok (.invokevirtual 115, 3) := by decide +kernel
theorem dX7_gains_14 : decode cX7_gains 14 = .ok (.ireturn, 1) := by decide +kernel
theorem dX7_gains_15 : decode cX7_gains 15 = .ok (.aload_n 0, 1) := by decide +kernel
theorem dX7_gains_16 : decode cX7_gains 16 = .ok (.getfield 7, 3) := by decide +kernel
theorem dX7_gains_19 : decode cX7_gains 19 = .ok (.iconst 3, 1) := by decide +kernel
theorem dX7_gains_20 : decode cX7_gains 20 = .ok (.iaload, 1) := by decide +kernel
theorem dX7_gains_21 : decode cX7_gains 21 = .ok (.istore_n 1, 1) := by decide +kernel
theorem dX7_gains_22 : decode cX7_gains 22 = .ok (.aload_n 0, 1) := by decide +kernel
theorem dX7_gains_23 : decode cX7_gains 23 = .ok (.getfield 7, 3) := by decide +kernel
theorem dX7_gains_26 : decode cX7_gains 26 = .ok (.iconst 3, 1) := by decide +kernel
theorem dX7_gains_27 : decode cX7_gains 27 = .ok (.iconst 1, 1) := by decide +kernel
theorem dX7_gains_28 : decode cX7_gains 28 = .ok (.iastore, 1) := by decide +kernel
theorem dX7_gains_29 : decode cX7_gains 29 = .ok (.aload_n 0, 1) := by decide +kernel
theorem dX7_gains_30 : decode cX7_gains 30 = .ok (.invokevirtual 266, 3) := by decide +kernel
theorem dX7_gains_33 : decode cX7_gains 33 = .ok (.lstore_n 2, 1) := by decide +kernel
theorem dX7_gains_34 : decode cX7_gains 34 = .ok (.iconst 0, 1) := by decide +kernel
theorem dX7_gains_35 : decode cX7_gains 35 = .ok (.istore 4, 2) := by decide +kernel
theorem dX7_gains_37 : decode cX7_gains 37 = .ok (.iload 4, 2) := by decide +kernel
theorem dX7_gains_39 : decode cX7_gains 39 = .ok (.bipush 6, 2) := by decide +kernel
theorem dX7_gains_41 : decode cX7_gains 41 = .ok (.if_icmp .ge 23, 3) := by decide +kernel
theorem dX7_gains_44 : decode cX7_gains 44 = .ok (.aload_n 0, 1) := by decide +kernel
theorem dX7_gains_45 : decode cX7_gains 45 = .ok (.getfield 51, 3) := by decide +kernel
theorem dX7_gains_48 : decode cX7_gains 48 = .ok (.iload 4, 2) := by decide +kernel
theorem dX7_gains_50 : decode cX7_gains 50 = .ok (.aload_n 0, 1) := by decide +kernel
theorem dX7_gains_51 : decode cX7_gains 51 = .ok (.getfield 39, 3) := by decide +kernel
theorem dX7_gains_54 : decode cX7_gains 54 = .ok (.iload 4, 2) := by decide +kernel
theorem dX7_gains_56 : decode cX7_gains 56 = .ok (.laload, 1) := by decide +kernel
theorem dX7_gains_57 : decode cX7_gains 57 = .ok (.lastore, 1) := by decide +kernel
theorem dX7_gains_58 : decode cX7_gains 58 = .ok (.iinc 4 1, 3) := by decide +kernel
theorem dX7_gains_61 : decode cX7_gains 61 = .ok (.goto (-24), 3) := by decide +kernel
theorem dX7_gains_64 : decode cX7_gains 64 = .ok (.aload_n 0, 1) := by decide +kernel
theorem dX7_gains_65 : decode cX7_gains 65 = .ok (.getfield 7, 3) := by decide +kernel
theorem dX7_gains_68 : decode cX7_gains 68 = .ok (.iconst 3, 1) := by decide +kernel
theorem dX7_gains_69 : decode cX7_gains 69 = .ok (.iconst 3, 1) := by decide +kernel
theorem dX7_gains_70 : decode cX7_gains 70 = .ok (.iastore, 1) := by decide +kernel
theorem dX7_gains_71 : decode cX7_gains 71 = .ok (.aload_n 0, 1) := by decide +kernel
theorem dX7_gains_72 : decode cX7_gains 72 = .ok (.invokevirtual 266, 3) := by decide +kernel
theorem dX7_gains_75 : decode cX7_gains 75 = .ok (.lstore_n 2, 1) := by decide +kernel
theorem dX7_gains_76 : decode cX7_gains 76 = .ok (.aload_n 0, 1) := by decide +kernel
theorem dX7_gains_77 : decode cX7_gains 77 = .ok (.getfield 7, 3) := by decide +kernel
theorem dX7_gains_80 : decode cX7_gains 80 = .ok (.iconst 3, 1) := by decide +kernel
theorem dX7_gains_81 : decode cX7_gains 81 = .ok (.iload_n 1, 1) := by decide +kernel
theorem dX7_gains_82 : decode cX7_gains 82 = .ok (.iastore, 1) := by decide +kernel
theorem dX7_gains_83 : decode cX7_gains 83 = .ok (.iconst 0, 1) := by decide +kernel
theorem dX7_gains_84 : decode cX7_gains 84 = .ok (.istore 4, 2) := by decide +kernel
theorem dX7_gains_86 : decode cX7_gains 86 = .ok (.iconst 1, 1) := by decide +kernel
theorem dX7_gains_87 : decode cX7_gains 87 = .ok (.istore 5, 2) := by decide +kernel
theorem dX7_gains_89 : decode cX7_gains 89 = .ok (.iload 5, 2) := by decide +kernel
theorem dX7_gains_91 : decode cX7_gains 91 = .ok (.aload_n 0, 1) := by decide +kernel
theorem dX7_gains_92 : decode cX7_gains 92 = .ok (.getfield 7, 3) := by decide +kernel
theorem dX7_gains_95 : decode cX7_gains 95 = .ok (.iconst 0, 1) := by decide +kernel
theorem dX7_gains_96 : decode cX7_gains 96 = .ok (.iaload, 1) := by decide +kernel
theorem dX7_gains_97 : decode cX7_gains 97 = .ok (.if_icmp .ge 52, 3) := by decide +kernel
theorem dX7_gains_100 : decode cX7_gains 100 = .ok (.aload_n 0, 1) := by decide +kernel
theorem dX7_gains_101 : decode cX7_gains 101 = .ok (.getfield 51, 3) := by decide +kernel
theorem dX7_gains_104 : decode cX7_gains 104 = .ok (.iload 5, 2) := by decide +kernel
theorem dX7_gains_106 : decode cX7_gains 106 = .ok (.laload, 1) := by decide +kernel
theorem dX7_gains_107 : decode cX7_gains 107 = .ok (.aload_n 0, 1) := by decide +kernel
theorem dX7_gains_108 : decode cX7_gains 108 = .ok (.getfield 39, 3) := by decide +kernel
theorem dX7_gains_111 : decode cX7_gains 111 = .ok (.iload 5, 2) := by decide +kernel
theorem dX7_gains_113 : decode cX7_gains 113 = .ok (.laload, 1) := by decide +kernel
theorem dX7_gains_114 : decode cX7_gains 114 = .ok (.lsub, 1) := by decide +kernel
theorem dX7_gains_115 : decode cX7_gains 115 = .ok (.aload_n 0, 1) := by decide +kernel
theorem dX7_gains_116 : decode cX7_gains 116 = .ok (.getfield 51, 3) := by decide +kernel
theorem dX7_gains_119 : decode cX7_gains 119 = .ok (.iload 4, 2) := by decide +kernel
theorem dX7_gains_121 : decode cX7_gains 121 = .ok (.laload, 1) := by decide +kernel
theorem dX7_gains_122 : decode cX7_gains 122 = .ok (.aload_n 0, 1) := by decide +kernel
theorem dX7_gains_123 : decode cX7_gains 123 = .ok (.getfield 39, 3) := by decide +kernel
theorem dX7_gains_126 : decode cX7_gains 126 = .ok (.iload 4, 2) := by decide +kernel
theorem dX7_gains_128 : decode cX7_gains 128 = .ok (.laload, 1) := by decide +kernel
theorem dX7_gains_129 : decode cX7_gains 129 = .ok (.lsub, 1) := by decide +kernel
theorem dX7_gains_130 : decode cX7_gains 130 = .ok (.lcmp, 1) := by decide +kernel
theorem dX7_gains_131 : decode cX7_gains 131 = .ok (.ifCond .le 8, 3) := by decide +kernel
theorem dX7_gains_134 : decode cX7_gains 134 = .ok (.iload 5, 2) := by decide +kernel
theorem dX7_gains_136 : decode cX7_gains 136 = .ok (.goto 5, 3) := by decide +kernel
theorem dX7_gains_139 : decode cX7_gains 139 = .ok (.iload 4, 2) := by decide +kernel
theorem dX7_gains_141 : decode cX7_gains 141 = .ok (.istore 4, 2) := by decide +kernel
theorem dX7_gains_143 : decode cX7_gains 143 = .ok (.iinc 5 1, 3) := by decide +kernel
theorem dX7_gains_146 : decode cX7_gains 146 = .ok (.goto (-57), 3) := by decide +kernel
theorem dX7_gains_149 : decode cX7_gains 149 = .ok (.iload 4, 2) := by decide +kernel
theorem dX7_gains_151 : decode cX7_gains 151 = .ok (.ireturn, 1) := by decide +kernel
set_option maxHeartbeats 4000000 in
set_option maxRecDepth 100000 in
theorem c_X7_gains (l : Launch) (D : va_G) (cy : Nat → ClassId) (ad adK adV : Nat → Nat) (M : Mm) (o0 : Nat) (res : Mm × Int32) (h : f_X7_gains M o0 = some res) : Met l yX7_gains (wU yX7_gains cX7_gains 6 (some .int)) rmX7_gains (va_Pc [.ref (ad o0)] (Pre D cy shM ad nM adK adV M)) (va_Qi (fun r (M2 : Mm) => r = res.2 ∧ M2 = res.1) (Pre D cy shM ad nM adK adV) (Aw ad nM)) 0 0 (Aw ad nM) := by
  refine Met.ofW (cc := cX7_gains) (maxL := 6) (ret := (some .int)) (by decide) rfl ?_
  intro p e s m args below meth c s₁ B hml hv
  obtain ⟨hargs, hPre⟩ := hv
  have hx := B.exec
  have hb := B.bytes
  have hr := B.returns
  have hts := atoms_spec (ws := wU yX7_gains cX7_gains 6 (some .int)) B.pre
  have hq : ∀ w ∈ gW, w.before args s = true := fun w hw => hts w (List.mem_cons_of_mem _ hw)
  have hcm : ∀ w ∈ gW, w ∈ wU yX7_gains cX7_gains 6 (some .int) := fun w hw => List.mem_cons_of_mem _ hw
  have hown : s.vm.findClass RX7 = some m.cls := findClass_of_methodNamed B.named
  have hlocks := B.notSynchronized
  have hF : CallFix p m c cX7_gains 6 s args (wU yX7_gains cX7_gains 6 (some .int)) RX7 := ⟨hx, hb, hml, hown, hts⟩
  have hK := hPre.2.1
  have hZ := hPre.2.2.2
  have hw : Wd D cy shM ad nM (Aw ad nM) s.heap M s.heap [] := ⟨hPre.1, hPre.2.2.1, va_S.rf⟩
  have iw7 : ∀ w ∈ u_ws RX7 TX7 30, w ∈ wU yX7_gains cX7_gains 6 (some .int) := fun w hw => List.mem_cons_of_mem _ (iX7 w hw)
  rw [show entryFrame m args 6 = entryFrame m ([.ref (ad o0)] : List Value).toArray 6 from by rw [hargs]]
  have hl := lv_entry ([.ref (ad o0)]) (n := 6) (Nat.le_of_ble_eq_true rfl)
  rw [lg_entry_eq]
  generalize (lg_sl ([.ref (ad o0)]) ++ List.replicate (6 - (lg_sl ([.ref (ad o0)])).length) Slot.unset).toArray = ls at hl ⊢
  have hl : lv_has ls 6 [(0, .ref (ad o0))] := hl
  have hb141 : ∀ (k89 : Mm → Nat → Int32 → Int32 → Option (Mm × Int32)) (hk89 : ∀ (M : Mm) (x0 : Nat) (x4 : Int32) (x5 : Int32), k89 M x0 x4 x5 = some res → ∀ (H : Heap) (locs : List Loc) (ls : Array Slot), Wd D cy shM ad nM (Aw ad nM) s.heap M H locs → lv_has ls 6 [(0, .ref (ad x0)), (4, .int x4), (5, .int x5)] → W p l e (headSpec (wU yX7_gains cX7_gains 6 (some .int)) rmX7_gains).room s m args below meth c H locs 0 0 (QI D cy shM ad nM adK adV below args s res) (F0 m 89 ls [])), ∀ (M : Mm) (x0 : Nat) (x5 : Int32) (t0 : Int32), f_X7_gains_b141 k89 M x0 x5 t0 = some res → ∀ (H : Heap) (locs : List Loc) (ls : Array Slot), Wd D cy shM ad nM (Aw ad nM) s.heap M H locs → lv_has ls 6 [(0, .ref (ad x0)), (5, .int x5)] → W p l e (headSpec (wU yX7_gains cX7_gains 6 (some .int)) rmX7_gains).room s m args below meth c H locs 0 0 (QI D cy shM ad nM adK adV below args s res) (F0 m 141 ls [.int t0]) := by
    intro k89 hk89
    intro M x0 x5 t0 h H locs ls hw hl
    unfold f_X7_gains_b141 at h
    refine lv_istore (lv' := [(4, .int t0), (0, .ref (ad x0)), (5, .int x5)]) hx hb dX7_gains_141 hl (by decide) rfl (fun ls hl => ?_)
    refine lv_iinc (v := x5 + (1 : Int32)) (lv' := [(5, .int (x5 + (1 : Int32))), (4, .int t0), (0, .ref (ad x0))]) hx hb dX7_gains_143 hl (k := 2) rfl (congrArg (fun z => x5 + z) (by decide)) (by decide) rfl (fun ls hl => ?_)
    refine lv_goto (tgt := 89) hx hb dX7_gains_146 (by decide) ?_
    exact hk89 _ _ _ _ h _ _ _ hw (lv_sub hl [2, 1, 0] rfl)
  have hb89 : ∀ (nn : Nat), ∀ (M : Mm) (x0 : Nat) (x4 : Int32) (x5 : Int32), f_X7_gains_b89 nn M x0 x4 x5 = some res → ∀ (H : Heap) (locs : List Loc) (ls : Array Slot), Wd D cy shM ad nM (Aw ad nM) s.heap M H locs → lv_has ls 6 [(0, .ref (ad x0)), (4, .int x4), (5, .int x5)] → W p l e (headSpec (wU yX7_gains cX7_gains 6 (some .int)) rmX7_gains).room s m args below meth c H locs 0 0 (QI D cy shM ad nM adK adV below args s res) (F0 m 89 ls []) := by
    intro nn
    induction nn with
    | zero => intro M x0 x4 x5 h; simp [f_X7_gains_b89] at h
    | succ nn ih =>
      intro M x0 x4 x5 h H locs ls hw hl
      unfold f_X7_gains_b89 at h
      refine lv_iload hx hb dX7_gains_89 (lv_at hl 2 rfl) ?_
      refine lv_aload_n hx hb dX7_gains_91 rfl (lv_at hl 0 rfl) ?_
      replace h := gd_some h
      obtain ⟨g1, h⟩ := h
      replace h := bd_some h
      obtain ⟨q2, eq2, h⟩ := h
      refine r_getR hx hb hts iw7 hown hK hw x0 0 g1 (by decide) rfl (by decide) rfl (hq _ qw888) (fun _ h9 => h9) dX7_gains_92 eq2 ?_
      refine lv_iconst (v := (0 : Int32)) hx hb dX7_gains_95 (by decide) ?_
      replace h := gd_some h
      obtain ⟨g3, h⟩ := h
      refine r_iald hx hb hK hw q2 g3 dX7_gains_96 ?_
      refine lv_icmp_ge (tgt := 149) hx hb dX7_gains_97 (by decide) (fun c4 => ?_) (fun c4 => ?_)
      · replace h := if_some_t c4 h
        refine lv_iload hx hb dX7_gains_149 (lv_at hl 1 rfl) ?_
        exact r_iret hx hb hr rfl hlocks hZ hK hw h dX7_gains_151
      · replace h := if_some_f c4 h
        refine lv_aload_n hx hb dX7_gains_100 rfl (lv_at hl 0 rfl) ?_
        replace h := bd_some h
        obtain ⟨q5, eq5, h⟩ := h
        refine r_getR hx hb hts iw7 hown hK hw x0 25 g1 (by decide) rfl (by decide) rfl (hq _ qw913) (fun _ h9 => h9) dX7_gains_101 eq5 ?_
        refine lv_iload hx hb dX7_gains_104 (lv_at hl 2 rfl) ?_
        replace h := gd_some h
        obtain ⟨g6, h⟩ := h
        refine r_lald hx hb hK hw q5 g6 dX7_gains_106 ?_
        refine lv_aload_n hx hb dX7_gains_107 rfl (lv_at hl 0 rfl) ?_
        replace h := bd_some h
        obtain ⟨q7, eq7, h⟩ := h
        refine r_getR hx hb hts iw7 hown hK hw x0 19 g1 (by decide) rfl (by decide) rfl (hq _ qw907) (fun _ h9 => h9) dX7_gains_108 eq7 ?_
        refine lv_iload hx hb dX7_gains_111 (lv_at hl 2 rfl) ?_
        replace h := gd_some h
        obtain ⟨g8, h⟩ := h
        refine r_lald hx hb hK hw q7 g8 dX7_gains_113 ?_
        refine lv_lsub hx hb dX7_gains_114 ?_
        refine lv_aload_n hx hb dX7_gains_115 rfl (lv_at hl 0 rfl) ?_
        replace h := bd_some h
        obtain ⟨q9, eq9, h⟩ := h
        refine r_getR hx hb hts iw7 hown hK hw x0 25 g1 (by decide) rfl (by decide) rfl (hq _ qw913) (fun _ h9 => h9) dX7_gains_116 eq9 ?_
        refine lv_iload hx hb dX7_gains_119 (lv_at hl 1 rfl) ?_
        replace h := gd_some h
        obtain ⟨g10, h⟩ := h
        refine r_lald hx hb hK hw q9 g10 dX7_gains_121 ?_
        refine lv_aload_n hx hb dX7_gains_122 rfl (lv_at hl 0 rfl) ?_
        replace h := bd_some h
        obtain ⟨q11, eq11, h⟩ := h
        refine r_getR hx hb hts iw7 hown hK hw x0 19 g1 (by decide) rfl (by decide) rfl (hq _ qw907) (fun _ h9 => h9) dX7_gains_123 eq11 ?_
        refine lv_iload hx hb dX7_gains_126 (lv_at hl 1 rfl) ?_
        replace h := gd_some h
        obtain ⟨g12, h⟩ := h
        refine r_lald hx hb hK hw q11 g12 dX7_gains_128 ?_
        refine lv_lsub hx hb dX7_gains_129 ?_
        refine W.lcmp hx hb dX7_gains_130 ?_
        refine lv_if_le (tgt := 139) hx hb dX7_gains_131 (by decide) (fun c13 => ?_) (fun c13 => ?_)
        · replace h := if_some_t c13 h
          refine lv_iload hx hb dX7_gains_139 (lv_at hl 1 rfl) ?_
          exact hb141 _ ih _ _ _ _ h _ _ _ hw (lv_sub hl [0, 2] rfl)
        · replace h := if_some_f c13 h
          refine lv_iload hx hb dX7_gains_134 (lv_at hl 2 rfl) ?_
          refine lv_goto (tgt := 141) hx hb dX7_gains_136 (by decide) ?_
          exact hb141 _ ih _ _ _ _ h _ _ _ hw (lv_sub hl [0, 2] rfl)
  have hb37 : ∀ (nn : Nat), ∀ (M : Mm) (x0 : Nat) (x1 : Int32) (x4 : Int32), f_X7_gains_b37 nn M x0 x1 x4 = some res → ∀ (H : Heap) (locs : List Loc) (ls : Array Slot), Wd D cy shM ad nM (Aw ad nM) s.heap M H locs → lv_has ls 6 [(0, .ref (ad x0)), (1, .int x1), (4, .int x4)] → W p l e (headSpec (wU yX7_gains cX7_gains 6 (some .int)) rmX7_gains).room s m args below meth c H locs 0 0 (QI D cy shM ad nM adK adV below args s res) (F0 m 37 ls []) := by
    intro nn
    induction nn with
    | zero => intro M x0 x1 x4 h; simp [f_X7_gains_b37] at h
    | succ nn ih =>
      intro M x0 x1 x4 h H locs ls hw hl
      unfold f_X7_gains_b37 at h
      refine lv_iload hx hb dX7_gains_37 (lv_at hl 2 rfl) ?_
      refine lv_bipush (v := (6 : Int32)) hx hb dX7_gains_39 (by decide) ?_
      refine lv_icmp_ge (tgt := 64) hx hb dX7_gains_41 (by decide) (fun c14 => ?_) (fun c14 => ?_)
      · replace h := if_some_t c14 h
        refine lv_aload_n hx hb dX7_gains_64 rfl (lv_at hl 0 rfl) ?_
        replace h := gd_some h
        obtain ⟨g15, h⟩ := h
        replace h := bd_some h
        obtain ⟨q16, eq16, h⟩ := h
        refine r_getR hx hb hts iw7 hown hK hw x0 0 g15 (by decide) rfl (by decide) rfl (hq _ qw888) (fun _ h9 => h9) dX7_gains_65 eq16 ?_
        refine lv_iconst (v := (3 : Int32)) hx hb dX7_gains_68 (by decide) ?_
        refine lv_iconst (v := (3 : Int32)) hx hb dX7_gains_69 (by decide) ?_
        replace h := gd_some h
        obtain ⟨g17, h⟩ := h
        refine r_iast hx hb hK hw q16 g17 dX7_gains_70 (fun H locs hw => ?_)
        replace h := lt_some h
        obtain ⟨M18, eM18, h⟩ := h
        rw [← eM18] at hw
        refine lv_aload_n hx hb dX7_gains_71 rfl (lv_at hl 0 rfl) ?_
        replace h := bd_some h
        obtain ⟨r19, er19, h⟩ := h
        refine r_callVl (As := []) (rest := []) hF (c_X7_findWays l D cy ad adK adV M18 x0 r19 er19) (gW_goodV hcm qw1210 qw1207 qw1209 qw52 qw67) hdX7_findWays rfl ⟨Nat.le_of_ble_eq_true rfl, Nat.le_of_ble_eq_true rfl⟩ rfl rfl hZ hK hw g15 (by decide) rfl rfl hl.1 rfl (Nat.le_of_ble_eq_true rfl) ⟨Nat.zero_le _, Nat.zero_le _⟩ dX7_gains_72 (fun H locs hw => ?_)
        refine lv_lstore_n (lv' := [(2, .long r19.2), (0, .ref (ad x0)), (1, .int x1), (4, .int x4)]) hx hb dX7_gains_75 rfl hl (by decide) rfl (fun ls hl => ?_)
        refine lv_aload_n hx hb dX7_gains_76 rfl (lv_at hl 1 rfl) ?_
        replace h := bd_some h
        obtain ⟨q20, eq20, h⟩ := h
        refine r_getR hx hb hts iw7 hown hK hw x0 0 g15 (by decide) rfl (by decide) rfl (hq _ qw888) (fun _ h9 => h9) dX7_gains_77 eq20 ?_
        refine lv_iconst (v := (3 : Int32)) hx hb dX7_gains_80 (by decide) ?_
        refine lv_iload_n hx hb dX7_gains_81 rfl (lv_at hl 2 rfl) ?_
        replace h := gd_some h
        obtain ⟨g21, h⟩ := h
        refine r_iast hx hb hK hw q20 g21 dX7_gains_82 (fun H locs hw => ?_)
        replace h := lt_some h
        obtain ⟨M22, eM22, h⟩ := h
        rw [← eM22] at hw
        refine lv_iconst (v := (0 : Int32)) hx hb dX7_gains_83 (by decide) ?_
        refine lv_istore (lv' := [(4, .int (0 : Int32)), (2, .long r19.2), (0, .ref (ad x0)), (1, .int x1)]) hx hb dX7_gains_84 hl (by decide) rfl (fun ls hl => ?_)
        refine lv_iconst (v := (1 : Int32)) hx hb dX7_gains_86 (by decide) ?_
        refine lv_istore (lv' := [(5, .int (1 : Int32)), (4, .int (0 : Int32)), (2, .long r19.2), (0, .ref (ad x0)), (1, .int x1)]) hx hb dX7_gains_87 hl (by decide) rfl (fun ls hl => ?_)
        exact hb89 1000 _ _ _ _ h _ _ _ hw (lv_sub hl [3, 1, 0] rfl)
      · replace h := if_some_f c14 h
        refine lv_aload_n hx hb dX7_gains_44 rfl (lv_at hl 0 rfl) ?_
        replace h := gd_some h
        obtain ⟨g23, h⟩ := h
        replace h := bd_some h
        obtain ⟨q24, eq24, h⟩ := h
        refine r_getR hx hb hts iw7 hown hK hw x0 25 g23 (by decide) rfl (by decide) rfl (hq _ qw913) (fun _ h9 => h9) dX7_gains_45 eq24 ?_
        refine lv_iload hx hb dX7_gains_48 (lv_at hl 2 rfl) ?_
        refine lv_aload_n hx hb dX7_gains_50 rfl (lv_at hl 0 rfl) ?_
        replace h := bd_some h
        obtain ⟨q25, eq25, h⟩ := h
        refine r_getR hx hb hts iw7 hown hK hw x0 19 g23 (by decide) rfl (by decide) rfl (hq _ qw907) (fun _ h9 => h9) dX7_gains_51 eq25 ?_
        refine lv_iload hx hb dX7_gains_54 (lv_at hl 2 rfl) ?_
        replace h := gd_some h
        obtain ⟨g26, h⟩ := h
        refine r_lald hx hb hK hw q25 g26 dX7_gains_56 ?_
        replace h := gd_some h
        obtain ⟨g27, h⟩ := h
        refine r_last hx hb hK hw q24 g27 dX7_gains_57 (fun H locs hw => ?_)
        replace h := lt_some h
        obtain ⟨M28, eM28, h⟩ := h
        rw [← eM28] at hw
        refine lv_iinc (v := x4 + (1 : Int32)) (lv' := [(4, .int (x4 + (1 : Int32))), (0, .ref (ad x0)), (1, .int x1)]) hx hb dX7_gains_58 hl (k := 2) rfl (congrArg (fun z => x4 + z) (by decide)) (by decide) rfl (fun ls hl => ?_)
        refine lv_goto (tgt := 37) hx hb dX7_gains_61 (by decide) ?_
        exact ih _ _ _ _ h _ _ _ hw (lv_sub hl [1, 2, 0] rfl)
  unfold f_X7_gains at h
  refine lv_aload_n hx hb dX7_gains_0 rfl (lv_at hl 0 rfl) ?_
  replace h := gd_some h
  obtain ⟨g29, h⟩ := h
  replace h := bd_some h
  obtain ⟨q30, eq30, h⟩ := h
  refine r_getR hx hb hts iw7 hown hK hw o0 0 g29 (by decide) rfl (by decide) rfl (hq _ qw888) (fun _ h9 => h9) dX7_gains_1 eq30 ?_
  refine lv_iconst (v := (0 : Int32)) hx hb dX7_gains_4 (by decide) ?_
  replace h := gd_some h
  obtain ⟨g31, h⟩ := h
  refine r_iald hx hb hK hw q30 g31 dX7_gains_5 ?_
  refine lv_if_ne (tgt := 15) hx hb dX7_gains_6 (by decide) (fun c32 => ?_) (fun c32 => ?_)
  · replace h := if_some_f c32 h
    refine lv_aload_n hx hb dX7_gains_15 rfl (lv_at hl 0 rfl) ?_
    replace h := bd_some h
    obtain ⟨q33, eq33, h⟩ := h
    refine r_getR hx hb hts iw7 hown hK hw o0 0 g29 (by decide) rfl (by decide) rfl (hq _ qw888) (fun _ h9 => h9) dX7_gains_16 eq33 ?_
    refine lv_iconst (v := (3 : Int32)) hx hb dX7_gains_19 (by decide) ?_
    replace h := gd_some h
    obtain ⟨g34, h⟩ := h
    refine r_iald hx hb hK hw q33 g34 dX7_gains_20 ?_
    refine lv_istore_n (lv' := [(1, .int (M.1 q33 (3 : Int32).toNatClampNeg)), (0, .ref (ad o0))]) hx hb dX7_gains_21 rfl hl (by decide) rfl (fun ls hl => ?_)
    refine lv_aload_n hx hb dX7_gains_22 rfl (lv_at hl 1 rfl) ?_
    replace h := bd_some h
    obtain ⟨q35, eq35, h⟩ := h
    refine r_getR hx hb hts iw7 hown hK hw o0 0 g29 (by decide) rfl (by decide) rfl (hq _ qw888) (fun _ h9 => h9) dX7_gains_23 eq35 ?_
    refine lv_iconst (v := (3 : Int32)) hx hb dX7_gains_26 (by decide) ?_
    refine lv_iconst (v := (1 : Int32)) hx hb dX7_gains_27 (by decide) ?_
    replace h := gd_some h
    obtain ⟨g36, h⟩ := h
    refine r_iast hx hb hK hw q35 g36 dX7_gains_28 (fun H locs hw => ?_)
    replace h := lt_some h
    obtain ⟨M37, eM37, h⟩ := h
    rw [← eM37] at hw
    refine lv_aload_n hx hb dX7_gains_29 rfl (lv_at hl 1 rfl) ?_
    replace h := bd_some h
    obtain ⟨r38, er38, h⟩ := h
    refine r_callVl (As := []) (rest := []) hF (c_X7_findWays l D cy ad adK adV M37 o0 r38 er38) (gW_goodV hcm qw1210 qw1207 qw1209 qw52 qw67) hdX7_findWays rfl ⟨Nat.le_of_ble_eq_true rfl, Nat.le_of_ble_eq_true rfl⟩ rfl rfl hZ hK hw g29 (by decide) rfl rfl hl.1 rfl (Nat.le_of_ble_eq_true rfl) ⟨Nat.zero_le _, Nat.zero_le _⟩ dX7_gains_30 (fun H locs hw => ?_)
    refine lv_lstore_n (lv' := [(2, .long r38.2), (1, .int (M.1 q33 (3 : Int32).toNatClampNeg)), (0, .ref (ad o0))]) hx hb dX7_gains_33 rfl hl (by decide) rfl (fun ls hl => ?_)
    refine lv_iconst (v := (0 : Int32)) hx hb dX7_gains_34 (by decide) ?_
    refine lv_istore (lv' := [(4, .int (0 : Int32)), (2, .long r38.2), (1, .int (M.1 q33 (3 : Int32).toNatClampNeg)), (0, .ref (ad o0))]) hx hb dX7_gains_35 hl (by decide) rfl (fun ls hl => ?_)
    exact hb37 1000 _ _ _ _ h _ _ _ hw (lv_sub hl [3, 2, 0] rfl)
  · replace h := if_some_t c32 h
    refine lv_aload_n hx hb dX7_gains_9 rfl (lv_at hl 0 rfl) ?_
    refine lv_iconst (v := (3 : Int32)) hx hb dX7_gains_10 (by decide) ?_
    replace h := bd_some h
    obtain ⟨r39, er39, h⟩ := h
    refine r_callVi (As := [.int (3 : Int32)]) (rest := []) hF (c_X7_finding l D cy ad adK adV M o0 (3 : Int32) r39 er39) (gW_goodV hcm qw989 qw986 qw988 qw18 qw67) hdX7_finding rfl ⟨Nat.le_of_ble_eq_true rfl, Nat.le_of_ble_eq_true rfl⟩ rfl rfl hZ hK hw g29 (by decide) rfl rfl hl.1 rfl (Nat.le_of_ble_eq_true rfl) ⟨Nat.zero_le _, Nat.zero_le _⟩ dX7_gains_11 (fun H locs hw => ?_)
    exact r_iret hx hb hr rfl hlocks hZ hK hw h dX7_gains_14
theorem dX7_wronged_0 : decode cX7_wronged 0 = .ok (.aload_n 0, 1) := by decide +kernel
theorem dX7_wronged_1 : decode cX7_wronged 1 = .ok (.invokevirtual 266, 3) := by decide +kernel
theorem dX7_wronged_4 : decode cX7_wronged 4 = .ok (.lstore_n 1, 1) := by decide +kernel
theorem dX7_wronged_5 : decode cX7_wronged 5 = .ok (.iconst 0, 1) := by decide +kernel
theorem dX7_wronged_6 : decode cX7_wronged 6 = .ok (.istore_n 3, 1) := by decide +kernel
theorem dX7_wronged_7 : decode cX7_wronged 7 = .ok (.aload_n 0, 1) := by decide +kernel
theorem dX7_wronged_8 : decode cX7_wronged 8 = .ok (.getfield 7, 3) := by decide +kernel
theorem dX7_wronged_11 : decode cX7_wronged 11 = .ok (.iconst 2, 1) := by decide +kernel
theorem dX7_wronged_12 : decode cX7_wronged 12 = .ok (.iaload, 1) := by decide +kernel
theorem dX7_wronged_13 : decode cX7_wronged 13 = .ok (.istore 4, 2) := by decide +kernel
theorem dX7_wronged_15 : decode cX7_wronged 15 = .ok (.iload 4, 2) := by decide +kernel
theorem dX7_wronged_17 : decode cX7_wronged 17 = .ok (.aload_n 0, 1) := by decide +kernel
theorem dX7_wronged_18 : decode cX7_wronged 18 = .ok (.getfield 7, 3) := by decide +kernel
theorem dX7_wronged_21 : decode cX7_wronged 21 = .ok (.iconst 1, 1) := by decide +kernel
theorem dX7_wronged_22 : decode cX7_wronged 22 = .ok (.iaload, 1) := by decide +kernel
theorem dX7_wronged_23 : decode cX7_wronged 23 = .ok (.if_icmp .ge 105, 3) := by decide +kernel
theorem dX7_wronged_26 : decode cX7_wronged 26 = .ok (.aload_n 0, 1) := by decide +kernel
theorem dX7_wronged_27 : decode cX7_wronged 27 = .ok (.iload 4, 2) := by decide +kernel
theorem dX7_wronged_29 : decode cX7_wronged 29 = .ok (.iconst 0, 1) := by decide +kernel
theorem dX7_wronged_30 : decode cX7_wronged 30 = .ok (.invokevirtual 71, 3) := by decide +kernel
theorem dX7_wronged_33 : decode cX7_wronged 33 = .ok (.istore 5, 2) := by decide +kernel
theorem dX7_wronged_35 : decode cX7_wronged 35 = .ok (.aload_n 0, 1) := by decide +kernel
theorem dX7_wronged_36 : decode cX7_wronged 36 = .ok (.iload 4, 2) := by decide +kernel
theorem dX7_wronged_38 : decode cX7_wronged 38 = .ok (.iconst 1, 1) := by decide +kernel
theorem dX7_wronged_39 : decode cX7_wronged 39 = .ok (.invokevirtual 71, 3) := by decide +kernel
theorem dX7_wronged_42 : decode cX7_wronged 42 = .ok (.istore 6, 2) := by decide +kernel
theorem dX7_wronged_44 : decode cX7_wronged 44 = .ok (.aload_n 0, 1) := by decide +kernel
theorem dX7_wronged_45 : decode cX7_wronged 45 = .ok (.iload 5, 2) := by decide +kernel
theorem dX7_wronged_47 : decode cX7_wronged 47 = .ok (.iconst 1, 1) := by decide +kernel
theorem dX7_wronged_48 : decode cX7_wronged 48 = .ok (.invokevirtual 89, 3) := by decide +kernel
theorem dX7_wronged_51 : decode cX7_wronged 51 = .ok (.aload_n 0, 1) := by decide +kernel
theorem dX7_wronged_52 : decode cX7_wronged 52 = .ok (.iload 6, 2) := by decide +kernel
theorem dX7_wronged_54 : decode cX7_wronged 54 = .ok (.iconst 1, 1) := by decide +kernel
theorem dX7_wronged_55 : decode cX7_wronged 55 = .ok (.invokevirtual 89, 3) := by decide +kernel
theorem dX7_wronged_58 : decode cX7_wronged 58 = .ok (.isub, 1) := by decide +kernel
theorem dX7_wronged_59 : decode cX7_wronged 59 = .ok (.istore 7, 2) := by decide +kernel
theorem dX7_wronged_61 : decode cX7_wronged 61 = .ok (.aload_n 0, 1) := by decide +kernel
theorem dX7_wronged_62 : decode cX7_wronged 62 = .ok (.getfield 29, 3) := by decide +kernel
theorem dX7_wronged_65 : decode cX7_wronged 65 = .ok (.bipush 6, 2) := by decide +kernel
theorem dX7_wronged_67 : decode cX7_wronged 67 = .ok (.iload 4, 2) := by decide +kernel
theorem dX7_wronged_69 : decode cX7_wronged 69 = .ok (.imul, 1) := by decide +kernel
theorem dX7_wronged_70 : decode cX7_wronged 70 = .ok (.iload 5, 2) := by decide +kernel
theorem dX7_wronged_72 : decode cX7_wronged 72 = .ok (.iadd, 1) := by decide +kernel
theorem dX7_wronged_73 : decode cX7_wronged 73 = .ok (.laload, 1) := by decide +kernel
theorem dX7_wronged_74 : decode cX7_wronged 74 = .ok (.aload_n 0, 1) := by decide +kernel
theorem dX7_wronged_75 : decode cX7_wronged 75 = .ok (.getfield 29, 3) := by decide +kernel
theorem dX7_wronged_78 : decode cX7_wronged 78 = .ok (.bipush 6, 2) := by decide +kernel
theorem dX7_wronged_80 : decode cX7_wronged 80 = .ok (.iload 4, 2) := by decide +kernel
theorem dX7_wronged_82 : decode cX7_wronged 82 = .ok (.imul, 1) := by decide +kernel
theorem dX7_wronged_83 : decode cX7_wronged 83 = .ok (.iload 6, 2) := by decide +kernel
theorem dX7_wronged_85 : decode cX7_wronged 85 = .ok (.iadd, 1) := by decide +kernel
theorem dX7_wronged_86 : decode cX7_wronged 86 = .ok (.laload, 1) := by decide +kernel
theorem dX7_wronged_87 : decode cX7_wronged 87 = .ok (.lsub, 1) := by decide +kernel
theorem dX7_wronged_88 : decode cX7_wronged 88 = .ok (.lstore 8, 2) := by decide +kernel
theorem dX7_wronged_90 : decode cX7_wronged 90 = .ok (.iload_n 3, 1) := by decide +kernel
theorem dX7_wronged_91 : decode cX7_wronged 91 = .ok (.iload 7, 2) := by decide +kernel
theorem dX7_wronged_93 : decode cX7_wronged 93 = .ok (.ifCond .le 10, 3) := by decide +kernel
theorem dX7_wronged_96 : decode cX7_wronged 96 = .ok (.lload 8, 2) := by decide +kernel
theorem dX7_wronged_98 : decode cX7_wronged 98 = .ok (.lconst 0, 1) := by decide +kernel
theorem dX7_wronged_99 : decode cX7_wronged 99 = .ok (.lcmp, 1) := by decide +kernel
theorem dX7_wronged_100 : decode cX7_wronged 100 = .ok (.ifCond .lt 15, 3) := by decide +kernel
theorem dX7_wronged_103 : decode cX7_wronged 103 = .ok (.iload 7, 2) := by decide +kernel
theorem dX7_wronged_105 : decode cX7_wronged 105 = .ok (.ifCond .ge 14, 3) := by decide +kernel
theorem dX7_wronged_108 : decode cX7_wronged 108 = .ok (.lload 8, 2) := by decide +kernel
theorem dX7_wronged_110 : decode cX7_wronged 110 = .ok (.lconst 0, 1) := by decide +kernel
theorem dX7_wronged_111 : decode cX7_wronged 111 = .ok (.lcmp, 1) := by decide +kernel
theorem dX7_wronged_112 : decode cX7_wronged 112 = .ok (.ifCond .le 7, 3) := by decide +kernel
theorem dX7_wronged_115 : decode cX7_wronged 115 = .ok (.iconst 1, 1) := by decide +kernel
theorem dX7_wronged_116 : decode cX7_wronged 116 = .ok (.goto 4, 3) := by decide +kernel
theorem dX7_wronged_119 : decode cX7_wronged 119 = .ok (.iconst 0, 1) := by decide +kernel
theorem dX7_wronged_120 : decode cX7_wronged 120 = .ok (.iadd, 1) := by decide +kernel
theorem dX7_wronged_121 : decode cX7_wronged 121 = .ok (.istore_n 3, 1) := by decide +kernel
theorem dX7_wronged_122 : decode cX7_wronged 122 = .ok (.iinc 4 1, 3) := by decide +kernel
theorem dX7_wronged_125 : decode cX7_wronged 125 = .ok (.goto (-110), 3) := by decide +kernel
theorem dX7_wronged_128 : decode cX7_wronged 128 = .ok (.iload_n 3, 1) := by decide +kernel
theorem dX7_wronged_129 : decode cX7_wronged 129 = .ok (.ireturn, 1) := by decide +kernel
set_option maxHeartbeats 4000000 in
set_option maxRecDepth 100000 in
theorem c_X7_wronged (l : Launch) (D : va_G) (cy : Nat → ClassId) (ad adK adV : Nat → Nat) (M : Mm) (o0 : Nat) (res : Mm × Int32) (h : f_X7_wronged M o0 = some res) : Met l yX7_wronged (wU yX7_wronged cX7_wronged 10 (some .int)) rmX7_wronged (va_Pc [.ref (ad o0)] (Pre D cy shM ad nM adK adV M)) (va_Qi (fun r (M2 : Mm) => r = res.2 ∧ M2 = res.1) (Pre D cy shM ad nM adK adV) (Aw ad nM)) 0 0 (Aw ad nM) := by
  refine Met.ofW (cc := cX7_wronged) (maxL := 10) (ret := (some .int)) (by decide) rfl ?_
  intro p e s m args below meth c s₁ B hml hv
  obtain ⟨hargs, hPre⟩ := hv
  have hx := B.exec
  have hb := B.bytes
  have hr := B.returns
  have hts := atoms_spec (ws := wU yX7_wronged cX7_wronged 10 (some .int)) B.pre
  have hq : ∀ w ∈ gW, w.before args s = true := fun w hw => hts w (List.mem_cons_of_mem _ hw)
  have hcm : ∀ w ∈ gW, w ∈ wU yX7_wronged cX7_wronged 10 (some .int) := fun w hw => List.mem_cons_of_mem _ hw
  have hown : s.vm.findClass RX7 = some m.cls := findClass_of_methodNamed B.named
  have hlocks := B.notSynchronized
  have hF : CallFix p m c cX7_wronged 10 s args (wU yX7_wronged cX7_wronged 10 (some .int)) RX7 := ⟨hx, hb, hml, hown, hts⟩
  have hK := hPre.2.1
  have hZ := hPre.2.2.2
  have hw : Wd D cy shM ad nM (Aw ad nM) s.heap M s.heap [] := ⟨hPre.1, hPre.2.2.1, va_S.rf⟩
  have iw7 : ∀ w ∈ u_ws RX7 TX7 30, w ∈ wU yX7_wronged cX7_wronged 10 (some .int) := fun w hw => List.mem_cons_of_mem _ (iX7 w hw)
  rw [show entryFrame m args 10 = entryFrame m ([.ref (ad o0)] : List Value).toArray 10 from by rw [hargs]]
  have hl := lv_entry ([.ref (ad o0)]) (n := 10) (Nat.le_of_ble_eq_true rfl)
  rw [lg_entry_eq]
  generalize (lg_sl ([.ref (ad o0)]) ++ List.replicate (10 - (lg_sl ([.ref (ad o0)])).length) Slot.unset).toArray = ls at hl ⊢
  have hl : lv_has ls 10 [(0, .ref (ad o0))] := hl
  have hb120 : ∀ (k15 : Mm → Nat → Int32 → Int32 → Option (Mm × Int32)) (hk15 : ∀ (M : Mm) (x0 : Nat) (x3 : Int32) (x4 : Int32), k15 M x0 x3 x4 = some res → ∀ (H : Heap) (locs : List Loc) (ls : Array Slot), Wd D cy shM ad nM (Aw ad nM) s.heap M H locs → lv_has ls 10 [(0, .ref (ad x0)), (3, .int x3), (4, .int x4)] → W p l e (headSpec (wU yX7_wronged cX7_wronged 10 (some .int)) rmX7_wronged).room s m args below meth c H locs 0 0 (QI D cy shM ad nM adK adV below args s res) (F0 m 15 ls [])), ∀ (M : Mm) (x0 : Nat) (x4 : Int32) (t0 : Int32) (t1 : Int32), f_X7_wronged_b120 k15 M x0 x4 t0 t1 = some res → ∀ (H : Heap) (locs : List Loc) (ls : Array Slot), Wd D cy shM ad nM (Aw ad nM) s.heap M H locs → lv_has ls 10 [(0, .ref (ad x0)), (4, .int x4)] → W p l e (headSpec (wU yX7_wronged cX7_wronged 10 (some .int)) rmX7_wronged).room s m args below meth c H locs 0 0 (QI D cy shM ad nM adK adV below args s res) (F0 m 120 ls [.int t1, .int t0]) := by
    intro k15 hk15
    intro M x0 x4 t0 t1 h H locs ls hw hl
    unfold f_X7_wronged_b120 at h
    refine lv_iadd hx hb dX7_wronged_120 ?_
    refine lv_istore_n (lv' := [(3, .int (t0 + t1)), (0, .ref (ad x0)), (4, .int x4)]) hx hb dX7_wronged_121 rfl hl (by decide) rfl (fun ls hl => ?_)
    refine lv_iinc (v := x4 + (1 : Int32)) (lv' := [(4, .int (x4 + (1 : Int32))), (3, .int (t0 + t1)), (0, .ref (ad x0))]) hx hb dX7_wronged_122 hl (k := 2) rfl (congrArg (fun z => x4 + z) (by decide)) (by decide) rfl (fun ls hl => ?_)
    refine lv_goto (tgt := 15) hx hb dX7_wronged_125 (by decide) ?_
    exact hk15 _ _ _ _ h _ _ _ hw (lv_sub hl [2, 1, 0] rfl)
  have hb119 : ∀ (k15 : Mm → Nat → Int32 → Int32 → Option (Mm × Int32)) (hk15 : ∀ (M : Mm) (x0 : Nat) (x3 : Int32) (x4 : Int32), k15 M x0 x3 x4 = some res → ∀ (H : Heap) (locs : List Loc) (ls : Array Slot), Wd D cy shM ad nM (Aw ad nM) s.heap M H locs → lv_has ls 10 [(0, .ref (ad x0)), (3, .int x3), (4, .int x4)] → W p l e (headSpec (wU yX7_wronged cX7_wronged 10 (some .int)) rmX7_wronged).room s m args below meth c H locs 0 0 (QI D cy shM ad nM adK adV below args s res) (F0 m 15 ls [])), ∀ (M : Mm) (x0 : Nat) (x4 : Int32) (t0 : Int32), f_X7_wronged_b119 k15 M x0 x4 t0 = some res → ∀ (H : Heap) (locs : List Loc) (ls : Array Slot), Wd D cy shM ad nM (Aw ad nM) s.heap M H locs → lv_has ls 10 [(0, .ref (ad x0)), (4, .int x4)] → W p l e (headSpec (wU yX7_wronged cX7_wronged 10 (some .int)) rmX7_wronged).room s m args below meth c H locs 0 0 (QI D cy shM ad nM adK adV below args s res) (F0 m 119 ls [.int t0]) := by
    intro k15 hk15
    intro M x0 x4 t0 h H locs ls hw hl
    unfold f_X7_wronged_b119 at h
    refine lv_iconst (v := (0 : Int32)) hx hb dX7_wronged_119 (by decide) ?_
    exact hb120 _ hk15 _ _ _ _ _ h _ _ _ hw (lv_sub hl [0, 1] rfl)
  have hb115 : ∀ (k15 : Mm → Nat → Int32 → Int32 → Option (Mm × Int32)) (hk15 : ∀ (M : Mm) (x0 : Nat) (x3 : Int32) (x4 : Int32), k15 M x0 x3 x4 = some res → ∀ (H : Heap) (locs : List Loc) (ls : Array Slot), Wd D cy shM ad nM (Aw ad nM) s.heap M H locs → lv_has ls 10 [(0, .ref (ad x0)), (3, .int x3), (4, .int x4)] → W p l e (headSpec (wU yX7_wronged cX7_wronged 10 (some .int)) rmX7_wronged).room s m args below meth c H locs 0 0 (QI D cy shM ad nM adK adV below args s res) (F0 m 15 ls [])), ∀ (M : Mm) (x0 : Nat) (x4 : Int32) (t0 : Int32), f_X7_wronged_b115 k15 M x0 x4 t0 = some res → ∀ (H : Heap) (locs : List Loc) (ls : Array Slot), Wd D cy shM ad nM (Aw ad nM) s.heap M H locs → lv_has ls 10 [(0, .ref (ad x0)), (4, .int x4)] → W p l e (headSpec (wU yX7_wronged cX7_wronged 10 (some .int)) rmX7_wronged).room s m args below meth c H locs 0 0 (QI D cy shM ad nM adK adV below args s res) (F0 m 115 ls [.int t0]) := by
    intro k15 hk15
    intro M x0 x4 t0 h H locs ls hw hl
    unfold f_X7_wronged_b115 at h
    refine lv_iconst (v := (1 : Int32)) hx hb dX7_wronged_115 (by decide) ?_
    refine lv_goto (tgt := 120) hx hb dX7_wronged_116 (by decide) ?_
    exact hb120 _ hk15 _ _ _ _ _ h _ _ _ hw (lv_sub hl [0, 1] rfl)
  have hb103 : ∀ (k15 : Mm → Nat → Int32 → Int32 → Option (Mm × Int32)) (hk15 : ∀ (M : Mm) (x0 : Nat) (x3 : Int32) (x4 : Int32), k15 M x0 x3 x4 = some res → ∀ (H : Heap) (locs : List Loc) (ls : Array Slot), Wd D cy shM ad nM (Aw ad nM) s.heap M H locs → lv_has ls 10 [(0, .ref (ad x0)), (3, .int x3), (4, .int x4)] → W p l e (headSpec (wU yX7_wronged cX7_wronged 10 (some .int)) rmX7_wronged).room s m args below meth c H locs 0 0 (QI D cy shM ad nM adK adV below args s res) (F0 m 15 ls [])), ∀ (M : Mm) (x0 : Nat) (x4 : Int32) (x7 : Int32) (x8 : Int64) (t0 : Int32), f_X7_wronged_b103 k15 M x0 x4 x7 x8 t0 = some res → ∀ (H : Heap) (locs : List Loc) (ls : Array Slot), Wd D cy shM ad nM (Aw ad nM) s.heap M H locs → lv_has ls 10 [(0, .ref (ad x0)), (4, .int x4), (7, .int x7), (8, .long x8)] → W p l e (headSpec (wU yX7_wronged cX7_wronged 10 (some .int)) rmX7_wronged).room s m args below meth c H locs 0 0 (QI D cy shM ad nM adK adV below args s res) (F0 m 103 ls [.int t0]) := by
    intro k15 hk15
    intro M x0 x4 x7 x8 t0 h H locs ls hw hl
    unfold f_X7_wronged_b103 at h
    refine lv_iload hx hb dX7_wronged_103 (lv_at hl 2 rfl) ?_
    refine lv_if_ge (tgt := 119) hx hb dX7_wronged_105 (by decide) (fun c1 => ?_) (fun c1 => ?_)
    · replace h := if_some_t c1 h
      exact hb119 _ hk15 _ _ _ _ h _ _ _ hw (lv_sub hl [0, 1] rfl)
    · replace h := if_some_f c1 h
      refine lv_lload hx hb dX7_wronged_108 (lv_at hl 3 rfl) ?_
      refine lv_lconst (v := (0 : Int64)) hx hb dX7_wronged_110 (by decide) ?_
      refine W.lcmp hx hb dX7_wronged_111 ?_
      refine lv_if_le (tgt := 119) hx hb dX7_wronged_112 (by decide) (fun c2 => ?_) (fun c2 => ?_)
      · replace h := if_some_t c2 h
        exact hb119 _ hk15 _ _ _ _ h _ _ _ hw (lv_sub hl [0, 1] rfl)
      · replace h := if_some_f c2 h
        exact hb115 _ hk15 _ _ _ _ h _ _ _ hw (lv_sub hl [0, 1] rfl)
  have hb15 : ∀ (nn : Nat), ∀ (M : Mm) (x0 : Nat) (x3 : Int32) (x4 : Int32), f_X7_wronged_b15 nn M x0 x3 x4 = some res → ∀ (H : Heap) (locs : List Loc) (ls : Array Slot), Wd D cy shM ad nM (Aw ad nM) s.heap M H locs → lv_has ls 10 [(0, .ref (ad x0)), (3, .int x3), (4, .int x4)] → W p l e (headSpec (wU yX7_wronged cX7_wronged 10 (some .int)) rmX7_wronged).room s m args below meth c H locs 0 0 (QI D cy shM ad nM adK adV below args s res) (F0 m 15 ls []) := by
    intro nn
    induction nn with
    | zero => intro M x0 x3 x4 h; simp [f_X7_wronged_b15] at h
    | succ nn ih =>
      intro M x0 x3 x4 h H locs ls hw hl
      unfold f_X7_wronged_b15 at h
      refine lv_iload hx hb dX7_wronged_15 (lv_at hl 2 rfl) ?_
      refine lv_aload_n hx hb dX7_wronged_17 rfl (lv_at hl 0 rfl) ?_
      replace h := gd_some h
      obtain ⟨g3, h⟩ := h
      replace h := bd_some h
      obtain ⟨q4, eq4, h⟩ := h
      refine r_getR hx hb hts iw7 hown hK hw x0 0 g3 (by decide) rfl (by decide) rfl (hq _ qw888) (fun _ h9 => h9) dX7_wronged_18 eq4 ?_
      refine lv_iconst (v := (1 : Int32)) hx hb dX7_wronged_21 (by decide) ?_
      replace h := gd_some h
      obtain ⟨g5, h⟩ := h
      refine r_iald hx hb hK hw q4 g5 dX7_wronged_22 ?_
      refine lv_icmp_ge (tgt := 128) hx hb dX7_wronged_23 (by decide) (fun c6 => ?_) (fun c6 => ?_)
      · replace h := if_some_t c6 h
        refine lv_iload_n hx hb dX7_wronged_128 rfl (lv_at hl 1 rfl) ?_
        exact r_iret hx hb hr rfl hlocks hZ hK hw h dX7_wronged_129
      · replace h := if_some_f c6 h
        refine lv_aload_n hx hb dX7_wronged_26 rfl (lv_at hl 0 rfl) ?_
        refine lv_iload hx hb dX7_wronged_27 (lv_at hl 2 rfl) ?_
        refine lv_iconst (v := (0 : Int32)) hx hb dX7_wronged_29 (by decide) ?_
        replace h := bd_some h
        obtain ⟨r7, er7, h⟩ := h
        refine r_callVi (As := [.int x4, .int (0 : Int32)]) (rest := []) hF (c_X7_of l D cy ad adK adV M x0 x4 (0 : Int32) r7 er7) (gW_goodV hcm qw1010 qw1007 qw1009 qw22 qw67) hdX7_of rfl ⟨Nat.le_of_ble_eq_true rfl, Nat.le_of_ble_eq_true rfl⟩ rfl rfl hZ hK hw g3 (by decide) rfl rfl hl.1 rfl (Nat.le_of_ble_eq_true rfl) ⟨Nat.zero_le _, Nat.zero_le _⟩ dX7_wronged_30 (fun H locs hw => ?_)
        refine lv_istore (lv' := [(5, .int r7.2), (0, .ref (ad x0)), (3, .int x3), (4, .int x4)]) hx hb dX7_wronged_33 hl (by decide) rfl (fun ls hl => ?_)
        refine lv_aload_n hx hb dX7_wronged_35 rfl (lv_at hl 1 rfl) ?_
        refine lv_iload hx hb dX7_wronged_36 (lv_at hl 3 rfl) ?_
        refine lv_iconst (v := (1 : Int32)) hx hb dX7_wronged_38 (by decide) ?_
        replace h := bd_some h
        obtain ⟨r8, er8, h⟩ := h
        refine r_callVi (As := [.int x4, .int (1 : Int32)]) (rest := []) hF (c_X7_of l D cy ad adK adV r7.1 x0 x4 (1 : Int32) r8 er8) (gW_goodV hcm qw1010 qw1007 qw1009 qw22 qw67) hdX7_of rfl ⟨Nat.le_of_ble_eq_true rfl, Nat.le_of_ble_eq_true rfl⟩ rfl rfl hZ hK hw g3 (by decide) rfl rfl hl.1 rfl (Nat.le_of_ble_eq_true rfl) ⟨Nat.zero_le _, Nat.zero_le _⟩ dX7_wronged_39 (fun H locs hw => ?_)
        refine lv_istore (lv' := [(6, .int r8.2), (5, .int r7.2), (0, .ref (ad x0)), (3, .int x3), (4, .int x4)]) hx hb dX7_wronged_42 hl (by decide) rfl (fun ls hl => ?_)
        refine lv_aload_n hx hb dX7_wronged_44 rfl (lv_at hl 2 rfl) ?_
        refine lv_iload hx hb dX7_wronged_45 (lv_at hl 1 rfl) ?_
        refine lv_iconst (v := (1 : Int32)) hx hb dX7_wronged_47 (by decide) ?_
        replace h := bd_some h
        obtain ⟨r9, er9, h⟩ := h
        refine r_callVi (As := [.int r7.2, .int (1 : Int32)]) (rest := []) hF (c_X7_its l D cy ad adK adV r8.1 x0 r7.2 (1 : Int32) r9 er9) (gW_goodV hcm qw1030 qw1027 qw1029 qw27 qw67) hdX7_its rfl ⟨Nat.le_of_ble_eq_true rfl, Nat.le_of_ble_eq_true rfl⟩ rfl rfl hZ hK hw g3 (by decide) rfl rfl hl.1 rfl (Nat.le_of_ble_eq_true rfl) ⟨Nat.zero_le _, Nat.zero_le _⟩ dX7_wronged_48 (fun H locs hw => ?_)
        refine lv_aload_n hx hb dX7_wronged_51 rfl (lv_at hl 2 rfl) ?_
        refine lv_iload hx hb dX7_wronged_52 (lv_at hl 0 rfl) ?_
        refine lv_iconst (v := (1 : Int32)) hx hb dX7_wronged_54 (by decide) ?_
        replace h := bd_some h
        obtain ⟨r10, er10, h⟩ := h
        refine r_callVi (As := [.int r8.2, .int (1 : Int32)]) (rest := [.int r9.2]) hF (c_X7_its l D cy ad adK adV r9.1 x0 r8.2 (1 : Int32) r10 er10) (gW_goodV hcm qw1030 qw1027 qw1029 qw27 qw67) hdX7_its rfl ⟨Nat.le_of_ble_eq_true rfl, Nat.le_of_ble_eq_true rfl⟩ rfl rfl hZ hK hw g3 (by decide) rfl rfl hl.1 rfl (Nat.le_of_ble_eq_true rfl) ⟨Nat.zero_le _, Nat.zero_le _⟩ dX7_wronged_55 (fun H locs hw => ?_)
        refine lv_isub hx hb dX7_wronged_58 ?_
        refine lv_istore (lv' := [(7, .int (r9.2 - r10.2)), (6, .int r8.2), (5, .int r7.2), (0, .ref (ad x0)), (3, .int x3), (4, .int x4)]) hx hb dX7_wronged_59 hl (by decide) rfl (fun ls hl => ?_)
        refine lv_aload_n hx hb dX7_wronged_61 rfl (lv_at hl 3 rfl) ?_
        replace h := bd_some h
        obtain ⟨q11, eq11, h⟩ := h
        refine r_getR hx hb hts iw7 hown hK hw x0 16 g3 (by decide) rfl (by decide) rfl (hq _ qw904) (fun _ h9 => h9) dX7_wronged_62 eq11 ?_
        refine lv_bipush (v := (6 : Int32)) hx hb dX7_wronged_65 (by decide) ?_
        refine lv_iload hx hb dX7_wronged_67 (lv_at hl 5 rfl) ?_
        refine lv_imul hx hb dX7_wronged_69 ?_
        refine lv_iload hx hb dX7_wronged_70 (lv_at hl 2 rfl) ?_
        refine lv_iadd hx hb dX7_wronged_72 ?_
        replace h := gd_some h
        obtain ⟨g12, h⟩ := h
        refine r_lald hx hb hK hw q11 g12 dX7_wronged_73 ?_
        refine lv_aload_n hx hb dX7_wronged_74 rfl (lv_at hl 3 rfl) ?_
        replace h := bd_some h
        obtain ⟨q13, eq13, h⟩ := h
        refine r_getR hx hb hts iw7 hown hK hw x0 16 g3 (by decide) rfl (by decide) rfl (hq _ qw904) (fun _ h9 => h9) dX7_wronged_75 eq13 ?_
        refine lv_bipush (v := (6 : Int32)) hx hb dX7_wronged_78 (by decide) ?_
        refine lv_iload hx hb dX7_wronged_80 (lv_at hl 5 rfl) ?_
        refine lv_imul hx hb dX7_wronged_82 ?_
        refine lv_iload hx hb dX7_wronged_83 (lv_at hl 1 rfl) ?_
        refine lv_iadd hx hb dX7_wronged_85 ?_
        replace h := gd_some h
        obtain ⟨g14, h⟩ := h
        refine r_lald hx hb hK hw q13 g14 dX7_wronged_86 ?_
        refine lv_lsub hx hb dX7_wronged_87 ?_
        refine lv_topl (fun y15 ey15 => ?_)
        replace h := lt_at ey15 h
        refine lv_lstore (lv' := [(8, .long y15), (7, .int (r9.2 - r10.2)), (6, .int r8.2), (5, .int r7.2), (0, .ref (ad x0)), (3, .int x3), (4, .int x4)]) hx hb dX7_wronged_88 hl (by decide) rfl (fun ls hl => ?_)
        refine lv_iload_n hx hb dX7_wronged_90 rfl (lv_at hl 5 rfl) ?_
        refine lv_iload hx hb dX7_wronged_91 (lv_at hl 1 rfl) ?_
        refine lv_if_le (tgt := 103) hx hb dX7_wronged_93 (by decide) (fun c16 => ?_) (fun c16 => ?_)
        · replace h := if_some_t c16 h
          exact hb103 _ ih _ _ _ _ _ _ h _ _ _ hw (lv_sub hl [4, 6, 1, 0] rfl)
        · replace h := if_some_f c16 h
          refine lv_lload hx hb dX7_wronged_96 (lv_at hl 0 rfl) ?_
          refine lv_lconst (v := (0 : Int64)) hx hb dX7_wronged_98 (by decide) ?_
          refine W.lcmp hx hb dX7_wronged_99 ?_
          refine lv_if_lt (tgt := 115) hx hb dX7_wronged_100 (by decide) (fun c17 => ?_) (fun c17 => ?_)
          · replace h := if_some_t c17 h
            exact hb115 _ ih _ _ _ _ h _ _ _ hw (lv_sub hl [4, 6] rfl)
          · replace h := if_some_f c17 h
            exact hb103 _ ih _ _ _ _ _ _ h _ _ _ hw (lv_sub hl [4, 6, 1, 0] rfl)
  unfold f_X7_wronged at h
  refine lv_aload_n hx hb dX7_wronged_0 rfl (lv_at hl 0 rfl) ?_
  replace h := gd_some h
  obtain ⟨g19, h⟩ := h
  replace h := bd_some h
  obtain ⟨r18, er18, h⟩ := h
  refine r_callVl (As := []) (rest := []) hF (c_X7_findWays l D cy ad adK adV M o0 r18 er18) (gW_goodV hcm qw1210 qw1207 qw1209 qw52 qw67) hdX7_findWays rfl ⟨Nat.le_of_ble_eq_true rfl, Nat.le_of_ble_eq_true rfl⟩ rfl rfl hZ hK hw g19 (by decide) rfl rfl hl.1 rfl (Nat.le_of_ble_eq_true rfl) ⟨Nat.zero_le _, Nat.zero_le _⟩ dX7_wronged_1 (fun H locs hw => ?_)
  refine lv_lstore_n (lv' := [(1, .long r18.2), (0, .ref (ad o0))]) hx hb dX7_wronged_4 rfl hl (by decide) rfl (fun ls hl => ?_)
  refine lv_iconst (v := (0 : Int32)) hx hb dX7_wronged_5 (by decide) ?_
  refine lv_istore_n (lv' := [(3, .int (0 : Int32)), (1, .long r18.2), (0, .ref (ad o0))]) hx hb dX7_wronged_6 rfl hl (by decide) rfl (fun ls hl => ?_)
  refine lv_aload_n hx hb dX7_wronged_7 rfl (lv_at hl 2 rfl) ?_
  replace h := bd_some h
  obtain ⟨q20, eq20, h⟩ := h
  refine r_getR hx hb hts iw7 hown hK hw o0 0 g19 (by decide) rfl (by decide) rfl (hq _ qw888) (fun _ h9 => h9) dX7_wronged_8 eq20 ?_
  refine lv_iconst (v := (2 : Int32)) hx hb dX7_wronged_11 (by decide) ?_
  replace h := gd_some h
  obtain ⟨g21, h⟩ := h
  refine r_iald hx hb hK hw q20 g21 dX7_wronged_12 ?_
  refine lv_istore (lv' := [(4, .int (r18.1.1 q20 (2 : Int32).toNatClampNeg)), (3, .int (0 : Int32)), (1, .long r18.2), (0, .ref (ad o0))]) hx hb dX7_wronged_13 hl (by decide) rfl (fun ls hl => ?_)
  exact hb15 1000 _ _ _ _ h _ _ _ hw (lv_sub hl [3, 1, 0] rfl)

theorem dX6_greatestMean_0 : decode cX6_greatestMean 0 = .ok (.aload_n 0, 1) := by decide +kernel
theorem dX6_greatestMean_1 : decode cX6_greatestMean 1 = .ok (.getfield 31, 3) := by decide +kernel
theorem dX6_greatestMean_4 : decode cX6_greatestMean 4 = .ok (.aload_n 0, 1) := by decide +kernel
theorem dX6_greatestMean_5 : decode cX6_greatestMean 5 = .ok (.getfield 10, 3) := by decide +kernel
theorem dX6_greatestMean_8 : decode cX6_greatestMean 8 = .ok (.invokevirtual 151, 3) := by decide +kernel
theorem dX6_greatestMean_11 : decode cX6_greatestMean 11 = .ok (.iload_n 3, 1) := by decide +kernel
theorem dX6_greatestMean_12 : decode cX6_greatestMean 12 = .ok (.istore 5, 2) := by decide +kernel
theorem dX6_greatestMean_14 : decode cX6_greatestMean 14 = .ok (.ldc2_w 297, 3) := by decide +kernel
theorem dX6_greatestMean_17 : decode cX6_greatestMean 17 = .ok (.lstore 6, 2) := by decide +kernel
theorem dX6_greatestMean_19 : decode cX6_greatestMean 19 = .ok (.iload_n 3, 1) := by decide +kernel
theorem dX6_greatestMean_20 : decode cX6_greatestMean 20 = .ok (.istore 8, 2) := by decide +kernel
theorem dX6_greatestMean_22 : decode cX6_greatestMean 22 = .ok (.iload 8, 2) := by decide +kernel
theorem dX6_greatestMean_24 : decode cX6_greatestMean 24 = .ok (.iload 4, 2) := by decide +kernel
theorem dX6_greatestMean_26 : decode cX6_greatestMean 26 = .ok (.if_icmp .gt 57, 3) := by decide +kernel
theorem dX6_greatestMean_29 : decode cX6_greatestMean 29 = .ok (.aload_n 0, 1) := by decide +kernel
theorem dX6_greatestMean_30 : decode cX6_greatestMean 30 = .ok (.iload_n 1, 1) := by decide +kernel
theorem dX6_greatestMean_31 : decode cX6_greatestMean 31 = .ok (.iload_n 2, 1) := by decide +kernel
theorem dX6_greatestMean_32 : decode cX6_greatestMean 32 = .ok (.iload 8, 2) := by decide +kernel
theorem dX6_greatestMean_34 : decode cX6_greatestMean 34 = .ok (.invokevirtual 299, 3) := by decide +kernel
theorem dX6_greatestMean_37 : decode cX6_greatestMean 37 = .ok (.aload_n 0, 1) := by decide +kernel
theorem dX6_greatestMean_38 : decode cX6_greatestMean 38 = .ok (.getfield 26, 3) := by decide +kernel
theorem dX6_greatestMean_41 : decode cX6_greatestMean 41 = .ok (.iload_n 1, 1) := by decide +kernel
theorem dX6_greatestMean_42 : decode cX6_greatestMean 42 = .ok (.iconst 0, 1) := by decide +kernel
theorem dX6_greatestMean_43 : decode cX6_greatestMean 43 = .ok (.iconst 0, 1) := by decide +kernel
theorem dX6_greatestMean_44 : decode cX6_greatestMean 44 = .ok (.invokevirtual 213, 3) := by decide +kernel
theorem dX6_greatestMean_47 : decode cX6_greatestMean 47 = .ok (.aload_n 0, 1) := by decide +kernel
theorem dX6_greatestMean_48 : decode cX6_greatestMean 48 = .ok (.getfield 26, 3) := by decide +kernel
theorem dX6_greatestMean_51 : decode cX6_greatestMean 51 = .ok (.getfield 210, 3) := by decide +kernel
theorem dX6_greatestMean_54 : decode cX6_greatestMean 54 = .ok (.iload_n 1, 1) := by decide +kernel
theorem dX6_greatestMean_55 : decode cX6_greatestMean 55 = .ok (.laload, 1) := by decide +kernel
theorem dX6_greatestMean_56 : decode cX6_greatestMean 56 = .ok (.lload 6, 2) := by decide +kernel
theorem dX6_greatestMean_58 : decode cX6_greatestMean 58 = .ok (.lcmp, 1) := by decide +kernel
theorem dX6_greatestMean_59 : decode cX6_greatestMean 59 = .ok (.ifCond .le 18, 3) := by decide +kernel
theorem dX6_greatestMean_62 : decode cX6_greatestMean 62 = .ok (.aload_n 0, 1) := by decide +kernel
theorem dX6_greatestMean_63 : decode cX6_greatestMean 63 = .ok (.getfield 26, 3) := by decide +kernel
theorem dX6_greatestMean_66 : decode cX6_greatestMean 66 = .ok (.getfield 210, 3) := by decide +kernel
theorem dX6_greatestMean_69 : decode cX6_greatestMean 69 = .ok (.iload_n 1, 1) := by decide +kernel
theorem dX6_greatestMean_70 : decode cX6_greatestMean 70 = .ok (.laload, 1) := by decide +kernel
theorem dX6_greatestMean_71 : decode cX6_greatestMean 71 = .ok (.lstore 6, 2) := by decide +kernel
theorem dX6_greatestMean_73 : decode cX6_greatestMean 73 = .ok (.iload 8, 2) := by decide +kernel
theorem dX6_greatestMean_75 : decode cX6_greatestMean 75 = .ok (.istore 5, 2) := by decide +kernel
theorem dX6_greatestMean_77 : decode cX6_greatestMean 77 = .ok (.iinc 8 1, 3) := by decide +kernel
theorem dX6_greatestMean_80 : decode cX6_greatestMean 80 = .ok (.goto (-58), 3) := by decide +kernel
theorem dX6_greatestMean_83 : decode cX6_greatestMean 83 = .ok (.iload 5, 2) := by decide +kernel
theorem dX6_greatestMean_85 : decode cX6_greatestMean 85 = .ok (.ireturn, 1) := by decide +kernel
set_option maxHeartbeats 4000000 in
set_option maxRecDepth 100000 in
theorem c_X6_greatestMean (l : Launch) (D : va_G) (cy : Nat → ClassId) (ad adK adV : Nat → Nat) (M : Mm) (o0 : Nat) (a1 : Int32) (a2 : Int32) (a3 : Int32) (a4 : Int32) (res : Mm × Int32) (h : f_X6_greatestMean M o0 a1 a2 a3 a4 = some res) : Met l yX6_greatestMean (wU yX6_greatestMean cX6_greatestMean 9 (some .int)) rmX6_greatestMean (va_Pc [.ref (ad o0), .int a1, .int a2, .int a3, .int a4] (Pre D cy shX ad nX adK adV M)) (va_Qi (fun r (M2 : Mm) => r = res.2 ∧ M2 = res.1) (Pre D cy shX ad nX adK adV) (Aw ad nX)) 0 0 (Aw ad nX) := by
  refine Met.ofW (cc := cX6_greatestMean) (maxL := 9) (ret := (some .int)) (by decide) rfl ?_
  intro p e s m args below meth c s₁ B hml hv
  obtain ⟨hargs, hPre⟩ := hv
  have hx := B.exec
  have hb := B.bytes
  have hr := B.returns
  have hts := atoms_spec (ws := wU yX6_greatestMean cX6_greatestMean 9 (some .int)) B.pre
  have hq : ∀ w ∈ gW, w.before args s = true := fun w hw => hts w (List.mem_cons_of_mem _ hw)
  have hcm : ∀ w ∈ gW, w ∈ wU yX6_greatestMean cX6_greatestMean 9 (some .int) := fun w hw => List.mem_cons_of_mem _ hw
  have hown : s.vm.findClass RX6 = some m.cls := findClass_of_methodNamed B.named
  have hlocks := B.notSynchronized
  have hF : CallFix p m c cX6_greatestMean 9 s args (wU yX6_greatestMean cX6_greatestMean 9 (some .int)) RX6 := ⟨hx, hb, hml, hown, hts⟩
  have hK := hPre.2.1
  have hZ := hPre.2.2.2
  have hw : Wd D cy shX ad nX (Aw ad nX) s.heap M s.heap [] := ⟨hPre.1, hPre.2.2.1, va_S.rf⟩
  have iw5 : ∀ w ∈ u_ws RX5 TX5 13, w ∈ wU yX6_greatestMean cX6_greatestMean 9 (some .int) := fun w hw => List.mem_cons_of_mem _ (iX5 w hw)
  have iw6 : ∀ w ∈ u_ws RX6 TX6 8, w ∈ wU yX6_greatestMean cX6_greatestMean 9 (some .int) := fun w hw => List.mem_cons_of_mem _ (iX6 w hw)
  rw [show entryFrame m args 9 = entryFrame m ([.ref (ad o0), .int a1, .int a2, .int a3, .int a4] : List Value).toArray 9 from by rw [hargs]]
  have hl := lv_entry ([.ref (ad o0), .int a1, .int a2, .int a3, .int a4]) (n := 9) (Nat.le_of_ble_eq_true rfl)
  rw [lg_entry_eq]
  generalize (lg_sl ([.ref (ad o0), .int a1, .int a2, .int a3, .int a4]) ++ List.replicate (9 - (lg_sl ([.ref (ad o0), .int a1, .int a2, .int a3, .int a4])).length) Slot.unset).toArray = ls at hl ⊢
  have hl : lv_has ls 9 [(0, .ref (ad o0)), (1, .int a1), (2, .int a2), (3, .int a3), (4, .int a4)] := hl
  have hb77 : ∀ (k22 : Mm → Nat → Int32 → Int32 → Int32 → Int32 → Int64 → Int32 → Option (Mm × Int32)) (hk22 : ∀ (M : Mm) (x0 : Nat) (x1 : Int32) (x2 : Int32) (x4 : Int32) (x5 : Int32) (x6 : Int64) (x8 : Int32), k22 M x0 x1 x2 x4 x5 x6 x8 = some res → ∀ (H : Heap) (locs : List Loc) (ls : Array Slot), Wd D cy shX ad nX (Aw ad nX) s.heap M H locs → lv_has ls 9 [(0, .ref (ad x0)), (1, .int x1), (2, .int x2), (4, .int x4), (5, .int x5), (6, .long x6), (8, .int x8)] → W p l e (headSpec (wU yX6_greatestMean cX6_greatestMean 9 (some .int)) rmX6_greatestMean).room s m args below meth c H locs 0 0 (QI D cy shX ad nX adK adV below args s res) (F0 m 22 ls [])), ∀ (M : Mm) (x0 : Nat) (x1 : Int32) (x2 : Int32) (x4 : Int32) (x5 : Int32) (x6 : Int64) (x8 : Int32), f_X6_greatestMean_b77 k22 M x0 x1 x2 x4 x5 x6 x8 = some res → ∀ (H : Heap) (locs : List Loc) (ls : Array Slot), Wd D cy shX ad nX (Aw ad nX) s.heap M H locs → lv_has ls 9 [(0, .ref (ad x0)), (1, .int x1), (2, .int x2), (4, .int x4), (5, .int x5), (6, .long x6), (8, .int x8)] → W p l e (headSpec (wU yX6_greatestMean cX6_greatestMean 9 (some .int)) rmX6_greatestMean).room s m args below meth c H locs 0 0 (QI D cy shX ad nX adK adV below args s res) (F0 m 77 ls []) := by
    intro k22 hk22
    intro M x0 x1 x2 x4 x5 x6 x8 h H locs ls hw hl
    unfold f_X6_greatestMean_b77 at h
    refine lv_iinc (v := x8 + (1 : Int32)) (lv' := [(8, .int (x8 + (1 : Int32))), (0, .ref (ad x0)), (1, .int x1), (2, .int x2), (4, .int x4), (5, .int x5), (6, .long x6)]) hx hb dX6_greatestMean_77 hl (k := 6) rfl (congrArg (fun z => x8 + z) (by decide)) (by decide) rfl (fun ls hl => ?_)
    refine lv_goto (tgt := 22) hx hb dX6_greatestMean_80 (by decide) ?_
    exact hk22 _ _ _ _ _ _ _ _ h _ _ _ hw (lv_sub hl [1, 2, 3, 4, 5, 6, 0] rfl)
  have hb22 : ∀ (nn : Nat), ∀ (M : Mm) (x0 : Nat) (x1 : Int32) (x2 : Int32) (x4 : Int32) (x5 : Int32) (x6 : Int64) (x8 : Int32), f_X6_greatestMean_b22 nn M x0 x1 x2 x4 x5 x6 x8 = some res → ∀ (H : Heap) (locs : List Loc) (ls : Array Slot), Wd D cy shX ad nX (Aw ad nX) s.heap M H locs → lv_has ls 9 [(0, .ref (ad x0)), (1, .int x1), (2, .int x2), (4, .int x4), (5, .int x5), (6, .long x6), (8, .int x8)] → W p l e (headSpec (wU yX6_greatestMean cX6_greatestMean 9 (some .int)) rmX6_greatestMean).room s m args below meth c H locs 0 0 (QI D cy shX ad nX adK adV below args s res) (F0 m 22 ls []) := by
    intro nn
    induction nn with
    | zero => intro M x0 x1 x2 x4 x5 x6 x8 h; simp [f_X6_greatestMean_b22] at h
    | succ nn ih =>
      intro M x0 x1 x2 x4 x5 x6 x8 h H locs ls hw hl
      unfold f_X6_greatestMean_b22 at h
      refine lv_iload hx hb dX6_greatestMean_22 (lv_at hl 6 rfl) ?_
      refine lv_iload hx hb dX6_greatestMean_24 (lv_at hl 3 rfl) ?_
      refine lv_icmp_gt (tgt := 83) hx hb dX6_greatestMean_26 (by decide) (fun c1 => ?_) (fun c1 => ?_)
      · replace h := if_some_t c1 h
        refine lv_iload hx hb dX6_greatestMean_83 (lv_at hl 4 rfl) ?_
        exact r_iret hx hb hr rfl hlocks hZ hK hw h dX6_greatestMean_85
      · replace h := if_some_f c1 h
        refine lv_aload_n hx hb dX6_greatestMean_29 rfl (lv_at hl 0 rfl) ?_
        refine lv_iload_n hx hb dX6_greatestMean_30 rfl (lv_at hl 1 rfl) ?_
        refine lv_iload_n hx hb dX6_greatestMean_31 rfl (lv_at hl 2 rfl) ?_
        refine lv_iload hx hb dX6_greatestMean_32 (lv_at hl 6 rfl) ?_
        replace h := gd_some h
        obtain ⟨g3, h⟩ := h
        replace h := bd_some h
        obtain ⟨r2, er2, h⟩ := h
        refine r_callVv (As := [.int x1, .int x2, .int x8]) (rest := []) hF (c_X6_suppose l D cy ad adK adV M x0 x1 x2 x8 r2 er2) (gW_goodV hcm qw744 qw741 qw743 qw16 qw61) hdX6_suppose rfl ⟨Nat.le_of_ble_eq_true rfl, Nat.le_of_ble_eq_true rfl⟩ rfl rfl hZ hK hw g3 (by decide) rfl rfl hl.1 rfl (Nat.le_of_ble_eq_true rfl) ⟨Nat.zero_le _, Nat.zero_le _⟩ dX6_greatestMean_34 (fun H locs hw => ?_)
        refine lv_aload_n hx hb dX6_greatestMean_37 rfl (lv_at hl 0 rfl) ?_
        replace h := bd_some h
        obtain ⟨q4, eq4, h⟩ := h
        refine r_getR hx hb hts iw6 hown hK hw x0 3 g3 (by decide) rfl (by decide) rfl (hq _ qw339) (fun _ h9 => h9) dX6_greatestMean_38 eq4 ?_
        refine lv_iload_n hx hb dX6_greatestMean_41 rfl (lv_at hl 1 rfl) ?_
        refine lv_iconst (v := (0 : Int32)) hx hb dX6_greatestMean_42 (by decide) ?_
        refine lv_iconst (v := (0 : Int32)) hx hb dX6_greatestMean_43 (by decide) ?_
        replace h := gd_some h
        obtain ⟨g6, h⟩ := h
        replace h := bd_some h
        obtain ⟨r5, er5, h⟩ := h
        refine r_callVv (As := [.int x1, .int (0 : Int32), .int (0 : Int32)]) (rest := []) hF (c_X5_over l D cy ad adK adV r2.1 q4 x1 (0 : Int32) (0 : Int32) r5 er5) (gW_goodV hcm qw681 qw678 qw679 qw680 qw65) hdX5_over rfl ⟨Nat.le_of_ble_eq_true rfl, Nat.le_of_ble_eq_true rfl⟩ rfl rfl hZ hK hw g6 (by decide) rfl rfl hl.1 rfl (Nat.le_of_ble_eq_true rfl) ⟨Nat.zero_le _, Nat.zero_le _⟩ dX6_greatestMean_44 (fun H locs hw => ?_)
        refine lv_aload_n hx hb dX6_greatestMean_47 rfl (lv_at hl 0 rfl) ?_
        replace h := bd_some h
        obtain ⟨q7, eq7, h⟩ := h
        refine r_getR hx hb hts iw6 hown hK hw x0 3 g3 (by decide) rfl (by decide) rfl (hq _ qw339) (fun _ h9 => h9) dX6_greatestMean_48 eq7 ?_
        replace h := gd_some h
        obtain ⟨g8, h⟩ := h
        replace h := bd_some h
        obtain ⟨q9, eq9, h⟩ := h
        refine r_getR hx hb hts iw5 hown hK hw q7 1 g8 (by decide) rfl (by decide) rfl (hq _ qw243) (fun _ h9 => h9) dX6_greatestMean_51 eq9 ?_
        refine lv_iload_n hx hb dX6_greatestMean_54 rfl (lv_at hl 1 rfl) ?_
        replace h := gd_some h
        obtain ⟨g10, h⟩ := h
        refine r_lald hx hb hK hw q9 g10 dX6_greatestMean_55 ?_
        refine lv_lload hx hb dX6_greatestMean_56 (lv_at hl 5 rfl) ?_
        refine W.lcmp hx hb dX6_greatestMean_58 ?_
        refine lv_if_le (tgt := 77) hx hb dX6_greatestMean_59 (by decide) (fun c11 => ?_) (fun c11 => ?_)
        · replace h := if_some_t c11 h
          exact hb77 _ ih _ _ _ _ _ _ _ _ h _ _ _ hw (lv_sub hl [0, 1, 2, 3, 4, 5, 6] rfl)
        · replace h := if_some_f c11 h
          refine lv_aload_n hx hb dX6_greatestMean_62 rfl (lv_at hl 0 rfl) ?_
          replace h := bd_some h
          obtain ⟨q12, eq12, h⟩ := h
          refine r_getR hx hb hts iw6 hown hK hw x0 3 g3 (by decide) rfl (by decide) rfl (hq _ qw339) (fun _ h9 => h9) dX6_greatestMean_63 eq12 ?_
          replace h := gd_some h
          obtain ⟨g13, h⟩ := h
          replace h := bd_some h
          obtain ⟨q14, eq14, h⟩ := h
          refine r_getR hx hb hts iw5 hown hK hw q12 1 g13 (by decide) rfl (by decide) rfl (hq _ qw243) (fun _ h9 => h9) dX6_greatestMean_66 eq14 ?_
          refine lv_iload_n hx hb dX6_greatestMean_69 rfl (lv_at hl 1 rfl) ?_
          replace h := gd_some h
          obtain ⟨g15, h⟩ := h
          refine r_lald hx hb hK hw q14 g15 dX6_greatestMean_70 ?_
          refine lv_lstore (lv' := [(6, .long (r5.1.2.1 q14 x1.toNatClampNeg)), (0, .ref (ad x0)), (1, .int x1), (2, .int x2), (4, .int x4), (5, .int x5), (8, .int x8)]) hx hb dX6_greatestMean_71 hl (by decide) rfl (fun ls hl => ?_)
          refine lv_iload hx hb dX6_greatestMean_73 (lv_at hl 6 rfl) ?_
          refine lv_istore (lv' := [(5, .int x8), (6, .long (r5.1.2.1 q14 x1.toNatClampNeg)), (0, .ref (ad x0)), (1, .int x1), (2, .int x2), (4, .int x4), (8, .int x8)]) hx hb dX6_greatestMean_75 hl (by decide) rfl (fun ls hl => ?_)
          exact hb77 _ ih _ _ _ _ _ _ _ _ h _ _ _ hw (lv_sub hl [2, 3, 4, 5, 0, 1, 6] rfl)
  unfold f_X6_greatestMean at h
  refine lv_aload_n hx hb dX6_greatestMean_0 rfl (lv_at hl 0 rfl) ?_
  replace h := gd_some h
  obtain ⟨g16, h⟩ := h
  replace h := bd_some h
  obtain ⟨q17, eq17, h⟩ := h
  refine r_getR hx hb hts iw6 hown hK hw o0 4 g16 (by decide) rfl (by decide) rfl (hq _ qw340) (fun _ h9 => h9) dX6_greatestMean_1 eq17 ?_
  refine lv_aload_n hx hb dX6_greatestMean_4 rfl (lv_at hl 0 rfl) ?_
  replace h := bd_some h
  obtain ⟨q18, eq18, h⟩ := h
  refine r_getR hx hb hts iw6 hown hK hw o0 0 g16 (by decide) rfl (by decide) rfl (hq _ qw336) (fun _ h9 => h9) dX6_greatestMean_5 eq18 ?_
  replace h := gd_some h
  obtain ⟨g20, h⟩ := h
  replace h := bd_some h
  obtain ⟨r19, er19, h⟩ := h
  refine r_callVv (As := [.ref (ad q18)]) (rest := []) hF (c_X1_become l D cy ad adK adV M q17 q18 r19 er19) (gW_goodV hcm qw458 qw455 qw456 qw457 qw62) hdX1_become rfl ⟨Nat.le_of_ble_eq_true rfl, Nat.le_of_ble_eq_true rfl⟩ rfl rfl hZ hK hw g20 (by decide) rfl rfl hl.1 rfl (Nat.le_of_ble_eq_true rfl) ⟨Nat.zero_le _, Nat.zero_le _⟩ dX6_greatestMean_8 (fun H locs hw => ?_)
  refine lv_iload_n hx hb dX6_greatestMean_11 rfl (lv_at hl 3 rfl) ?_
  refine lv_istore (lv' := [(5, .int a3), (0, .ref (ad o0)), (1, .int a1), (2, .int a2), (3, .int a3), (4, .int a4)]) hx hb dX6_greatestMean_12 hl (by decide) rfl (fun ls hl => ?_)
  refine lv_ldc2 (v := (-1 : Int64)) hx hb hown (hq _ qw740) dX6_greatestMean_14 ?_
  refine lv_lstore (lv' := [(6, .long (-1 : Int64)), (5, .int a3), (0, .ref (ad o0)), (1, .int a1), (2, .int a2), (3, .int a3), (4, .int a4)]) hx hb dX6_greatestMean_17 hl (by decide) rfl (fun ls hl => ?_)
  refine lv_iload_n hx hb dX6_greatestMean_19 rfl (lv_at hl 5 rfl) ?_
  refine lv_istore (lv' := [(8, .int a3), (6, .long (-1 : Int64)), (5, .int a3), (0, .ref (ad o0)), (1, .int a1), (2, .int a2), (3, .int a3), (4, .int a4)]) hx hb dX6_greatestMean_20 hl (by decide) rfl (fun ls hl => ?_)
  exact hb22 1000 _ _ _ _ _ _ _ _ h _ _ _ hw (lv_sub hl [3, 4, 5, 7, 2, 1, 0] rfl)
theorem dX6_best_0 : decode cX6_best 0 = .ok (.aload_n 0, 1) := by decide +kernel
theorem dX6_best_1 : decode cX6_best 1 = .ok (.getfield 10, 3) := by decide +kernel
theorem dX6_best_4 : decode cX6_best 4 = .ok (.iload_n 1, 1) := by decide +kernel
theorem dX6_best_5 : decode cX6_best 5 = .ok (.invokevirtual 71, 3) := by decide +kernel
theorem dX6_best_8 : decode cX6_best 8 = .ok (.ifCond .ne 9, 3) := by decide +kernel
theorem dX6_best_11 : decode cX6_best 11 = .ok (.aload_n 0, 1) := by decide +kernel
theorem dX6_best_12 : decode cX6_best 12 = .ok (.iconst 0, 1) := by decide +kernel
theorem dX6_best_13 : decode cX6_best 13 = .ok (.invokevirtual 59, 3) := by decide +kernel
theorem dX6_best_16 : decode cX6_best 16 = .ok (.ireturn, 1) := by decide +kernel
theorem dX6_best_17 : decode cX6_best 17 = .ok (.aload_n 0, 1) := by decide +kernel
theorem dX6_best_18 : decode cX6_best 18 = .ok (.getfield 10, 3) := by decide +kernel
theorem dX6_best_21 : decode cX6_best 21 = .ok (.invokevirtual 159, 3) := by decide +kernel
theorem dX6_best_24 : decode cX6_best 24 = .ok (.ifCond .eq 9, 3) := by decide +kernel
theorem dX6_best_27 : decode cX6_best 27 = .ok (.aload_n 0, 1) := by decide +kernel
theorem dX6_best_28 : decode cX6_best 28 = .ok (.iconst 3, 1) := by decide +kernel
theorem dX6_best_29 : decode cX6_best 29 = .ok (.invokevirtual 59, 3) := by decide +kernel
theorem dX6_best_32 : decode cX6_best 32 = .ok (.ireturn, 1) := by decide +kernel
theorem dX6_best_33 : decode cX6_best 33 = .ok (.aload_n 0, 1) := by decide +kernel
theorem dX6_best_34 : decode cX6_best 34 = .ok (.getfield 10, 3) := by decide +kernel
theorem dX6_best_37 : decode cX6_best 37 = .ok (.getfield 120, 3) := by decide +kernel
theorem dX6_best_40 : decode cX6_best 40 = .ok (.aload_n 0, 1) := by decide +kernel
theorem dX6_best_41 : decode cX6_best 41 = .ok (.getfield 10, 3) := by decide +kernel
theorem dX6_best_44 : decode cX6_best 44 = .ok (.getfield 117, 3) := by decide +kernel
theorem dX6_best_47 : decode cX6_best 47 = .ok (.aaload, 1) := by decide +kernel
theorem dX6_best_48 : decode cX6_best 48 = .ok (.iload_n 1, 1) := by decide +kernel
theorem dX6_best_49 : decode cX6_best 49 = .ok (.invokevirtual 173, 3) := by decide +kernel
theorem dX6_best_52 : decode cX6_best 52 = .ok (.ifCond .ne 9, 3) := by decide +kernel
theorem dX6_best_55 : decode cX6_best 55 = .ok (.aload_n 0, 1) := by decide +kernel
theorem dX6_best_56 : decode cX6_best 56 = .ok (.iconst 4, 1) := by decide +kernel
theorem dX6_best_57 : decode cX6_best 57 = .ok (.invokevirtual 59, 3) := by decide +kernel
theorem dX6_best_60 : decode cX6_best 60 = .ok (.ireturn, 1) := by decide +kernel
theorem dX6_best_61 : decode cX6_best 61 = .ok (.aload_n 0, 1) := by decide +kernel
theorem dX6_best_62 : decode cX6_best 62 = .ok (.iload_n 1, 1) := by decide +kernel
theorem dX6_best_63 : decode cX6_best 63 = .ok (.iconst 3, 1) := by decide +kernel
theorem dX6_best_64 : decode cX6_best 64 = .ok (.iconst 0, 1) := by decide +kernel
theorem dX6_best_65 : decode cX6_best 65 = .ok (.iconst 3, 1) := by decide +kernel
theorem dX6_best_66 : decode cX6_best 66 = .ok (.invokevirtual 229, 3) := by decide +kernel
theorem dX6_best_69 : decode cX6_best 69 = .ok (.ireturn, 1) := by decide +kernel
set_option maxHeartbeats 4000000 in
set_option maxRecDepth 100000 in
theorem c_X6_best (l : Launch) (D : va_G) (cy : Nat → ClassId) (ad adK adV : Nat → Nat) (M : Mm) (o0 : Nat) (a1 : Int32) (res : Mm × Int32) (h : f_X6_best M o0 a1 = some res) : Met l yX6_best (wU yX6_best cX6_best 2 (some .int)) rmX6_best (va_Pc [.ref (ad o0), .int a1] (Pre D cy shX ad nX adK adV M)) (va_Qi (fun r (M2 : Mm) => r = res.2 ∧ M2 = res.1) (Pre D cy shX ad nX adK adV) (Aw ad nX)) 0 0 (Aw ad nX) := by
  refine Met.ofW (cc := cX6_best) (maxL := 2) (ret := (some .int)) (by decide) rfl ?_
  intro p e s m args below meth c s₁ B hml hv
  obtain ⟨hargs, hPre⟩ := hv
  have hx := B.exec
  have hb := B.bytes
  have hr := B.returns
  have hts := atoms_spec (ws := wU yX6_best cX6_best 2 (some .int)) B.pre
  have hq : ∀ w ∈ gW, w.before args s = true := fun w hw => hts w (List.mem_cons_of_mem _ hw)
  have hcm : ∀ w ∈ gW, w ∈ wU yX6_best cX6_best 2 (some .int) := fun w hw => List.mem_cons_of_mem _ hw
  have hown : s.vm.findClass RX6 = some m.cls := findClass_of_methodNamed B.named
  have hlocks := B.notSynchronized
  have hF : CallFix p m c cX6_best 2 s args (wU yX6_best cX6_best 2 (some .int)) RX6 := ⟨hx, hb, hml, hown, hts⟩
  have hK := hPre.2.1
  have hZ := hPre.2.2.2
  have hw : Wd D cy shX ad nX (Aw ad nX) s.heap M s.heap [] := ⟨hPre.1, hPre.2.2.1, va_S.rf⟩
  have iw1 : ∀ w ∈ u_ws RX1 TX1 11, w ∈ wU yX6_best cX6_best 2 (some .int) := fun w hw => List.mem_cons_of_mem _ (iX1 w hw)
  have iw6 : ∀ w ∈ u_ws RX6 TX6 8, w ∈ wU yX6_best cX6_best 2 (some .int) := fun w hw => List.mem_cons_of_mem _ (iX6 w hw)
  rw [show entryFrame m args 2 = entryFrame m ([.ref (ad o0), .int a1] : List Value).toArray 2 from by rw [hargs]]
  have hl := lv_entry ([.ref (ad o0), .int a1]) (n := 2) (Nat.le_of_ble_eq_true rfl)
  rw [lg_entry_eq]
  generalize (lg_sl ([.ref (ad o0), .int a1]) ++ List.replicate (2 - (lg_sl ([.ref (ad o0), .int a1])).length) Slot.unset).toArray = ls at hl ⊢
  have hl : lv_has ls 2 [(0, .ref (ad o0)), (1, .int a1)] := hl
  unfold f_X6_best at h
  refine lv_aload_n hx hb dX6_best_0 rfl (lv_at hl 0 rfl) ?_
  replace h := gd_some h
  obtain ⟨g1, h⟩ := h
  replace h := bd_some h
  obtain ⟨q2, eq2, h⟩ := h
  refine r_getR hx hb hts iw6 hown hK hw o0 0 g1 (by decide) rfl (by decide) rfl (hq _ qw336) (fun _ h9 => h9) dX6_best_1 eq2 ?_
  refine lv_iload_n hx hb dX6_best_4 rfl (lv_at hl 1 rfl) ?_
  replace h := gd_some h
  obtain ⟨g4, h⟩ := h
  replace h := bd_some h
  obtain ⟨r3, er3, h⟩ := h
  refine r_callVi (As := [.int a1]) (rest := []) hF (c_X1_hasSide l D cy ad adK adV M q2 a1 r3 er3) (gW_goodV hcm qw391 qw388 qw389 qw390 qw62) hdX1_hasSide rfl ⟨Nat.le_of_ble_eq_true rfl, Nat.le_of_ble_eq_true rfl⟩ rfl rfl hZ hK hw g4 (by decide) rfl rfl hl.1 rfl (Nat.le_of_ble_eq_true rfl) ⟨Nat.zero_le _, Nat.zero_le _⟩ dX6_best_5 (fun H locs hw => ?_)
  refine lv_if_ne (tgt := 17) hx hb dX6_best_8 (by decide) (fun c5 => ?_) (fun c5 => ?_)
  · replace h := if_some_f c5 h
    refine lv_aload_n hx hb dX6_best_17 rfl (lv_at hl 0 rfl) ?_
    replace h := bd_some h
    obtain ⟨q6, eq6, h⟩ := h
    refine r_getR hx hb hts iw6 hown hK hw o0 0 g1 (by decide) rfl (by decide) rfl (hq _ qw336) (fun _ h9 => h9) dX6_best_18 eq6 ?_
    replace h := gd_some h
    obtain ⟨g8, h⟩ := h
    replace h := bd_some h
    obtain ⟨r7, er7, h⟩ := h
    refine r_callVi (As := []) (rest := []) hF (c_X1_allPlayed l D cy ad adK adV r3.1 q6 r7 er7) (gW_goodV hcm qw592 qw589 qw590 qw591 qw62) hdX1_allPlayed rfl ⟨Nat.le_of_ble_eq_true rfl, Nat.le_of_ble_eq_true rfl⟩ rfl rfl hZ hK hw g8 (by decide) rfl rfl hl.1 rfl (Nat.le_of_ble_eq_true rfl) ⟨Nat.zero_le _, Nat.zero_le _⟩ dX6_best_21 (fun H locs hw => ?_)
    refine lv_if_eq (tgt := 33) hx hb dX6_best_24 (by decide) (fun c9 => ?_) (fun c9 => ?_)
    · replace h := if_some_t c9 h
      refine lv_aload_n hx hb dX6_best_33 rfl (lv_at hl 0 rfl) ?_
      replace h := bd_some h
      obtain ⟨q10, eq10, h⟩ := h
      refine r_getR hx hb hts iw6 hown hK hw o0 0 g1 (by decide) rfl (by decide) rfl (hq _ qw336) (fun _ h9 => h9) dX6_best_34 eq10 ?_
      replace h := gd_some h
      obtain ⟨g11, h⟩ := h
      replace h := bd_some h
      obtain ⟨q12, eq12, h⟩ := h
      refine r_getR hx hb hts iw1 hown hK hw q10 1 g11 (by decide) rfl (by decide) rfl (hq _ qw187) (fun _ h9 => h9) dX6_best_37 eq12 ?_
      refine lv_aload_n hx hb dX6_best_40 rfl (lv_at hl 0 rfl) ?_
      replace h := bd_some h
      obtain ⟨q13, eq13, h⟩ := h
      refine r_getR hx hb hts iw6 hown hK hw o0 0 g1 (by decide) rfl (by decide) rfl (hq _ qw336) (fun _ h9 => h9) dX6_best_41 eq13 ?_
      replace h := gd_some h
      obtain ⟨g14, h⟩ := h
      refine r_getI hx hb hts iw1 hown hK hw q13 5 g14 (by decide) rfl (by decide) rfl (hq _ qw200) (fun _ h9 => h9) dX6_best_44 ?_
      replace h := gd_some h
      obtain ⟨g15, h⟩ := h
      replace h := bd_some h
      obtain ⟨q16, eq16, h⟩ := h
      refine r_aald hx hb hK hw q12 3 (by decide) rfl g15 dX6_best_47 eq16 ?_
      refine lv_iload_n hx hb dX6_best_48 rfl (lv_at hl 1 rfl) ?_
      replace h := gd_some h
      obtain ⟨g18, h⟩ := h
      replace h := bd_some h
      obtain ⟨r17, er17, h⟩ := h
      refine r_callVi (As := [.int a1]) (rest := []) hF (c_X0_isOf l D cy ad adK adV r7.1 q16 a1 r17 er17) (gW_goodV hcm qw403 qw619 qw401 qw402 qw64) hdX0_isOf rfl ⟨Nat.le_of_ble_eq_true rfl, Nat.le_of_ble_eq_true rfl⟩ rfl rfl hZ hK hw g18 (by decide) rfl rfl hl.1 rfl (Nat.le_of_ble_eq_true rfl) ⟨Nat.zero_le _, Nat.zero_le _⟩ dX6_best_49 (fun H locs hw => ?_)
      refine lv_if_ne (tgt := 61) hx hb dX6_best_52 (by decide) (fun c19 => ?_) (fun c19 => ?_)
      · replace h := if_some_f c19 h
        refine lv_aload_n hx hb dX6_best_61 rfl (lv_at hl 0 rfl) ?_
        refine lv_iload_n hx hb dX6_best_62 rfl (lv_at hl 1 rfl) ?_
        refine lv_iconst (v := (3 : Int32)) hx hb dX6_best_63 (by decide) ?_
        refine lv_iconst (v := (0 : Int32)) hx hb dX6_best_64 (by decide) ?_
        refine lv_iconst (v := (3 : Int32)) hx hb dX6_best_65 (by decide) ?_
        replace h := bd_some h
        obtain ⟨r20, er20, h⟩ := h
        refine r_callVi (As := [.int a1, .int (3 : Int32), .int (0 : Int32), .int (3 : Int32)]) (rest := []) hF (c_X6_greatestMean l D cy ad adK adV r17.1 o0 a1 (3 : Int32) (0 : Int32) (3 : Int32) r20 er20) (gW_goodV hcm qw739 qw736 qw738 qw15 qw61) hdX6_greatestMean rfl ⟨Nat.le_of_ble_eq_true rfl, Nat.le_of_ble_eq_true rfl⟩ rfl rfl hZ hK hw g1 (by decide) rfl rfl hl.1 rfl (Nat.le_of_ble_eq_true rfl) ⟨Nat.zero_le _, Nat.zero_le _⟩ dX6_best_66 (fun H locs hw => ?_)
        exact r_iret hx hb hr rfl hlocks hZ hK hw h dX6_best_69
      · replace h := if_some_t c19 h
        refine lv_aload_n hx hb dX6_best_55 rfl (lv_at hl 0 rfl) ?_
        refine lv_iconst (v := (4 : Int32)) hx hb dX6_best_56 (by decide) ?_
        replace h := bd_some h
        obtain ⟨r21, er21, h⟩ := h
        refine r_callVi (As := [.int (4 : Int32)]) (rest := []) hF (c_X6_finding l D cy ad adK adV r17.1 o0 (4 : Int32) r21 er21) (gW_goodV hcm qw374 qw371 qw373 qw0 qw61) hdX6_finding rfl ⟨Nat.le_of_ble_eq_true rfl, Nat.le_of_ble_eq_true rfl⟩ rfl rfl hZ hK hw g1 (by decide) rfl rfl hl.1 rfl (Nat.le_of_ble_eq_true rfl) ⟨Nat.zero_le _, Nat.zero_le _⟩ dX6_best_57 (fun H locs hw => ?_)
        exact r_iret hx hb hr rfl hlocks hZ hK hw h dX6_best_60
    · replace h := if_some_f c9 h
      refine lv_aload_n hx hb dX6_best_27 rfl (lv_at hl 0 rfl) ?_
      refine lv_iconst (v := (3 : Int32)) hx hb dX6_best_28 (by decide) ?_
      replace h := bd_some h
      obtain ⟨r22, er22, h⟩ := h
      refine r_callVi (As := [.int (3 : Int32)]) (rest := []) hF (c_X6_finding l D cy ad adK adV r7.1 o0 (3 : Int32) r22 er22) (gW_goodV hcm qw374 qw371 qw373 qw0 qw61) hdX6_finding rfl ⟨Nat.le_of_ble_eq_true rfl, Nat.le_of_ble_eq_true rfl⟩ rfl rfl hZ hK hw g1 (by decide) rfl rfl hl.1 rfl (Nat.le_of_ble_eq_true rfl) ⟨Nat.zero_le _, Nat.zero_le _⟩ dX6_best_29 (fun H locs hw => ?_)
      exact r_iret hx hb hr rfl hlocks hZ hK hw h dX6_best_32
  · replace h := if_some_t c5 h
    refine lv_aload_n hx hb dX6_best_11 rfl (lv_at hl 0 rfl) ?_
    refine lv_iconst (v := (0 : Int32)) hx hb dX6_best_12 (by decide) ?_
    replace h := bd_some h
    obtain ⟨r23, er23, h⟩ := h
    refine r_callVi (As := [.int (0 : Int32)]) (rest := []) hF (c_X6_finding l D cy ad adK adV r3.1 o0 (0 : Int32) r23 er23) (gW_goodV hcm qw374 qw371 qw373 qw0 qw61) hdX6_finding rfl ⟨Nat.le_of_ble_eq_true rfl, Nat.le_of_ble_eq_true rfl⟩ rfl rfl hZ hK hw g1 (by decide) rfl rfl hl.1 rfl (Nat.le_of_ble_eq_true rfl) ⟨Nat.zero_le _, Nat.zero_le _⟩ dX6_best_13 (fun H locs hw => ?_)
    exact r_iret hx hb hr rfl hlocks hZ hK hw h dX6_best_16
theorem dX6_kindFor_0 : decode cX6_kindFor 0 = .ok (.aload_n 0, 1) := by decide +kernel
theorem dX6_kindFor_1 : decode cX6_kindFor 1 = .ok (.getfield 10, 3) := by decide +kernel
theorem dX6_kindFor_4 : decode cX6_kindFor 4 = .ok (.iload_n 1, 1) := by decide +kernel
theorem dX6_kindFor_5 : decode cX6_kindFor 5 = .ok (.invokevirtual 71, 3) := by decide +kernel
theorem dX6_kindFor_8 : decode cX6_kindFor 8 = .ok (.ifCond .ne 9, 3) := by decide +kernel
theorem dX6_kindFor_11 : decode cX6_kindFor 11 = .ok (.aload_n 0, 1) := by decide +kernel
theorem dX6_kindFor_12 : decode cX6_kindFor 12 = .ok (.iconst 0, 1) := by decide +kernel
theorem dX6_kindFor_13 : decode cX6_kindFor 13 = .ok (.invokevirtual 59, 3) := by decide +kernel
theorem dX6_kindFor_16 : decode cX6_kindFor 16 = .ok (.ireturn, 1) := by decide +kernel
theorem dX6_kindFor_17 : decode cX6_kindFor 17 = .ok (.aload_n 0, 1) := by decide +kernel
theorem dX6_kindFor_18 : decode cX6_kindFor 18 = .ok (.iload_n 1, 1) := by decide +kernel
theorem dX6_kindFor_19 : decode cX6_kindFor 19 = .ok (.iconst 0, 1) := by decide +kernel
theorem dX6_kindFor_20 : decode cX6_kindFor 20 = .ok (.iconst 0, 1) := by decide +kernel
theorem dX6_kindFor_21 : decode cX6_kindFor 21 = .ok (.bipush 6, 2) := by decide +kernel
theorem dX6_kindFor_23 : decode cX6_kindFor 23 = .ok (.invokevirtual 229, 3) := by decide +kernel
theorem dX6_kindFor_26 : decode cX6_kindFor 26 = .ok (.ireturn, 1) := by decide +kernel
set_option maxHeartbeats 4000000 in
set_option maxRecDepth 100000 in
theorem c_X6_kindFor (l : Launch) (D : va_G) (cy : Nat → ClassId) (ad adK adV : Nat → Nat) (M : Mm) (o0 : Nat) (a1 : Int32) (res : Mm × Int32) (h : f_X6_kindFor M o0 a1 = some res) : Met l yX6_kindFor (wU yX6_kindFor cX6_kindFor 2 (some .int)) rmX6_kindFor (va_Pc [.ref (ad o0), .int a1] (Pre D cy shX ad nX adK adV M)) (va_Qi (fun r (M2 : Mm) => r = res.2 ∧ M2 = res.1) (Pre D cy shX ad nX adK adV) (Aw ad nX)) 0 0 (Aw ad nX) := by
  refine Met.ofW (cc := cX6_kindFor) (maxL := 2) (ret := (some .int)) (by decide) rfl ?_
  intro p e s m args below meth c s₁ B hml hv
  obtain ⟨hargs, hPre⟩ := hv
  have hx := B.exec
  have hb := B.bytes
  have hr := B.returns
  have hts := atoms_spec (ws := wU yX6_kindFor cX6_kindFor 2 (some .int)) B.pre
  have hq : ∀ w ∈ gW, w.before args s = true := fun w hw => hts w (List.mem_cons_of_mem _ hw)
  have hcm : ∀ w ∈ gW, w ∈ wU yX6_kindFor cX6_kindFor 2 (some .int) := fun w hw => List.mem_cons_of_mem _ hw
  have hown : s.vm.findClass RX6 = some m.cls := findClass_of_methodNamed B.named
  have hlocks := B.notSynchronized
  have hF : CallFix p m c cX6_kindFor 2 s args (wU yX6_kindFor cX6_kindFor 2 (some .int)) RX6 := ⟨hx, hb, hml, hown, hts⟩
  have hK := hPre.2.1
  have hZ := hPre.2.2.2
  have hw : Wd D cy shX ad nX (Aw ad nX) s.heap M s.heap [] := ⟨hPre.1, hPre.2.2.1, va_S.rf⟩
  have iw6 : ∀ w ∈ u_ws RX6 TX6 8, w ∈ wU yX6_kindFor cX6_kindFor 2 (some .int) := fun w hw => List.mem_cons_of_mem _ (iX6 w hw)
  rw [show entryFrame m args 2 = entryFrame m ([.ref (ad o0), .int a1] : List Value).toArray 2 from by rw [hargs]]
  have hl := lv_entry ([.ref (ad o0), .int a1]) (n := 2) (Nat.le_of_ble_eq_true rfl)
  rw [lg_entry_eq]
  generalize (lg_sl ([.ref (ad o0), .int a1]) ++ List.replicate (2 - (lg_sl ([.ref (ad o0), .int a1])).length) Slot.unset).toArray = ls at hl ⊢
  have hl : lv_has ls 2 [(0, .ref (ad o0)), (1, .int a1)] := hl
  unfold f_X6_kindFor at h
  refine lv_aload_n hx hb dX6_kindFor_0 rfl (lv_at hl 0 rfl) ?_
  replace h := gd_some h
  obtain ⟨g1, h⟩ := h
  replace h := bd_some h
  obtain ⟨q2, eq2, h⟩ := h
  refine r_getR hx hb hts iw6 hown hK hw o0 0 g1 (by decide) rfl (by decide) rfl (hq _ qw336) (fun _ h9 => h9) dX6_kindFor_1 eq2 ?_
  refine lv_iload_n hx hb dX6_kindFor_4 rfl (lv_at hl 1 rfl) ?_
  replace h := gd_some h
  obtain ⟨g4, h⟩ := h
  replace h := bd_some h
  obtain ⟨r3, er3, h⟩ := h
  refine r_callVi (As := [.int a1]) (rest := []) hF (c_X1_hasSide l D cy ad adK adV M q2 a1 r3 er3) (gW_goodV hcm qw391 qw388 qw389 qw390 qw62) hdX1_hasSide rfl ⟨Nat.le_of_ble_eq_true rfl, Nat.le_of_ble_eq_true rfl⟩ rfl rfl hZ hK hw g4 (by decide) rfl rfl hl.1 rfl (Nat.le_of_ble_eq_true rfl) ⟨Nat.zero_le _, Nat.zero_le _⟩ dX6_kindFor_5 (fun H locs hw => ?_)
  refine lv_if_ne (tgt := 17) hx hb dX6_kindFor_8 (by decide) (fun c5 => ?_) (fun c5 => ?_)
  · replace h := if_some_f c5 h
    refine lv_aload_n hx hb dX6_kindFor_17 rfl (lv_at hl 0 rfl) ?_
    refine lv_iload_n hx hb dX6_kindFor_18 rfl (lv_at hl 1 rfl) ?_
    refine lv_iconst (v := (0 : Int32)) hx hb dX6_kindFor_19 (by decide) ?_
    refine lv_iconst (v := (0 : Int32)) hx hb dX6_kindFor_20 (by decide) ?_
    refine lv_bipush (v := (6 : Int32)) hx hb dX6_kindFor_21 (by decide) ?_
    replace h := bd_some h
    obtain ⟨r6, er6, h⟩ := h
    refine r_callVi (As := [.int a1, .int (0 : Int32), .int (0 : Int32), .int (6 : Int32)]) (rest := []) hF (c_X6_greatestMean l D cy ad adK adV r3.1 o0 a1 (0 : Int32) (0 : Int32) (6 : Int32) r6 er6) (gW_goodV hcm qw739 qw736 qw738 qw15 qw61) hdX6_greatestMean rfl ⟨Nat.le_of_ble_eq_true rfl, Nat.le_of_ble_eq_true rfl⟩ rfl rfl hZ hK hw g1 (by decide) rfl rfl hl.1 rfl (Nat.le_of_ble_eq_true rfl) ⟨Nat.zero_le _, Nat.zero_le _⟩ dX6_kindFor_23 (fun H locs hw => ?_)
    exact r_iret hx hb hr rfl hlocks hZ hK hw h dX6_kindFor_26
  · replace h := if_some_t c5 h
    refine lv_aload_n hx hb dX6_kindFor_11 rfl (lv_at hl 0 rfl) ?_
    refine lv_iconst (v := (0 : Int32)) hx hb dX6_kindFor_12 (by decide) ?_
    replace h := bd_some h
    obtain ⟨r7, er7, h⟩ := h
    refine r_callVi (As := [.int (0 : Int32)]) (rest := []) hF (c_X6_finding l D cy ad adK adV r3.1 o0 (0 : Int32) r7 er7) (gW_goodV hcm qw374 qw371 qw373 qw0 qw61) hdX6_finding rfl ⟨Nat.le_of_ble_eq_true rfl, Nat.le_of_ble_eq_true rfl⟩ rfl rfl hZ hK hw g1 (by decide) rfl rfl hl.1 rfl (Nat.le_of_ble_eq_true rfl) ⟨Nat.zero_le _, Nat.zero_le _⟩ dX6_kindFor_13 (fun H locs hw => ?_)
    exact r_iret hx hb hr rfl hlocks hZ hK hw h dX6_kindFor_16
theorem dX6_tellsFor_0 : decode cX6_tellsFor 0 = .ok (.aload_n 0, 1) := by decide +kernel
theorem dX6_tellsFor_1 : decode cX6_tellsFor 1 = .ok (.getfield 10, 3) := by decide +kernel
theorem dX6_tellsFor_4 : decode cX6_tellsFor 4 = .ok (.iload_n 1, 1) := by decide +kernel
theorem dX6_tellsFor_5 : decode cX6_tellsFor 5 = .ok (.invokevirtual 71, 3) := by decide +kernel
theorem dX6_tellsFor_8 : decode cX6_tellsFor 8 = .ok (.ifCond .ne 9, 3) := by decide +kernel
theorem dX6_tellsFor_11 : decode cX6_tellsFor 11 = .ok (.aload_n 0, 1) := by decide +kernel
theorem dX6_tellsFor_12 : decode cX6_tellsFor 12 = .ok (.iconst 0, 1) := by decide +kernel
theorem dX6_tellsFor_13 : decode cX6_tellsFor 13 = .ok (.invokevirtual 59, 3) := by decide +kernel
theorem dX6_tellsFor_16 : decode cX6_tellsFor 16 = .ok (.ireturn, 1) := by decide +kernel
theorem dX6_tellsFor_17 : decode cX6_tellsFor 17 = .ok (.aload_n 0, 1) := by decide +kernel
theorem dX6_tellsFor_18 : decode cX6_tellsFor 18 = .ok (.iload_n 1, 1) := by decide +kernel
theorem dX6_tellsFor_19 : decode cX6_tellsFor 19 = .ok (.iconst 1, 1) := by decide +kernel
theorem dX6_tellsFor_20 : decode cX6_tellsFor 20 = .ok (.iconst 0, 1) := by decide +kernel
theorem dX6_tellsFor_21 : decode cX6_tellsFor 21 = .ok (.bipush 9, 2) := by decide +kernel
theorem dX6_tellsFor_23 : decode cX6_tellsFor 23 = .ok (.invokevirtual 229, 3) := by decide +kernel
theorem dX6_tellsFor_26 : decode cX6_tellsFor 26 = .ok (.ireturn, 1) := by decide +kernel
set_option maxHeartbeats 4000000 in
set_option maxRecDepth 100000 in
theorem c_X6_tellsFor (l : Launch) (D : va_G) (cy : Nat → ClassId) (ad adK adV : Nat → Nat) (M : Mm) (o0 : Nat) (a1 : Int32) (res : Mm × Int32) (h : f_X6_tellsFor M o0 a1 = some res) : Met l yX6_tellsFor (wU yX6_tellsFor cX6_tellsFor 2 (some .int)) rmX6_tellsFor (va_Pc [.ref (ad o0), .int a1] (Pre D cy shX ad nX adK adV M)) (va_Qi (fun r (M2 : Mm) => r = res.2 ∧ M2 = res.1) (Pre D cy shX ad nX adK adV) (Aw ad nX)) 0 0 (Aw ad nX) := by
  refine Met.ofW (cc := cX6_tellsFor) (maxL := 2) (ret := (some .int)) (by decide) rfl ?_
  intro p e s m args below meth c s₁ B hml hv
  obtain ⟨hargs, hPre⟩ := hv
  have hx := B.exec
  have hb := B.bytes
  have hr := B.returns
  have hts := atoms_spec (ws := wU yX6_tellsFor cX6_tellsFor 2 (some .int)) B.pre
  have hq : ∀ w ∈ gW, w.before args s = true := fun w hw => hts w (List.mem_cons_of_mem _ hw)
  have hcm : ∀ w ∈ gW, w ∈ wU yX6_tellsFor cX6_tellsFor 2 (some .int) := fun w hw => List.mem_cons_of_mem _ hw
  have hown : s.vm.findClass RX6 = some m.cls := findClass_of_methodNamed B.named
  have hlocks := B.notSynchronized
  have hF : CallFix p m c cX6_tellsFor 2 s args (wU yX6_tellsFor cX6_tellsFor 2 (some .int)) RX6 := ⟨hx, hb, hml, hown, hts⟩
  have hK := hPre.2.1
  have hZ := hPre.2.2.2
  have hw : Wd D cy shX ad nX (Aw ad nX) s.heap M s.heap [] := ⟨hPre.1, hPre.2.2.1, va_S.rf⟩
  have iw6 : ∀ w ∈ u_ws RX6 TX6 8, w ∈ wU yX6_tellsFor cX6_tellsFor 2 (some .int) := fun w hw => List.mem_cons_of_mem _ (iX6 w hw)
  rw [show entryFrame m args 2 = entryFrame m ([.ref (ad o0), .int a1] : List Value).toArray 2 from by rw [hargs]]
  have hl := lv_entry ([.ref (ad o0), .int a1]) (n := 2) (Nat.le_of_ble_eq_true rfl)
  rw [lg_entry_eq]
  generalize (lg_sl ([.ref (ad o0), .int a1]) ++ List.replicate (2 - (lg_sl ([.ref (ad o0), .int a1])).length) Slot.unset).toArray = ls at hl ⊢
  have hl : lv_has ls 2 [(0, .ref (ad o0)), (1, .int a1)] := hl
  unfold f_X6_tellsFor at h
  refine lv_aload_n hx hb dX6_tellsFor_0 rfl (lv_at hl 0 rfl) ?_
  replace h := gd_some h
  obtain ⟨g1, h⟩ := h
  replace h := bd_some h
  obtain ⟨q2, eq2, h⟩ := h
  refine r_getR hx hb hts iw6 hown hK hw o0 0 g1 (by decide) rfl (by decide) rfl (hq _ qw336) (fun _ h9 => h9) dX6_tellsFor_1 eq2 ?_
  refine lv_iload_n hx hb dX6_tellsFor_4 rfl (lv_at hl 1 rfl) ?_
  replace h := gd_some h
  obtain ⟨g4, h⟩ := h
  replace h := bd_some h
  obtain ⟨r3, er3, h⟩ := h
  refine r_callVi (As := [.int a1]) (rest := []) hF (c_X1_hasSide l D cy ad adK adV M q2 a1 r3 er3) (gW_goodV hcm qw391 qw388 qw389 qw390 qw62) hdX1_hasSide rfl ⟨Nat.le_of_ble_eq_true rfl, Nat.le_of_ble_eq_true rfl⟩ rfl rfl hZ hK hw g4 (by decide) rfl rfl hl.1 rfl (Nat.le_of_ble_eq_true rfl) ⟨Nat.zero_le _, Nat.zero_le _⟩ dX6_tellsFor_5 (fun H locs hw => ?_)
  refine lv_if_ne (tgt := 17) hx hb dX6_tellsFor_8 (by decide) (fun c5 => ?_) (fun c5 => ?_)
  · replace h := if_some_f c5 h
    refine lv_aload_n hx hb dX6_tellsFor_17 rfl (lv_at hl 0 rfl) ?_
    refine lv_iload_n hx hb dX6_tellsFor_18 rfl (lv_at hl 1 rfl) ?_
    refine lv_iconst (v := (1 : Int32)) hx hb dX6_tellsFor_19 (by decide) ?_
    refine lv_iconst (v := (0 : Int32)) hx hb dX6_tellsFor_20 (by decide) ?_
    refine lv_bipush (v := (9 : Int32)) hx hb dX6_tellsFor_21 (by decide) ?_
    replace h := bd_some h
    obtain ⟨r6, er6, h⟩ := h
    refine r_callVi (As := [.int a1, .int (1 : Int32), .int (0 : Int32), .int (9 : Int32)]) (rest := []) hF (c_X6_greatestMean l D cy ad adK adV r3.1 o0 a1 (1 : Int32) (0 : Int32) (9 : Int32) r6 er6) (gW_goodV hcm qw739 qw736 qw738 qw15 qw61) hdX6_greatestMean rfl ⟨Nat.le_of_ble_eq_true rfl, Nat.le_of_ble_eq_true rfl⟩ rfl rfl hZ hK hw g1 (by decide) rfl rfl hl.1 rfl (Nat.le_of_ble_eq_true rfl) ⟨Nat.zero_le _, Nat.zero_le _⟩ dX6_tellsFor_23 (fun H locs hw => ?_)
    exact r_iret hx hb hr rfl hlocks hZ hK hw h dX6_tellsFor_26
  · replace h := if_some_t c5 h
    refine lv_aload_n hx hb dX6_tellsFor_11 rfl (lv_at hl 0 rfl) ?_
    refine lv_iconst (v := (0 : Int32)) hx hb dX6_tellsFor_12 (by decide) ?_
    replace h := bd_some h
    obtain ⟨r7, er7, h⟩ := h
    refine r_callVi (As := [.int (0 : Int32)]) (rest := []) hF (c_X6_finding l D cy ad adK adV r3.1 o0 (0 : Int32) r7 er7) (gW_goodV hcm qw374 qw371 qw373 qw0 qw61) hdX6_finding rfl ⟨Nat.le_of_ble_eq_true rfl, Nat.le_of_ble_eq_true rfl⟩ rfl rfl hZ hK hw g1 (by decide) rfl rfl hl.1 rfl (Nat.le_of_ble_eq_true rfl) ⟨Nat.zero_le _, Nat.zero_le _⟩ dX6_tellsFor_13 (fun H locs hw => ?_)
    exact r_iret hx hb hr rfl hlocks hZ hK hw h dX6_tellsFor_16
theorem dX6_arrangeTrial_0 : decode cX6_arrangeTrial 0 = .ok (.iload_n 1, 1) := by decide +kernel
theorem dX6_arrangeTrial_1 : decode cX6_arrangeTrial 1 = .ok (.istore_n 3, 1) := by decide +kernel
theorem dX6_arrangeTrial_2 : decode cX6_arrangeTrial 2 = .ok (.iconst 0, 1) := by decide +kernel
theorem dX6_arrangeTrial_3 : decode cX6_arrangeTrial 3 = .ok (.istore 4, 2) := by decide +kernel
theorem dX6_arrangeTrial_5 : decode cX6_arrangeTrial 5 = .ok (.iconst 0, 1) := by decide +kernel
theorem dX6_arrangeTrial_6 : decode cX6_arrangeTrial 6 = .ok (.istore 5, 2) := by decide +kernel
theorem dX6_arrangeTrial_8 : decode cX6_arrangeTrial 8 = .ok (.iconst 1, 1) := by decide +kernel
theorem dX6_arrangeTrial_9 : decode cX6_arrangeTrial 9 = .ok (.istore 6, 2) := by decide +kernel
theorem dX6_arrangeTrial_11 : decode cX6_arrangeTrial 11 = .ok (.iload_n 2, 1) := by decide +kernel
theorem dX6_arrangeTrial_12 : decode cX6_arrangeTrial 12 = .ok (.iconst 1, 1) := by decide +kernel
theorem dX6_arrangeTrial_13 : decode cX6_arrangeTrial 13 = .ok (.isub, 1) := by decide +kernel
theorem dX6_arrangeTrial_14 : decode cX6_arrangeTrial 14 = .ok (.istore 7, 2) := by decide +kernel
theorem dX6_arrangeTrial_16 : decode cX6_arrangeTrial 16 = .ok (.iload 7, 2) := by decide +kernel
theorem dX6_arrangeTrial_18 : decode cX6_arrangeTrial 18 = .ok (.ifCond .lt 91, 3) := by decide +kernel
theorem dX6_arrangeTrial_21 : decode cX6_arrangeTrial 21 = .ok (.iload_n 3, 1) := by decide +kernel
theorem dX6_arrangeTrial_22 : decode cX6_arrangeTrial 22 = .ok (.iload_n 2, 1) := by decide +kernel
theorem dX6_arrangeTrial_23 : decode cX6_arrangeTrial 23 = .ok (.irem, 1) := by decide +kernel
theorem dX6_arrangeTrial_24 : decode cX6_arrangeTrial 24 = .ok (.istore 8, 2) := by decide +kernel
theorem dX6_arrangeTrial_26 : decode cX6_arrangeTrial 26 = .ok (.iload_n 3, 1) := by decide +kernel
theorem dX6_arrangeTrial_27 : decode cX6_arrangeTrial 27 = .ok (.iload_n 2, 1) := by decide +kernel
theorem dX6_arrangeTrial_28 : decode cX6_arrangeTrial 28 = .ok (.idiv, 1) := by decide +kernel
theorem dX6_arrangeTrial_29 : decode cX6_arrangeTrial 29 = .ok (.istore_n 3, 1) := by decide +kernel
theorem dX6_arrangeTrial_30 : decode cX6_arrangeTrial 30 = .ok (.iload 4, 2) := by decide +kernel
theorem dX6_arrangeTrial_32 : decode cX6_arrangeTrial 32 = .ok (.iconst 1, 1) := by decide +kernel
theorem dX6_arrangeTrial_33 : decode cX6_arrangeTrial 33 = .ok (.iload 8, 2) := by decide +kernel
theorem dX6_arrangeTrial_35 : decode cX6_arrangeTrial 35 = .ok (.ishl, 1) := by decide +kernel
theorem dX6_arrangeTrial_36 : decode cX6_arrangeTrial 36 = .ok (.ior, 1) := by decide +kernel
theorem dX6_arrangeTrial_37 : decode cX6_arrangeTrial 37 = .ok (.istore 4, 2) := by decide +kernel
theorem dX6_arrangeTrial_39 : decode cX6_arrangeTrial 39 = .ok (.iload 5, 2) := by decide +kernel
theorem dX6_arrangeTrial_41 : decode cX6_arrangeTrial 41 = .ok (.aload_n 0, 1) := by decide +kernel
theorem dX6_arrangeTrial_42 : decode cX6_arrangeTrial 42 = .ok (.getfield 10, 3) := by decide +kernel
theorem dX6_arrangeTrial_45 : decode cX6_arrangeTrial 45 = .ok (.getfield 117, 3) := by decide +kernel
theorem dX6_arrangeTrial_48 : decode cX6_arrangeTrial 48 = .ok (.iload 8, 2) := by decide +kernel
theorem dX6_arrangeTrial_50 : decode cX6_arrangeTrial 50 = .ok (.iadd, 1) := by decide +kernel
theorem dX6_arrangeTrial_51 : decode cX6_arrangeTrial 51 = .ok (.iload 6, 2) := by decide +kernel
theorem dX6_arrangeTrial_53 : decode cX6_arrangeTrial 53 = .ok (.imul, 1) := by decide +kernel
theorem dX6_arrangeTrial_54 : decode cX6_arrangeTrial 54 = .ok (.iadd, 1) := by decide +kernel
theorem dX6_arrangeTrial_55 : decode cX6_arrangeTrial 55 = .ok (.istore 5, 2) := by decide +kernel
theorem dX6_arrangeTrial_57 : decode cX6_arrangeTrial 57 = .ok (.iload 6, 2) := by decide +kernel
theorem dX6_arrangeTrial_59 : decode cX6_arrangeTrial 59 = .ok (.bipush 10, 2) := by decide +kernel
theorem dX6_arrangeTrial_61 : decode cX6_arrangeTrial 61 = .ok (.imul, 1) := by decide +kernel
theorem dX6_arrangeTrial_62 : decode cX6_arrangeTrial 62 = .ok (.istore 6, 2) := by decide +kernel
theorem dX6_arrangeTrial_64 : decode cX6_arrangeTrial 64 = .ok (.aload_n 0, 1) := by decide +kernel
theorem dX6_arrangeTrial_65 : decode cX6_arrangeTrial 65 = .ok (.getfield 31, 3) := by decide +kernel
theorem dX6_arrangeTrial_68 : decode cX6_arrangeTrial 68 = .ok (.getfield 120, 3) := by decide +kernel
theorem dX6_arrangeTrial_71 : decode cX6_arrangeTrial 71 = .ok (.aload_n 0, 1) := by decide +kernel
theorem dX6_arrangeTrial_72 : decode cX6_arrangeTrial 72 = .ok (.getfield 10, 3) := by decide +kernel
theorem dX6_arrangeTrial_75 : decode cX6_arrangeTrial 75 = .ok (.getfield 117, 3) := by decide +kernel
theorem dX6_arrangeTrial_78 : decode cX6_arrangeTrial 78 = .ok (.iload 7, 2) := by decide +kernel
theorem dX6_arrangeTrial_80 : decode cX6_arrangeTrial 80 = .ok (.iadd, 1) := by decide +kernel
theorem dX6_arrangeTrial_81 : decode cX6_arrangeTrial 81 = .ok (.aaload, 1) := by decide +kernel
theorem dX6_arrangeTrial_82 : decode cX6_arrangeTrial 82 = .ok (.aload_n 0, 1) := by decide +kernel
theorem dX6_arrangeTrial_83 : decode cX6_arrangeTrial 83 = .ok (.getfield 10, 3) := by decide +kernel
theorem dX6_arrangeTrial_86 : decode cX6_arrangeTrial 86 = .ok (.getfield 120, 3) := by decide +kernel
theorem dX6_arrangeTrial_89 : decode cX6_arrangeTrial 89 = .ok (.aload_n 0, 1) := by decide +kernel
theorem dX6_arrangeTrial_90 : decode cX6_arrangeTrial 90 = .ok (.getfield 10, 3) := by decide +kernel
theorem dX6_arrangeTrial_93 : decode cX6_arrangeTrial 93 = .ok (.getfield 117, 3) := by decide +kernel
theorem dX6_arrangeTrial_96 : decode cX6_arrangeTrial 96 = .ok (.iload 8, 2) := by decide +kernel
theorem dX6_arrangeTrial_98 : decode cX6_arrangeTrial 98 = .ok (.iadd, 1) := by decide +kernel
theorem dX6_arrangeTrial_99 : decode cX6_arrangeTrial 99 = .ok (.aaload, 1) := by decide +kernel
theorem dX6_arrangeTrial_100 : decode cX6_arrangeTrial 100 = .ok (.invokevirtual 309, 3) := by decide +kernel
theorem dX6_arrangeTrial_103 : decode cX6_arrangeTrial 103 = .ok (.iinc 7 (-1), 3) := by decide +kernel
theorem dX6_arrangeTrial_106 : decode cX6_arrangeTrial 106 = .ok (.goto (-90), 3) := by decide +kernel
theorem dX6_arrangeTrial_109 : decode cX6_arrangeTrial 109 = .ok (.iload 4, 2) := by decide +kernel
theorem dX6_arrangeTrial_111 : decode cX6_arrangeTrial 111 = .ok (.iconst 1, 1) := by decide +kernel
theorem dX6_arrangeTrial_112 : decode cX6_arrangeTrial 112 = .ok (.iload_n 2, 1) := by decide +kernel
theorem dX6_arrangeTrial_113 : decode cX6_arrangeTrial 113 = .ok (.ishl, 1) := by decide +kernel
theorem dX6_arrangeTrial_114 : decode cX6_arrangeTrial 114 = .ok (.iconst 1, 1) := by decide +kernel
theorem dX6_arrangeTrial_115 : decode cX6_arrangeTrial 115 = .ok (.isub, 1) := by decide +kernel
theorem dX6_arrangeTrial_116 : decode cX6_arrangeTrial 116 = .ok (.if_icmp .ne 8, 3) := by decide +kernel
theorem dX6_arrangeTrial_119 : decode cX6_arrangeTrial 119 = .ok (.iload 5, 2) := by decide +kernel
theorem dX6_arrangeTrial_121 : decode cX6_arrangeTrial 121 = .ok (.goto 4, 3) := by decide +kernel
theorem dX6_arrangeTrial_124 : decode cX6_arrangeTrial 124 = .ok (.iconst (-1), 1) := by decide +kernel
theorem dX6_arrangeTrial_125 : decode cX6_arrangeTrial 125 = .ok (.ireturn, 1) := by decide +kernel
set_option maxHeartbeats 4000000 in
set_option maxRecDepth 100000 in
theorem c_X6_arrangeTrial (l : Launch) (D : va_G) (cy : Nat → ClassId) (ad adK adV : Nat → Nat) (M : Mm) (o0 : Nat) (a1 : Int32) (a2 : Int32) (res : Mm × Int32) (h : f_X6_arrangeTrial M o0 a1 a2 = some res) : Met l yX6_arrangeTrial (wU yX6_arrangeTrial cX6_arrangeTrial 9 (some .int)) rmX6_arrangeTrial (va_Pc [.ref (ad o0), .int a1, .int a2] (Pre D cy shX ad nX adK adV M)) (va_Qi (fun r (M2 : Mm) => r = res.2 ∧ M2 = res.1) (Pre D cy shX ad nX adK adV) (Aw ad nX)) 0 0 (Aw ad nX) := by
  refine Met.ofW (cc := cX6_arrangeTrial) (maxL := 9) (ret := (some .int)) (by decide) rfl ?_
  intro p e s m args below meth c s₁ B hml hv
  obtain ⟨hargs, hPre⟩ := hv
  have hx := B.exec
  have hb := B.bytes
  have hr := B.returns
  have hts := atoms_spec (ws := wU yX6_arrangeTrial cX6_arrangeTrial 9 (some .int)) B.pre
  have hq : ∀ w ∈ gW, w.before args s = true := fun w hw => hts w (List.mem_cons_of_mem _ hw)
  have hcm : ∀ w ∈ gW, w ∈ wU yX6_arrangeTrial cX6_arrangeTrial 9 (some .int) := fun w hw => List.mem_cons_of_mem _ hw
  have hown : s.vm.findClass RX6 = some m.cls := findClass_of_methodNamed B.named
  have hlocks := B.notSynchronized
  have hF : CallFix p m c cX6_arrangeTrial 9 s args (wU yX6_arrangeTrial cX6_arrangeTrial 9 (some .int)) RX6 := ⟨hx, hb, hml, hown, hts⟩
  have hK := hPre.2.1
  have hZ := hPre.2.2.2
  have hw : Wd D cy shX ad nX (Aw ad nX) s.heap M s.heap [] := ⟨hPre.1, hPre.2.2.1, va_S.rf⟩
  have iw1 : ∀ w ∈ u_ws RX1 TX1 11, w ∈ wU yX6_arrangeTrial cX6_arrangeTrial 9 (some .int) := fun w hw => List.mem_cons_of_mem _ (iX1 w hw)
  have iw6 : ∀ w ∈ u_ws RX6 TX6 8, w ∈ wU yX6_arrangeTrial cX6_arrangeTrial 9 (some .int) := fun w hw => List.mem_cons_of_mem _ (iX6 w hw)
  rw [show entryFrame m args 9 = entryFrame m ([.ref (ad o0), .int a1, .int a2] : List Value).toArray 9 from by rw [hargs]]
  have hl := lv_entry ([.ref (ad o0), .int a1, .int a2]) (n := 9) (Nat.le_of_ble_eq_true rfl)
  rw [lg_entry_eq]
  generalize (lg_sl ([.ref (ad o0), .int a1, .int a2]) ++ List.replicate (9 - (lg_sl ([.ref (ad o0), .int a1, .int a2])).length) Slot.unset).toArray = ls at hl ⊢
  have hl : lv_has ls 9 [(0, .ref (ad o0)), (1, .int a1), (2, .int a2)] := hl
  have hb16 : ∀ (nn : Nat), ∀ (M : Mm) (x0 : Nat) (x2 : Int32) (x3 : Int32) (x4 : Int32) (x5 : Int32) (x6 : Int32) (x7 : Int32), f_X6_arrangeTrial_b16 nn M x0 x2 x3 x4 x5 x6 x7 = some res → ∀ (H : Heap) (locs : List Loc) (ls : Array Slot), Wd D cy shX ad nX (Aw ad nX) s.heap M H locs → lv_has ls 9 [(0, .ref (ad x0)), (2, .int x2), (3, .int x3), (4, .int x4), (5, .int x5), (6, .int x6), (7, .int x7)] → W p l e (headSpec (wU yX6_arrangeTrial cX6_arrangeTrial 9 (some .int)) rmX6_arrangeTrial).room s m args below meth c H locs 0 0 (QI D cy shX ad nX adK adV below args s res) (F0 m 16 ls []) := by
    intro nn
    induction nn with
    | zero => intro M x0 x2 x3 x4 x5 x6 x7 h; simp [f_X6_arrangeTrial_b16] at h
    | succ nn ih =>
      intro M x0 x2 x3 x4 x5 x6 x7 h H locs ls hw hl
      unfold f_X6_arrangeTrial_b16 at h
      refine lv_iload hx hb dX6_arrangeTrial_16 (lv_at hl 6 rfl) ?_
      refine lv_if_lt (tgt := 109) hx hb dX6_arrangeTrial_18 (by decide) (fun c1 => ?_) (fun c1 => ?_)
      · replace h := if_some_t c1 h
        refine lv_iload hx hb dX6_arrangeTrial_109 (lv_at hl 3 rfl) ?_
        refine lv_iconst (v := (1 : Int32)) hx hb dX6_arrangeTrial_111 (by decide) ?_
        refine lv_iload_n hx hb dX6_arrangeTrial_112 rfl (lv_at hl 1 rfl) ?_
        refine lv_ishl hx hb dX6_arrangeTrial_113 ?_
        refine lv_iconst (v := (1 : Int32)) hx hb dX6_arrangeTrial_114 (by decide) ?_
        refine lv_isub hx hb dX6_arrangeTrial_115 ?_
        refine lv_icmp_ne (tgt := 124) hx hb dX6_arrangeTrial_116 (by decide) (fun c2 => ?_) (fun c2 => ?_)
        · replace h := if_some_f c2 h
          refine lv_iconst (v := (-1 : Int32)) hx hb dX6_arrangeTrial_124 (by decide) ?_
          exact r_iret hx hb hr rfl hlocks hZ hK hw h dX6_arrangeTrial_125
        · replace h := if_some_t c2 h
          refine lv_iload hx hb dX6_arrangeTrial_119 (lv_at hl 4 rfl) ?_
          refine lv_goto (tgt := 125) hx hb dX6_arrangeTrial_121 (by decide) ?_
          exact r_iret hx hb hr rfl hlocks hZ hK hw h dX6_arrangeTrial_125
      · replace h := if_some_f c1 h
        refine lv_iload_n hx hb dX6_arrangeTrial_21 rfl (lv_at hl 2 rfl) ?_
        refine lv_iload_n hx hb dX6_arrangeTrial_22 rfl (lv_at hl 1 rfl) ?_
        replace h := gd_some h
        obtain ⟨g3, h⟩ := h
        refine lv_irem hx hb dX6_arrangeTrial_23 g3 ?_
        refine lv_istore (lv' := [(8, .int (x3 - x3 / x2 * x2)), (0, .ref (ad x0)), (2, .int x2), (3, .int x3), (4, .int x4), (5, .int x5), (6, .int x6), (7, .int x7)]) hx hb dX6_arrangeTrial_24 hl (by decide) rfl (fun ls hl => ?_)
        refine lv_iload_n hx hb dX6_arrangeTrial_26 rfl (lv_at hl 3 rfl) ?_
        refine lv_iload_n hx hb dX6_arrangeTrial_27 rfl (lv_at hl 2 rfl) ?_
        replace h := gd_some h
        obtain ⟨g4, h⟩ := h
        refine lv_idiv hx hb dX6_arrangeTrial_28 g4 ?_
        refine lv_istore_n (lv' := [(3, .int (x3 / x2)), (8, .int (x3 - x3 / x2 * x2)), (0, .ref (ad x0)), (2, .int x2), (4, .int x4), (5, .int x5), (6, .int x6), (7, .int x7)]) hx hb dX6_arrangeTrial_29 rfl hl (by decide) rfl (fun ls hl => ?_)
        refine lv_iload hx hb dX6_arrangeTrial_30 (lv_at hl 4 rfl) ?_
        refine lv_iconst (v := (1 : Int32)) hx hb dX6_arrangeTrial_32 (by decide) ?_
        refine lv_iload hx hb dX6_arrangeTrial_33 (lv_at hl 1 rfl) ?_
        refine lv_ishl hx hb dX6_arrangeTrial_35 ?_
        refine lv_ior hx hb dX6_arrangeTrial_36 ?_
        refine lv_topi (fun y5 ey5 => ?_)
        replace h := lt_at ey5 h
        refine lv_istore (lv' := [(4, .int y5), (3, .int (x3 / x2)), (8, .int (x3 - x3 / x2 * x2)), (0, .ref (ad x0)), (2, .int x2), (5, .int x5), (6, .int x6), (7, .int x7)]) hx hb dX6_arrangeTrial_37 hl (by decide) rfl (fun ls hl => ?_)
        refine lv_iload hx hb dX6_arrangeTrial_39 (lv_at hl 5 rfl) ?_
        refine lv_aload_n hx hb dX6_arrangeTrial_41 rfl (lv_at hl 3 rfl) ?_
        replace h := gd_some h
        obtain ⟨g6, h⟩ := h
        replace h := bd_some h
        obtain ⟨q7, eq7, h⟩ := h
        refine r_getR hx hb hts iw6 hown hK hw x0 0 g6 (by decide) rfl (by decide) rfl (hq _ qw336) (fun _ h9 => h9) dX6_arrangeTrial_42 eq7 ?_
        replace h := gd_some h
        obtain ⟨g8, h⟩ := h
        refine r_getI hx hb hts iw1 hown hK hw q7 5 g8 (by decide) rfl (by decide) rfl (hq _ qw200) (fun _ h9 => h9) dX6_arrangeTrial_45 ?_
        refine lv_iload hx hb dX6_arrangeTrial_48 (lv_at hl 2 rfl) ?_
        refine lv_iadd hx hb dX6_arrangeTrial_50 ?_
        refine lv_iload hx hb dX6_arrangeTrial_51 (lv_at hl 6 rfl) ?_
        refine lv_imul hx hb dX6_arrangeTrial_53 ?_
        refine lv_iadd hx hb dX6_arrangeTrial_54 ?_
        refine lv_topi (fun y9 ey9 => ?_)
        replace h := lt_at ey9 h
        refine lv_istore (lv' := [(5, .int y9), (4, .int y5), (3, .int (x3 / x2)), (8, .int (x3 - x3 / x2 * x2)), (0, .ref (ad x0)), (2, .int x2), (6, .int x6), (7, .int x7)]) hx hb dX6_arrangeTrial_55 hl (by decide) rfl (fun ls hl => ?_)
        refine lv_iload hx hb dX6_arrangeTrial_57 (lv_at hl 6 rfl) ?_
        refine lv_bipush (v := (10 : Int32)) hx hb dX6_arrangeTrial_59 (by decide) ?_
        refine lv_imul hx hb dX6_arrangeTrial_61 ?_
        refine lv_istore (lv' := [(6, .int (x6 * (10 : Int32))), (5, .int y9), (4, .int y5), (3, .int (x3 / x2)), (8, .int (x3 - x3 / x2 * x2)), (0, .ref (ad x0)), (2, .int x2), (7, .int x7)]) hx hb dX6_arrangeTrial_62 hl (by decide) rfl (fun ls hl => ?_)
        refine lv_aload_n hx hb dX6_arrangeTrial_64 rfl (lv_at hl 5 rfl) ?_
        replace h := bd_some h
        obtain ⟨q10, eq10, h⟩ := h
        refine r_getR hx hb hts iw6 hown hK hw x0 4 g6 (by decide) rfl (by decide) rfl (hq _ qw340) (fun _ h9 => h9) dX6_arrangeTrial_65 eq10 ?_
        replace h := gd_some h
        obtain ⟨g11, h⟩ := h
        replace h := bd_some h
        obtain ⟨q12, eq12, h⟩ := h
        refine r_getR hx hb hts iw1 hown hK hw q10 1 g11 (by decide) rfl (by decide) rfl (hq _ qw187) (fun _ h9 => h9) dX6_arrangeTrial_68 eq12 ?_
        refine lv_aload_n hx hb dX6_arrangeTrial_71 rfl (lv_at hl 5 rfl) ?_
        replace h := bd_some h
        obtain ⟨q13, eq13, h⟩ := h
        refine r_getR hx hb hts iw6 hown hK hw x0 0 g6 (by decide) rfl (by decide) rfl (hq _ qw336) (fun _ h9 => h9) dX6_arrangeTrial_72 eq13 ?_
        replace h := gd_some h
        obtain ⟨g14, h⟩ := h
        refine r_getI hx hb hts iw1 hown hK hw q13 5 g14 (by decide) rfl (by decide) rfl (hq _ qw200) (fun _ h9 => h9) dX6_arrangeTrial_75 ?_
        refine lv_iload hx hb dX6_arrangeTrial_78 (lv_at hl 7 rfl) ?_
        refine lv_iadd hx hb dX6_arrangeTrial_80 ?_
        replace h := gd_some h
        obtain ⟨g15, h⟩ := h
        replace h := bd_some h
        obtain ⟨q16, eq16, h⟩ := h
        refine r_aald hx hb hK hw q12 3 (by decide) rfl g15 dX6_arrangeTrial_81 eq16 ?_
        refine lv_aload_n hx hb dX6_arrangeTrial_82 rfl (lv_at hl 5 rfl) ?_
        replace h := bd_some h
        obtain ⟨q17, eq17, h⟩ := h
        refine r_getR hx hb hts iw6 hown hK hw x0 0 g6 (by decide) rfl (by decide) rfl (hq _ qw336) (fun _ h9 => h9) dX6_arrangeTrial_83 eq17 ?_
        replace h := gd_some h
        obtain ⟨g18, h⟩ := h
        replace h := bd_some h
        obtain ⟨q19, eq19, h⟩ := h
        refine r_getR hx hb hts iw1 hown hK hw q17 1 g18 (by decide) rfl (by decide) rfl (hq _ qw187) (fun _ h9 => h9) dX6_arrangeTrial_86 eq19 ?_
        refine lv_aload_n hx hb dX6_arrangeTrial_89 rfl (lv_at hl 5 rfl) ?_
        replace h := bd_some h
        obtain ⟨q20, eq20, h⟩ := h
        refine r_getR hx hb hts iw6 hown hK hw x0 0 g6 (by decide) rfl (by decide) rfl (hq _ qw336) (fun _ h9 => h9) dX6_arrangeTrial_90 eq20 ?_
        replace h := gd_some h
        obtain ⟨g21, h⟩ := h
        refine r_getI hx hb hts iw1 hown hK hw q20 5 g21 (by decide) rfl (by decide) rfl (hq _ qw200) (fun _ h9 => h9) dX6_arrangeTrial_93 ?_
        refine lv_iload hx hb dX6_arrangeTrial_96 (lv_at hl 4 rfl) ?_
        refine lv_iadd hx hb dX6_arrangeTrial_98 ?_
        replace h := gd_some h
        obtain ⟨g22, h⟩ := h
        replace h := bd_some h
        obtain ⟨q23, eq23, h⟩ := h
        refine r_aald hx hb hK hw q19 3 (by decide) rfl g22 dX6_arrangeTrial_99 eq23 ?_
        replace h := gd_some h
        obtain ⟨g25, h⟩ := h
        replace h := bd_some h
        obtain ⟨r24, er24, h⟩ := h
        refine r_callVv (As := [.ref (ad q23)]) (rest := []) hF (c_X0_become l D cy ad adK adV M q16 q23 r24 er24) (gW_goodV hcm qw466 qw769 qw464 qw465 qw64) hdX0_become rfl ⟨Nat.le_of_ble_eq_true rfl, Nat.le_of_ble_eq_true rfl⟩ rfl rfl hZ hK hw g25 (by decide) rfl rfl hl.1 rfl (Nat.le_of_ble_eq_true rfl) ⟨Nat.zero_le _, Nat.zero_le _⟩ dX6_arrangeTrial_100 (fun H locs hw => ?_)
        refine lv_iinc (v := x7 + (-1 : Int32)) (lv' := [(7, .int (x7 + (-1 : Int32))), (6, .int (x6 * (10 : Int32))), (5, .int y9), (4, .int y5), (3, .int (x3 / x2)), (8, .int (x3 - x3 / x2 * x2)), (0, .ref (ad x0)), (2, .int x2)]) hx hb dX6_arrangeTrial_103 hl (k := 7) rfl (congrArg (fun z => x7 + z) (by decide)) (by decide) rfl (fun ls hl => ?_)
        refine lv_goto (tgt := 16) hx hb dX6_arrangeTrial_106 (by decide) ?_
        exact ih _ _ _ _ _ _ _ _ h _ _ _ hw (lv_sub hl [6, 7, 4, 3, 2, 1, 0] rfl)
  unfold f_X6_arrangeTrial at h
  refine lv_iload_n hx hb dX6_arrangeTrial_0 rfl (lv_at hl 1 rfl) ?_
  refine lv_istore_n (lv' := [(3, .int a1), (0, .ref (ad o0)), (1, .int a1), (2, .int a2)]) hx hb dX6_arrangeTrial_1 rfl hl (by decide) rfl (fun ls hl => ?_)
  refine lv_iconst (v := (0 : Int32)) hx hb dX6_arrangeTrial_2 (by decide) ?_
  refine lv_istore (lv' := [(4, .int (0 : Int32)), (3, .int a1), (0, .ref (ad o0)), (1, .int a1), (2, .int a2)]) hx hb dX6_arrangeTrial_3 hl (by decide) rfl (fun ls hl => ?_)
  refine lv_iconst (v := (0 : Int32)) hx hb dX6_arrangeTrial_5 (by decide) ?_
  refine lv_istore (lv' := [(5, .int (0 : Int32)), (4, .int (0 : Int32)), (3, .int a1), (0, .ref (ad o0)), (1, .int a1), (2, .int a2)]) hx hb dX6_arrangeTrial_6 hl (by decide) rfl (fun ls hl => ?_)
  refine lv_iconst (v := (1 : Int32)) hx hb dX6_arrangeTrial_8 (by decide) ?_
  refine lv_istore (lv' := [(6, .int (1 : Int32)), (5, .int (0 : Int32)), (4, .int (0 : Int32)), (3, .int a1), (0, .ref (ad o0)), (1, .int a1), (2, .int a2)]) hx hb dX6_arrangeTrial_9 hl (by decide) rfl (fun ls hl => ?_)
  refine lv_iload_n hx hb dX6_arrangeTrial_11 rfl (lv_at hl 6 rfl) ?_
  refine lv_iconst (v := (1 : Int32)) hx hb dX6_arrangeTrial_12 (by decide) ?_
  refine lv_isub hx hb dX6_arrangeTrial_13 ?_
  refine lv_istore (lv' := [(7, .int (a2 - (1 : Int32))), (6, .int (1 : Int32)), (5, .int (0 : Int32)), (4, .int (0 : Int32)), (3, .int a1), (0, .ref (ad o0)), (1, .int a1), (2, .int a2)]) hx hb dX6_arrangeTrial_14 hl (by decide) rfl (fun ls hl => ?_)
  exact hb16 1000 _ _ _ _ _ _ _ _ h _ _ _ hw (lv_sub hl [5, 7, 4, 3, 2, 1, 0] rfl)
theorem dX6_bestOrder_0 : decode cX6_bestOrder 0 = .ok (.aload_n 0, 1) := by decide +kernel
theorem dX6_bestOrder_1 : decode cX6_bestOrder 1 = .ok (.getfield 31, 3) := by decide +kernel
theorem dX6_bestOrder_4 : decode cX6_bestOrder 4 = .ok (.aload_n 0, 1) := by decide +kernel
theorem dX6_bestOrder_5 : decode cX6_bestOrder 5 = .ok (.getfield 10, 3) := by decide +kernel
theorem dX6_bestOrder_8 : decode cX6_bestOrder 8 = .ok (.invokevirtual 151, 3) := by decide +kernel
theorem dX6_bestOrder_11 : decode cX6_bestOrder 11 = .ok (.iconst 1, 1) := by decide +kernel
theorem dX6_bestOrder_12 : decode cX6_bestOrder 12 = .ok (.istore_n 3, 1) := by decide +kernel
theorem dX6_bestOrder_13 : decode cX6_bestOrder 13 = .ok (.iconst 0, 1) := by decide +kernel
theorem dX6_bestOrder_14 : decode cX6_bestOrder 14 = .ok (.istore 4, 2) := by decide +kernel
theorem dX6_bestOrder_16 : decode cX6_bestOrder 16 = .ok (.iload 4, 2) := by decide +kernel
theorem dX6_bestOrder_18 : decode cX6_bestOrder 18 = .ok (.iload_n 2, 1) := by decide +kernel
theorem dX6_bestOrder_19 : decode cX6_bestOrder 19 = .ok (.if_icmp .ge 13, 3) := by decide +kernel
theorem dX6_bestOrder_22 : decode cX6_bestOrder 22 = .ok (.iload_n 3, 1) := by decide +kernel
theorem dX6_bestOrder_23 : decode cX6_bestOrder 23 = .ok (.iload_n 2, 1) := by decide +kernel
theorem dX6_bestOrder_24 : decode cX6_bestOrder 24 = .ok (.imul, 1) := by decide +kernel
theorem dX6_bestOrder_25 : decode cX6_bestOrder 25 = .ok (.istore_n 3, 1) := by decide +kernel
theorem dX6_bestOrder_26 : decode cX6_bestOrder 26 = .ok (.iinc 4 1, 3) := by decide +kernel
theorem dX6_bestOrder_29 : decode cX6_bestOrder 29 = .ok (.goto (-13), 3) := by decide +kernel
theorem dX6_bestOrder_32 : decode cX6_bestOrder 32 = .ok (.iconst 0, 1) := by decide +kernel
theorem dX6_bestOrder_33 : decode cX6_bestOrder 33 = .ok (.istore 4, 2) := by decide +kernel
theorem dX6_bestOrder_35 : decode cX6_bestOrder 35 = .ok (.ldc2_w 297, 3) := by decide +kernel
theorem dX6_bestOrder_38 : decode cX6_bestOrder 38 = .ok (.lstore 5, 2) := by decide +kernel
theorem dX6_bestOrder_40 : decode cX6_bestOrder 40 = .ok (.iconst 0, 1) := by decide +kernel
theorem dX6_bestOrder_41 : decode cX6_bestOrder 41 = .ok (.istore 7, 2) := by decide +kernel
theorem dX6_bestOrder_43 : decode cX6_bestOrder 43 = .ok (.iload 7, 2) := by decide +kernel
theorem dX6_bestOrder_45 : decode cX6_bestOrder 45 = .ok (.iload_n 3, 1) := by decide +kernel
theorem dX6_bestOrder_46 : decode cX6_bestOrder 46 = .ok (.if_icmp .ge 66, 3) := by decide +kernel
theorem dX6_bestOrder_49 : decode cX6_bestOrder 49 = .ok (.aload_n 0, 1) := by decide +kernel
theorem dX6_bestOrder_50 : decode cX6_bestOrder 50 = .ok (.iload 7, 2) := by decide +kernel
theorem dX6_bestOrder_52 : decode cX6_bestOrder 52 = .ok (.iload_n 2, 1) := by decide +kernel
theorem dX6_bestOrder_53 : decode cX6_bestOrder 53 = .ok (.invokevirtual 306, 3) := by decide +kernel
theorem dX6_bestOrder_56 : decode cX6_bestOrder 56 = .ok (.istore 8, 2) := by decide +kernel
theorem dX6_bestOrder_58 : decode cX6_bestOrder 58 = .ok (.iload 8, 2) := by decide +kernel
theorem dX6_bestOrder_60 : decode cX6_bestOrder 60 = .ok (.ifCond .ge 6, 3) := by decide +kernel
theorem dX6_bestOrder_63 : decode cX6_bestOrder 63 = .ok (.goto 43, 3) := by decide +kernel
theorem dX6_bestOrder_66 : decode cX6_bestOrder 66 = .ok (.aload_n 0, 1) := by decide +kernel
theorem dX6_bestOrder_67 : decode cX6_bestOrder 67 = .ok (.getfield 26, 3) := by decide +kernel
theorem dX6_bestOrder_70 : decode cX6_bestOrder 70 = .ok (.iconst 0, 1) := by decide +kernel
theorem dX6_bestOrder_71 : decode cX6_bestOrder 71 = .ok (.iconst 0, 1) := by decide +kernel
theorem dX6_bestOrder_72 : decode cX6_bestOrder 72 = .ok (.iconst 0, 1) := by decide +kernel
theorem dX6_bestOrder_73 : decode cX6_bestOrder 73 = .ok (.invokevirtual 213, 3) := by decide +kernel
theorem dX6_bestOrder_76 : decode cX6_bestOrder 76 = .ok (.aload_n 0, 1) := by decide +kernel
theorem dX6_bestOrder_77 : decode cX6_bestOrder 77 = .ok (.getfield 26, 3) := by decide +kernel
theorem dX6_bestOrder_80 : decode cX6_bestOrder 80 = .ok (.getfield 207, 3) := by decide +kernel
theorem dX6_bestOrder_83 : decode cX6_bestOrder 83 = .ok (.iload_n 1, 1) := by decide +kernel
theorem dX6_bestOrder_84 : decode cX6_bestOrder 84 = .ok (.laload, 1) := by decide +kernel
theorem dX6_bestOrder_85 : decode cX6_bestOrder 85 = .ok (.lload 5, 2) := by decide +kernel
theorem dX6_bestOrder_87 : decode cX6_bestOrder 87 = .ok (.lcmp, 1) := by decide +kernel
theorem dX6_bestOrder_88 : decode cX6_bestOrder 88 = .ok (.ifCond .le 18, 3) := by decide +kernel
theorem dX6_bestOrder_91 : decode cX6_bestOrder 91 = .ok (.aload_n 0, 1) := by decide +kernel
theorem dX6_bestOrder_92 : decode cX6_bestOrder 92 = .ok (.getfield 26, 3) := by decide +kernel
theorem dX6_bestOrder_95 : decode cX6_bestOrder 95 = .ok (.getfield 207, 3) := by decide +kernel
theorem dX6_bestOrder_98 : decode cX6_bestOrder 98 = .ok (.iload_n 1, 1) := by decide +kernel
theorem dX6_bestOrder_99 : decode cX6_bestOrder 99 = .ok (.laload, 1) := by decide +kernel
theorem dX6_bestOrder_100 : decode cX6_bestOrder 100 = .ok (.lstore 5, 2) := by decide +kernel
theorem dX6_bestOrder_102 : decode cX6_bestOrder 102 = .ok (.iload 8, 2) := by decide +kernel
theorem dX6_bestOrder_104 : decode cX6_bestOrder 104 = .ok (.istore 4, 2) := by decide +kernel
theorem dX6_bestOrder_106 : decode cX6_bestOrder 106 = .ok (.iinc 7 1, 3) := by decide +kernel
theorem dX6_bestOrder_109 : decode cX6_bestOrder 109 = .ok (.goto (-66), 3) := by decide +kernel
theorem dX6_bestOrder_112 : decode cX6_bestOrder 112 = .ok (.iload 4, 2) := by decide +kernel
theorem dX6_bestOrder_114 : decode cX6_bestOrder 114 = .ok (.ireturn, 1) := by decide +kernel
set_option maxHeartbeats 4000000 in
set_option maxRecDepth 100000 in
theorem c_X6_bestOrder (l : Launch) (D : va_G) (cy : Nat → ClassId) (ad adK adV : Nat → Nat) (M : Mm) (o0 : Nat) (a1 : Int32) (a2 : Int32) (res : Mm × Int32) (h : f_X6_bestOrder M o0 a1 a2 = some res) : Met l yX6_bestOrder (wU yX6_bestOrder cX6_bestOrder 9 (some .int)) rmX6_bestOrder (va_Pc [.ref (ad o0), .int a1, .int a2] (Pre D cy shX ad nX adK adV M)) (va_Qi (fun r (M2 : Mm) => r = res.2 ∧ M2 = res.1) (Pre D cy shX ad nX adK adV) (Aw ad nX)) 0 0 (Aw ad nX) := by
  refine Met.ofW (cc := cX6_bestOrder) (maxL := 9) (ret := (some .int)) (by decide) rfl ?_
  intro p e s m args below meth c s₁ B hml hv
  obtain ⟨hargs, hPre⟩ := hv
  have hx := B.exec
  have hb := B.bytes
  have hr := B.returns
  have hts := atoms_spec (ws := wU yX6_bestOrder cX6_bestOrder 9 (some .int)) B.pre
  have hq : ∀ w ∈ gW, w.before args s = true := fun w hw => hts w (List.mem_cons_of_mem _ hw)
  have hcm : ∀ w ∈ gW, w ∈ wU yX6_bestOrder cX6_bestOrder 9 (some .int) := fun w hw => List.mem_cons_of_mem _ hw
  have hown : s.vm.findClass RX6 = some m.cls := findClass_of_methodNamed B.named
  have hlocks := B.notSynchronized
  have hF : CallFix p m c cX6_bestOrder 9 s args (wU yX6_bestOrder cX6_bestOrder 9 (some .int)) RX6 := ⟨hx, hb, hml, hown, hts⟩
  have hK := hPre.2.1
  have hZ := hPre.2.2.2
  have hw : Wd D cy shX ad nX (Aw ad nX) s.heap M s.heap [] := ⟨hPre.1, hPre.2.2.1, va_S.rf⟩
  have iw5 : ∀ w ∈ u_ws RX5 TX5 13, w ∈ wU yX6_bestOrder cX6_bestOrder 9 (some .int) := fun w hw => List.mem_cons_of_mem _ (iX5 w hw)
  have iw6 : ∀ w ∈ u_ws RX6 TX6 8, w ∈ wU yX6_bestOrder cX6_bestOrder 9 (some .int) := fun w hw => List.mem_cons_of_mem _ (iX6 w hw)
  rw [show entryFrame m args 9 = entryFrame m ([.ref (ad o0), .int a1, .int a2] : List Value).toArray 9 from by rw [hargs]]
  have hl := lv_entry ([.ref (ad o0), .int a1, .int a2]) (n := 9) (Nat.le_of_ble_eq_true rfl)
  rw [lg_entry_eq]
  generalize (lg_sl ([.ref (ad o0), .int a1, .int a2]) ++ List.replicate (9 - (lg_sl ([.ref (ad o0), .int a1, .int a2])).length) Slot.unset).toArray = ls at hl ⊢
  have hl : lv_has ls 9 [(0, .ref (ad o0)), (1, .int a1), (2, .int a2)] := hl
  have hb106 : ∀ (k43 : Mm → Nat → Int32 → Int32 → Int32 → Int32 → Int64 → Int32 → Option (Mm × Int32)) (hk43 : ∀ (M : Mm) (x0 : Nat) (x1 : Int32) (x2 : Int32) (x3 : Int32) (x4 : Int32) (x5 : Int64) (x7 : Int32), k43 M x0 x1 x2 x3 x4 x5 x7 = some res → ∀ (H : Heap) (locs : List Loc) (ls : Array Slot), Wd D cy shX ad nX (Aw ad nX) s.heap M H locs → lv_has ls 9 [(0, .ref (ad x0)), (1, .int x1), (2, .int x2), (3, .int x3), (4, .int x4), (5, .long x5), (7, .int x7)] → W p l e (headSpec (wU yX6_bestOrder cX6_bestOrder 9 (some .int)) rmX6_bestOrder).room s m args below meth c H locs 0 0 (QI D cy shX ad nX adK adV below args s res) (F0 m 43 ls [])), ∀ (M : Mm) (x0 : Nat) (x1 : Int32) (x2 : Int32) (x3 : Int32) (x4 : Int32) (x5 : Int64) (x7 : Int32), f_X6_bestOrder_b106 k43 M x0 x1 x2 x3 x4 x5 x7 = some res → ∀ (H : Heap) (locs : List Loc) (ls : Array Slot), Wd D cy shX ad nX (Aw ad nX) s.heap M H locs → lv_has ls 9 [(0, .ref (ad x0)), (1, .int x1), (2, .int x2), (3, .int x3), (4, .int x4), (5, .long x5), (7, .int x7)] → W p l e (headSpec (wU yX6_bestOrder cX6_bestOrder 9 (some .int)) rmX6_bestOrder).room s m args below meth c H locs 0 0 (QI D cy shX ad nX adK adV below args s res) (F0 m 106 ls []) := by
    intro k43 hk43
    intro M x0 x1 x2 x3 x4 x5 x7 h H locs ls hw hl
    unfold f_X6_bestOrder_b106 at h
    refine lv_iinc (v := x7 + (1 : Int32)) (lv' := [(7, .int (x7 + (1 : Int32))), (0, .ref (ad x0)), (1, .int x1), (2, .int x2), (3, .int x3), (4, .int x4), (5, .long x5)]) hx hb dX6_bestOrder_106 hl (k := 6) rfl (congrArg (fun z => x7 + z) (by decide)) (by decide) rfl (fun ls hl => ?_)
    refine lv_goto (tgt := 43) hx hb dX6_bestOrder_109 (by decide) ?_
    exact hk43 _ _ _ _ _ _ _ _ h _ _ _ hw (lv_sub hl [1, 2, 3, 4, 5, 6, 0] rfl)
  have hb43 : ∀ (nn : Nat), ∀ (M : Mm) (x0 : Nat) (x1 : Int32) (x2 : Int32) (x3 : Int32) (x4 : Int32) (x5 : Int64) (x7 : Int32), f_X6_bestOrder_b43 nn M x0 x1 x2 x3 x4 x5 x7 = some res → ∀ (H : Heap) (locs : List Loc) (ls : Array Slot), Wd D cy shX ad nX (Aw ad nX) s.heap M H locs → lv_has ls 9 [(0, .ref (ad x0)), (1, .int x1), (2, .int x2), (3, .int x3), (4, .int x4), (5, .long x5), (7, .int x7)] → W p l e (headSpec (wU yX6_bestOrder cX6_bestOrder 9 (some .int)) rmX6_bestOrder).room s m args below meth c H locs 0 0 (QI D cy shX ad nX adK adV below args s res) (F0 m 43 ls []) := by
    intro nn
    induction nn with
    | zero => intro M x0 x1 x2 x3 x4 x5 x7 h; simp [f_X6_bestOrder_b43] at h
    | succ nn ih =>
      intro M x0 x1 x2 x3 x4 x5 x7 h H locs ls hw hl
      unfold f_X6_bestOrder_b43 at h
      refine lv_iload hx hb dX6_bestOrder_43 (lv_at hl 6 rfl) ?_
      refine lv_iload_n hx hb dX6_bestOrder_45 rfl (lv_at hl 3 rfl) ?_
      refine lv_icmp_ge (tgt := 112) hx hb dX6_bestOrder_46 (by decide) (fun c1 => ?_) (fun c1 => ?_)
      · replace h := if_some_t c1 h
        refine lv_iload hx hb dX6_bestOrder_112 (lv_at hl 4 rfl) ?_
        exact r_iret hx hb hr rfl hlocks hZ hK hw h dX6_bestOrder_114
      · replace h := if_some_f c1 h
        refine lv_aload_n hx hb dX6_bestOrder_49 rfl (lv_at hl 0 rfl) ?_
        refine lv_iload hx hb dX6_bestOrder_50 (lv_at hl 6 rfl) ?_
        refine lv_iload_n hx hb dX6_bestOrder_52 rfl (lv_at hl 2 rfl) ?_
        replace h := gd_some h
        obtain ⟨g3, h⟩ := h
        replace h := bd_some h
        obtain ⟨r2, er2, h⟩ := h
        refine r_callVi (As := [.int x7, .int x2]) (rest := []) hF (c_X6_arrangeTrial l D cy ad adK adV M x0 x7 x2 r2 er2) (gW_goodV hcm qw768 qw765 qw767 qw18 qw61) hdX6_arrangeTrial rfl ⟨Nat.le_of_ble_eq_true rfl, Nat.le_of_ble_eq_true rfl⟩ rfl rfl hZ hK hw g3 (by decide) rfl rfl hl.1 rfl (Nat.le_of_ble_eq_true rfl) ⟨Nat.zero_le _, Nat.zero_le _⟩ dX6_bestOrder_53 (fun H locs hw => ?_)
        refine lv_istore (lv' := [(8, .int r2.2), (0, .ref (ad x0)), (1, .int x1), (2, .int x2), (3, .int x3), (4, .int x4), (5, .long x5), (7, .int x7)]) hx hb dX6_bestOrder_56 hl (by decide) rfl (fun ls hl => ?_)
        refine lv_iload hx hb dX6_bestOrder_58 (lv_at hl 0 rfl) ?_
        refine lv_if_ge (tgt := 66) hx hb dX6_bestOrder_60 (by decide) (fun c4 => ?_) (fun c4 => ?_)
        · replace h := if_some_t c4 h
          refine lv_aload_n hx hb dX6_bestOrder_66 rfl (lv_at hl 1 rfl) ?_
          replace h := bd_some h
          obtain ⟨q5, eq5, h⟩ := h
          refine r_getR hx hb hts iw6 hown hK hw x0 3 g3 (by decide) rfl (by decide) rfl (hq _ qw339) (fun _ h9 => h9) dX6_bestOrder_67 eq5 ?_
          refine lv_iconst (v := (0 : Int32)) hx hb dX6_bestOrder_70 (by decide) ?_
          refine lv_iconst (v := (0 : Int32)) hx hb dX6_bestOrder_71 (by decide) ?_
          refine lv_iconst (v := (0 : Int32)) hx hb dX6_bestOrder_72 (by decide) ?_
          replace h := gd_some h
          obtain ⟨g7, h⟩ := h
          replace h := bd_some h
          obtain ⟨r6, er6, h⟩ := h
          refine r_callVv (As := [.int (0 : Int32), .int (0 : Int32), .int (0 : Int32)]) (rest := []) hF (c_X5_over l D cy ad adK adV r2.1 q5 (0 : Int32) (0 : Int32) (0 : Int32) r6 er6) (gW_goodV hcm qw681 qw678 qw679 qw680 qw65) hdX5_over rfl ⟨Nat.le_of_ble_eq_true rfl, Nat.le_of_ble_eq_true rfl⟩ rfl rfl hZ hK hw g7 (by decide) rfl rfl hl.1 rfl (Nat.le_of_ble_eq_true rfl) ⟨Nat.zero_le _, Nat.zero_le _⟩ dX6_bestOrder_73 (fun H locs hw => ?_)
          refine lv_aload_n hx hb dX6_bestOrder_76 rfl (lv_at hl 1 rfl) ?_
          replace h := bd_some h
          obtain ⟨q8, eq8, h⟩ := h
          refine r_getR hx hb hts iw6 hown hK hw x0 3 g3 (by decide) rfl (by decide) rfl (hq _ qw339) (fun _ h9 => h9) dX6_bestOrder_77 eq8 ?_
          replace h := gd_some h
          obtain ⟨g9, h⟩ := h
          replace h := bd_some h
          obtain ⟨q10, eq10, h⟩ := h
          refine r_getR hx hb hts iw5 hown hK hw q8 2 g9 (by decide) rfl (by decide) rfl (hq _ qw245) (fun _ h9 => h9) dX6_bestOrder_80 eq10 ?_
          refine lv_iload_n hx hb dX6_bestOrder_83 rfl (lv_at hl 2 rfl) ?_
          replace h := gd_some h
          obtain ⟨g11, h⟩ := h
          refine r_lald hx hb hK hw q10 g11 dX6_bestOrder_84 ?_
          refine lv_lload hx hb dX6_bestOrder_85 (lv_at hl 6 rfl) ?_
          refine W.lcmp hx hb dX6_bestOrder_87 ?_
          refine lv_if_le (tgt := 106) hx hb dX6_bestOrder_88 (by decide) (fun c12 => ?_) (fun c12 => ?_)
          · replace h := if_some_t c12 h
            exact hb106 _ ih _ _ _ _ _ _ _ _ h _ _ _ hw (lv_sub hl [1, 2, 3, 4, 5, 6, 7] rfl)
          · replace h := if_some_f c12 h
            refine lv_aload_n hx hb dX6_bestOrder_91 rfl (lv_at hl 1 rfl) ?_
            replace h := bd_some h
            obtain ⟨q13, eq13, h⟩ := h
            refine r_getR hx hb hts iw6 hown hK hw x0 3 g3 (by decide) rfl (by decide) rfl (hq _ qw339) (fun _ h9 => h9) dX6_bestOrder_92 eq13 ?_
            replace h := gd_some h
            obtain ⟨g14, h⟩ := h
            replace h := bd_some h
            obtain ⟨q15, eq15, h⟩ := h
            refine r_getR hx hb hts iw5 hown hK hw q13 2 g14 (by decide) rfl (by decide) rfl (hq _ qw245) (fun _ h9 => h9) dX6_bestOrder_95 eq15 ?_
            refine lv_iload_n hx hb dX6_bestOrder_98 rfl (lv_at hl 2 rfl) ?_
            replace h := gd_some h
            obtain ⟨g16, h⟩ := h
            refine r_lald hx hb hK hw q15 g16 dX6_bestOrder_99 ?_
            refine lv_lstore (lv' := [(5, .long (r6.1.2.1 q15 x1.toNatClampNeg)), (8, .int r2.2), (0, .ref (ad x0)), (1, .int x1), (2, .int x2), (3, .int x3), (4, .int x4), (7, .int x7)]) hx hb dX6_bestOrder_100 hl (by decide) rfl (fun ls hl => ?_)
            refine lv_iload hx hb dX6_bestOrder_102 (lv_at hl 1 rfl) ?_
            refine lv_istore (lv' := [(4, .int r2.2), (5, .long (r6.1.2.1 q15 x1.toNatClampNeg)), (8, .int r2.2), (0, .ref (ad x0)), (1, .int x1), (2, .int x2), (3, .int x3), (7, .int x7)]) hx hb dX6_bestOrder_104 hl (by decide) rfl (fun ls hl => ?_)
            exact hb106 _ ih _ _ _ _ _ _ _ _ h _ _ _ hw (lv_sub hl [3, 4, 5, 6, 0, 1, 7] rfl)
        · replace h := if_some_f c4 h
          refine lv_goto (tgt := 106) hx hb dX6_bestOrder_63 (by decide) ?_
          exact hb106 _ ih _ _ _ _ _ _ _ _ h _ _ _ hw (lv_sub hl [1, 2, 3, 4, 5, 6, 7] rfl)
  have hb16 : ∀ (nn : Nat), ∀ (M : Mm) (x0 : Nat) (x1 : Int32) (x2 : Int32) (x3 : Int32) (x4 : Int32), f_X6_bestOrder_b16 nn M x0 x1 x2 x3 x4 = some res → ∀ (H : Heap) (locs : List Loc) (ls : Array Slot), Wd D cy shX ad nX (Aw ad nX) s.heap M H locs → lv_has ls 9 [(0, .ref (ad x0)), (1, .int x1), (2, .int x2), (3, .int x3), (4, .int x4)] → W p l e (headSpec (wU yX6_bestOrder cX6_bestOrder 9 (some .int)) rmX6_bestOrder).room s m args below meth c H locs 0 0 (QI D cy shX ad nX adK adV below args s res) (F0 m 16 ls []) := by
    intro nn
    induction nn with
    | zero => intro M x0 x1 x2 x3 x4 h; simp [f_X6_bestOrder_b16] at h
    | succ nn ih =>
      intro M x0 x1 x2 x3 x4 h H locs ls hw hl
      unfold f_X6_bestOrder_b16 at h
      refine lv_iload hx hb dX6_bestOrder_16 (lv_at hl 4 rfl) ?_
      refine lv_iload_n hx hb dX6_bestOrder_18 rfl (lv_at hl 2 rfl) ?_
      refine lv_icmp_ge (tgt := 32) hx hb dX6_bestOrder_19 (by decide) (fun c17 => ?_) (fun c17 => ?_)
      · replace h := if_some_t c17 h
        refine lv_iconst (v := (0 : Int32)) hx hb dX6_bestOrder_32 (by decide) ?_
        refine lv_istore (lv' := [(4, .int (0 : Int32)), (0, .ref (ad x0)), (1, .int x1), (2, .int x2), (3, .int x3)]) hx hb dX6_bestOrder_33 hl (by decide) rfl (fun ls hl => ?_)
        refine lv_ldc2 (v := (-1 : Int64)) hx hb hown (hq _ qw740) dX6_bestOrder_35 ?_
        refine lv_lstore (lv' := [(5, .long (-1 : Int64)), (4, .int (0 : Int32)), (0, .ref (ad x0)), (1, .int x1), (2, .int x2), (3, .int x3)]) hx hb dX6_bestOrder_38 hl (by decide) rfl (fun ls hl => ?_)
        refine lv_iconst (v := (0 : Int32)) hx hb dX6_bestOrder_40 (by decide) ?_
        refine lv_istore (lv' := [(7, .int (0 : Int32)), (5, .long (-1 : Int64)), (4, .int (0 : Int32)), (0, .ref (ad x0)), (1, .int x1), (2, .int x2), (3, .int x3)]) hx hb dX6_bestOrder_41 hl (by decide) rfl (fun ls hl => ?_)
        exact hb43 1000 _ _ _ _ _ _ _ _ h _ _ _ hw (lv_sub hl [3, 4, 5, 6, 2, 1, 0] rfl)
      · replace h := if_some_f c17 h
        refine lv_iload_n hx hb dX6_bestOrder_22 rfl (lv_at hl 3 rfl) ?_
        refine lv_iload_n hx hb dX6_bestOrder_23 rfl (lv_at hl 2 rfl) ?_
        refine lv_imul hx hb dX6_bestOrder_24 ?_
        refine lv_istore_n (lv' := [(3, .int (x3 * x2)), (0, .ref (ad x0)), (1, .int x1), (2, .int x2), (4, .int x4)]) hx hb dX6_bestOrder_25 rfl hl (by decide) rfl (fun ls hl => ?_)
        refine lv_iinc (v := x4 + (1 : Int32)) (lv' := [(4, .int (x4 + (1 : Int32))), (3, .int (x3 * x2)), (0, .ref (ad x0)), (1, .int x1), (2, .int x2)]) hx hb dX6_bestOrder_26 hl (k := 4) rfl (congrArg (fun z => x4 + z) (by decide)) (by decide) rfl (fun ls hl => ?_)
        refine lv_goto (tgt := 16) hx hb dX6_bestOrder_29 (by decide) ?_
        exact ih _ _ _ _ _ _ h _ _ _ hw (lv_sub hl [2, 3, 4, 1, 0] rfl)
  unfold f_X6_bestOrder at h
  refine lv_aload_n hx hb dX6_bestOrder_0 rfl (lv_at hl 0 rfl) ?_
  replace h := gd_some h
  obtain ⟨g18, h⟩ := h
  replace h := bd_some h
  obtain ⟨q19, eq19, h⟩ := h
  refine r_getR hx hb hts iw6 hown hK hw o0 4 g18 (by decide) rfl (by decide) rfl (hq _ qw340) (fun _ h9 => h9) dX6_bestOrder_1 eq19 ?_
  refine lv_aload_n hx hb dX6_bestOrder_4 rfl (lv_at hl 0 rfl) ?_
  replace h := bd_some h
  obtain ⟨q20, eq20, h⟩ := h
  refine r_getR hx hb hts iw6 hown hK hw o0 0 g18 (by decide) rfl (by decide) rfl (hq _ qw336) (fun _ h9 => h9) dX6_bestOrder_5 eq20 ?_
  replace h := gd_some h
  obtain ⟨g22, h⟩ := h
  replace h := bd_some h
  obtain ⟨r21, er21, h⟩ := h
  refine r_callVv (As := [.ref (ad q20)]) (rest := []) hF (c_X1_become l D cy ad adK adV M q19 q20 r21 er21) (gW_goodV hcm qw458 qw455 qw456 qw457 qw62) hdX1_become rfl ⟨Nat.le_of_ble_eq_true rfl, Nat.le_of_ble_eq_true rfl⟩ rfl rfl hZ hK hw g22 (by decide) rfl rfl hl.1 rfl (Nat.le_of_ble_eq_true rfl) ⟨Nat.zero_le _, Nat.zero_le _⟩ dX6_bestOrder_8 (fun H locs hw => ?_)
  refine lv_iconst (v := (1 : Int32)) hx hb dX6_bestOrder_11 (by decide) ?_
  refine lv_istore_n (lv' := [(3, .int (1 : Int32)), (0, .ref (ad o0)), (1, .int a1), (2, .int a2)]) hx hb dX6_bestOrder_12 rfl hl (by decide) rfl (fun ls hl => ?_)
  refine lv_iconst (v := (0 : Int32)) hx hb dX6_bestOrder_13 (by decide) ?_
  refine lv_istore (lv' := [(4, .int (0 : Int32)), (3, .int (1 : Int32)), (0, .ref (ad o0)), (1, .int a1), (2, .int a2)]) hx hb dX6_bestOrder_14 hl (by decide) rfl (fun ls hl => ?_)
  exact hb16 1000 _ _ _ _ _ _ h _ _ _ hw (lv_sub hl [2, 3, 4, 1, 0] rfl)
theorem dX6_order_0 : decode cX6_order 0 = .ok (.aload_n 0, 1) := by decide +kernel
theorem dX6_order_1 : decode cX6_order 1 = .ok (.getfield 10, 3) := by decide +kernel
theorem dX6_order_4 : decode cX6_order 4 = .ok (.iload_n 1, 1) := by decide +kernel
theorem dX6_order_5 : decode cX6_order 5 = .ok (.invokevirtual 71, 3) := by decide +kernel
theorem dX6_order_8 : decode cX6_order 8 = .ok (.ifCond .ne 9, 3) := by decide +kernel
theorem dX6_order_11 : decode cX6_order 11 = .ok (.aload_n 0, 1) := by decide +kernel
theorem dX6_order_12 : decode cX6_order 12 = .ok (.iconst 0, 1) := by decide +kernel
theorem dX6_order_13 : decode cX6_order 13 = .ok (.invokevirtual 59, 3) := by decide +kernel
theorem dX6_order_16 : decode cX6_order 16 = .ok (.ireturn, 1) := by decide +kernel
theorem dX6_order_17 : decode cX6_order 17 = .ok (.aload_n 0, 1) := by decide +kernel
theorem dX6_order_18 : decode cX6_order 18 = .ok (.getfield 10, 3) := by decide +kernel
theorem dX6_order_21 : decode cX6_order 21 = .ok (.invokevirtual 159, 3) := by decide +kernel
theorem dX6_order_24 : decode cX6_order 24 = .ok (.ifCond .eq 9, 3) := by decide +kernel
theorem dX6_order_27 : decode cX6_order 27 = .ok (.aload_n 0, 1) := by decide +kernel
theorem dX6_order_28 : decode cX6_order 28 = .ok (.iconst 3, 1) := by decide +kernel
theorem dX6_order_29 : decode cX6_order 29 = .ok (.invokevirtual 59, 3) := by decide +kernel
theorem dX6_order_32 : decode cX6_order 32 = .ok (.ireturn, 1) := by decide +kernel
theorem dX6_order_33 : decode cX6_order 33 = .ok (.aload_n 0, 1) := by decide +kernel
theorem dX6_order_34 : decode cX6_order 34 = .ok (.getfield 10, 3) := by decide +kernel
theorem dX6_order_37 : decode cX6_order 37 = .ok (.getfield 108, 3) := by decide +kernel
theorem dX6_order_40 : decode cX6_order 40 = .ok (.aload_n 0, 1) := by decide +kernel
theorem dX6_order_41 : decode cX6_order 41 = .ok (.getfield 10, 3) := by decide +kernel
theorem dX6_order_44 : decode cX6_order 44 = .ok (.getfield 117, 3) := by decide +kernel
theorem dX6_order_47 : decode cX6_order 47 = .ok (.isub, 1) := by decide +kernel
theorem dX6_order_48 : decode cX6_order 48 = .ok (.istore_n 2, 1) := by decide +kernel
theorem dX6_order_49 : decode cX6_order 49 = .ok (.iload_n 2, 1) := by decide +kernel
theorem dX6_order_50 : decode cX6_order 50 = .ok (.iconst 4, 1) := by decide +kernel
theorem dX6_order_51 : decode cX6_order 51 = .ok (.if_icmp .le 10, 3) := by decide +kernel
theorem dX6_order_54 : decode cX6_order 54 = .ok (.aload_n 0, 1) := by decide +kernel
theorem dX6_order_55 : decode cX6_order 55 = .ok (.bipush 6, 2) := by decide +kernel
theorem dX6_order_57 : decode cX6_order 57 = .ok (.invokevirtual 59, 3) := by decide +kernel
theorem dX6_order_60 : decode cX6_order 60 = .ok (.ireturn, 1) := by decide +kernel
theorem dX6_order_61 : decode cX6_order 61 = .ok (.aload_n 0, 1) := by decide +kernel
theorem dX6_order_62 : decode cX6_order 62 = .ok (.iload_n 1, 1) := by decide +kernel
theorem dX6_order_63 : decode cX6_order 63 = .ok (.iload_n 2, 1) := by decide +kernel
theorem dX6_order_64 : decode cX6_order 64 = .ok (.invokevirtual 233, 3) := by decide +kernel
theorem dX6_order_67 : decode cX6_order 67 = .ok (.ireturn, 1) := by decide +kernel
set_option maxHeartbeats 4000000 in
set_option maxRecDepth 100000 in
theorem c_X6_order (l : Launch) (D : va_G) (cy : Nat → ClassId) (ad adK adV : Nat → Nat) (M : Mm) (o0 : Nat) (a1 : Int32) (res : Mm × Int32) (h : f_X6_order M o0 a1 = some res) : Met l yX6_order (wU yX6_order cX6_order 3 (some .int)) rmX6_order (va_Pc [.ref (ad o0), .int a1] (Pre D cy shX ad nX adK adV M)) (va_Qi (fun r (M2 : Mm) => r = res.2 ∧ M2 = res.1) (Pre D cy shX ad nX adK adV) (Aw ad nX)) 0 0 (Aw ad nX) := by
  refine Met.ofW (cc := cX6_order) (maxL := 3) (ret := (some .int)) (by decide) rfl ?_
  intro p e s m args below meth c s₁ B hml hv
  obtain ⟨hargs, hPre⟩ := hv
  have hx := B.exec
  have hb := B.bytes
  have hr := B.returns
  have hts := atoms_spec (ws := wU yX6_order cX6_order 3 (some .int)) B.pre
  have hq : ∀ w ∈ gW, w.before args s = true := fun w hw => hts w (List.mem_cons_of_mem _ hw)
  have hcm : ∀ w ∈ gW, w ∈ wU yX6_order cX6_order 3 (some .int) := fun w hw => List.mem_cons_of_mem _ hw
  have hown : s.vm.findClass RX6 = some m.cls := findClass_of_methodNamed B.named
  have hlocks := B.notSynchronized
  have hF : CallFix p m c cX6_order 3 s args (wU yX6_order cX6_order 3 (some .int)) RX6 := ⟨hx, hb, hml, hown, hts⟩
  have hK := hPre.2.1
  have hZ := hPre.2.2.2
  have hw : Wd D cy shX ad nX (Aw ad nX) s.heap M s.heap [] := ⟨hPre.1, hPre.2.2.1, va_S.rf⟩
  have iw1 : ∀ w ∈ u_ws RX1 TX1 11, w ∈ wU yX6_order cX6_order 3 (some .int) := fun w hw => List.mem_cons_of_mem _ (iX1 w hw)
  have iw6 : ∀ w ∈ u_ws RX6 TX6 8, w ∈ wU yX6_order cX6_order 3 (some .int) := fun w hw => List.mem_cons_of_mem _ (iX6 w hw)
  rw [show entryFrame m args 3 = entryFrame m ([.ref (ad o0), .int a1] : List Value).toArray 3 from by rw [hargs]]
  have hl := lv_entry ([.ref (ad o0), .int a1]) (n := 3) (Nat.le_of_ble_eq_true rfl)
  rw [lg_entry_eq]
  generalize (lg_sl ([.ref (ad o0), .int a1]) ++ List.replicate (3 - (lg_sl ([.ref (ad o0), .int a1])).length) Slot.unset).toArray = ls at hl ⊢
  have hl : lv_has ls 3 [(0, .ref (ad o0)), (1, .int a1)] := hl
  unfold f_X6_order at h
  refine lv_aload_n hx hb dX6_order_0 rfl (lv_at hl 0 rfl) ?_
  replace h := gd_some h
  obtain ⟨g1, h⟩ := h
  replace h := bd_some h
  obtain ⟨q2, eq2, h⟩ := h
  refine r_getR hx hb hts iw6 hown hK hw o0 0 g1 (by decide) rfl (by decide) rfl (hq _ qw336) (fun _ h9 => h9) dX6_order_1 eq2 ?_
  refine lv_iload_n hx hb dX6_order_4 rfl (lv_at hl 1 rfl) ?_
  replace h := gd_some h
  obtain ⟨g4, h⟩ := h
  replace h := bd_some h
  obtain ⟨r3, er3, h⟩ := h
  refine r_callVi (As := [.int a1]) (rest := []) hF (c_X1_hasSide l D cy ad adK adV M q2 a1 r3 er3) (gW_goodV hcm qw391 qw388 qw389 qw390 qw62) hdX1_hasSide rfl ⟨Nat.le_of_ble_eq_true rfl, Nat.le_of_ble_eq_true rfl⟩ rfl rfl hZ hK hw g4 (by decide) rfl rfl hl.1 rfl (Nat.le_of_ble_eq_true rfl) ⟨Nat.zero_le _, Nat.zero_le _⟩ dX6_order_5 (fun H locs hw => ?_)
  refine lv_if_ne (tgt := 17) hx hb dX6_order_8 (by decide) (fun c5 => ?_) (fun c5 => ?_)
  · replace h := if_some_f c5 h
    refine lv_aload_n hx hb dX6_order_17 rfl (lv_at hl 0 rfl) ?_
    replace h := bd_some h
    obtain ⟨q6, eq6, h⟩ := h
    refine r_getR hx hb hts iw6 hown hK hw o0 0 g1 (by decide) rfl (by decide) rfl (hq _ qw336) (fun _ h9 => h9) dX6_order_18 eq6 ?_
    replace h := gd_some h
    obtain ⟨g8, h⟩ := h
    replace h := bd_some h
    obtain ⟨r7, er7, h⟩ := h
    refine r_callVi (As := []) (rest := []) hF (c_X1_allPlayed l D cy ad adK adV r3.1 q6 r7 er7) (gW_goodV hcm qw592 qw589 qw590 qw591 qw62) hdX1_allPlayed rfl ⟨Nat.le_of_ble_eq_true rfl, Nat.le_of_ble_eq_true rfl⟩ rfl rfl hZ hK hw g8 (by decide) rfl rfl hl.1 rfl (Nat.le_of_ble_eq_true rfl) ⟨Nat.zero_le _, Nat.zero_le _⟩ dX6_order_21 (fun H locs hw => ?_)
    refine lv_if_eq (tgt := 33) hx hb dX6_order_24 (by decide) (fun c9 => ?_) (fun c9 => ?_)
    · replace h := if_some_t c9 h
      refine lv_aload_n hx hb dX6_order_33 rfl (lv_at hl 0 rfl) ?_
      replace h := bd_some h
      obtain ⟨q10, eq10, h⟩ := h
      refine r_getR hx hb hts iw6 hown hK hw o0 0 g1 (by decide) rfl (by decide) rfl (hq _ qw336) (fun _ h9 => h9) dX6_order_34 eq10 ?_
      replace h := gd_some h
      obtain ⟨g11, h⟩ := h
      refine r_getI hx hb hts iw1 hown hK hw q10 4 g11 (by decide) rfl (by decide) rfl (hq _ qw196) (fun _ h9 => h9) dX6_order_37 ?_
      refine lv_aload_n hx hb dX6_order_40 rfl (lv_at hl 0 rfl) ?_
      replace h := bd_some h
      obtain ⟨q12, eq12, h⟩ := h
      refine r_getR hx hb hts iw6 hown hK hw o0 0 g1 (by decide) rfl (by decide) rfl (hq _ qw336) (fun _ h9 => h9) dX6_order_41 eq12 ?_
      replace h := gd_some h
      obtain ⟨g13, h⟩ := h
      refine r_getI hx hb hts iw1 hown hK hw q12 5 g13 (by decide) rfl (by decide) rfl (hq _ qw200) (fun _ h9 => h9) dX6_order_44 ?_
      refine lv_isub hx hb dX6_order_47 ?_
      refine lv_istore_n (lv' := [(2, .int ((r7.1.1 q10 4) - (r7.1.1 q12 5))), (0, .ref (ad o0)), (1, .int a1)]) hx hb dX6_order_48 rfl hl (by decide) rfl (fun ls hl => ?_)
      refine lv_iload_n hx hb dX6_order_49 rfl (lv_at hl 0 rfl) ?_
      refine lv_iconst (v := (4 : Int32)) hx hb dX6_order_50 (by decide) ?_
      refine lv_icmp_le (tgt := 61) hx hb dX6_order_51 (by decide) (fun c14 => ?_) (fun c14 => ?_)
      · replace h := if_some_t c14 h
        refine lv_aload_n hx hb dX6_order_61 rfl (lv_at hl 1 rfl) ?_
        refine lv_iload_n hx hb dX6_order_62 rfl (lv_at hl 2 rfl) ?_
        refine lv_iload_n hx hb dX6_order_63 rfl (lv_at hl 0 rfl) ?_
        replace h := bd_some h
        obtain ⟨r15, er15, h⟩ := h
        refine r_callVi (As := [.int a1, .int ((r7.1.1 q10 4) - (r7.1.1 q12 5))]) (rest := []) hF (c_X6_bestOrder l D cy ad adK adV r7.1 o0 a1 ((r7.1.1 q10 4) - (r7.1.1 q12 5)) r15 er15) (gW_goodV hcm qw764 qw761 qw763 qw17 qw61) hdX6_bestOrder rfl ⟨Nat.le_of_ble_eq_true rfl, Nat.le_of_ble_eq_true rfl⟩ rfl rfl hZ hK hw g1 (by decide) rfl rfl hl.1 rfl (Nat.le_of_ble_eq_true rfl) ⟨Nat.zero_le _, Nat.zero_le _⟩ dX6_order_64 (fun H locs hw => ?_)
        exact r_iret hx hb hr rfl hlocks hZ hK hw h dX6_order_67
      · replace h := if_some_f c14 h
        refine lv_aload_n hx hb dX6_order_54 rfl (lv_at hl 1 rfl) ?_
        refine lv_bipush (v := (6 : Int32)) hx hb dX6_order_55 (by decide) ?_
        replace h := bd_some h
        obtain ⟨r16, er16, h⟩ := h
        refine r_callVi (As := [.int (6 : Int32)]) (rest := []) hF (c_X6_finding l D cy ad adK adV r7.1 o0 (6 : Int32) r16 er16) (gW_goodV hcm qw374 qw371 qw373 qw0 qw61) hdX6_finding rfl ⟨Nat.le_of_ble_eq_true rfl, Nat.le_of_ble_eq_true rfl⟩ rfl rfl hZ hK hw g1 (by decide) rfl rfl hl.1 rfl (Nat.le_of_ble_eq_true rfl) ⟨Nat.zero_le _, Nat.zero_le _⟩ dX6_order_57 (fun H locs hw => ?_)
        exact r_iret hx hb hr rfl hlocks hZ hK hw h dX6_order_60
    · replace h := if_some_f c9 h
      refine lv_aload_n hx hb dX6_order_27 rfl (lv_at hl 0 rfl) ?_
      refine lv_iconst (v := (3 : Int32)) hx hb dX6_order_28 (by decide) ?_
      replace h := bd_some h
      obtain ⟨r17, er17, h⟩ := h
      refine r_callVi (As := [.int (3 : Int32)]) (rest := []) hF (c_X6_finding l D cy ad adK adV r7.1 o0 (3 : Int32) r17 er17) (gW_goodV hcm qw374 qw371 qw373 qw0 qw61) hdX6_finding rfl ⟨Nat.le_of_ble_eq_true rfl, Nat.le_of_ble_eq_true rfl⟩ rfl rfl hZ hK hw g1 (by decide) rfl rfl hl.1 rfl (Nat.le_of_ble_eq_true rfl) ⟨Nat.zero_le _, Nat.zero_le _⟩ dX6_order_29 (fun H locs hw => ?_)
      exact r_iret hx hb hr rfl hlocks hZ hK hw h dX6_order_32
  · replace h := if_some_t c5 h
    refine lv_aload_n hx hb dX6_order_11 rfl (lv_at hl 0 rfl) ?_
    refine lv_iconst (v := (0 : Int32)) hx hb dX6_order_12 (by decide) ?_
    replace h := bd_some h
    obtain ⟨r18, er18, h⟩ := h
    refine r_callVi (As := [.int (0 : Int32)]) (rest := []) hF (c_X6_finding l D cy ad adK adV r3.1 o0 (0 : Int32) r18 er18) (gW_goodV hcm qw374 qw371 qw373 qw0 qw61) hdX6_finding rfl ⟨Nat.le_of_ble_eq_true rfl, Nat.le_of_ble_eq_true rfl⟩ rfl rfl hZ hK hw g1 (by decide) rfl rfl hl.1 rfl (Nat.le_of_ble_eq_true rfl) ⟨Nat.zero_le _, Nat.zero_le _⟩ dX6_order_13 (fun H locs hw => ?_)
    exact r_iret hx hb hr rfl hlocks hZ hK hw h dX6_order_16
theorem dX6_lawFor_0 : decode cX6_lawFor 0 = .ok (.aload_n 0, 1) := by decide +kernel
theorem dX6_lawFor_1 : decode cX6_lawFor 1 = .ok (.getfield 10, 3) := by decide +kernel
theorem dX6_lawFor_4 : decode cX6_lawFor 4 = .ok (.iload_n 1, 1) := by decide +kernel
theorem dX6_lawFor_5 : decode cX6_lawFor 5 = .ok (.invokevirtual 71, 3) := by decide +kernel
theorem dX6_lawFor_8 : decode cX6_lawFor 8 = .ok (.ifCond .ne 9, 3) := by decide +kernel
theorem dX6_lawFor_11 : decode cX6_lawFor 11 = .ok (.aload_n 0, 1) := by decide +kernel
theorem dX6_lawFor_12 : decode cX6_lawFor 12 = .ok (.iconst 0, 1) := by decide +kernel
theorem dX6_lawFor_13 : decode cX6_lawFor 13 = .ok (.invokevirtual 59, 3) := by decide +kernel
theorem dX6_lawFor_16 : decode cX6_lawFor 16 = .ok (.ireturn, 1) := by decide +kernel
theorem dX6_lawFor_17 : decode cX6_lawFor 17 = .ok (.aload_n 0, 1) := by decide +kernel
theorem dX6_lawFor_18 : decode cX6_lawFor 18 = .ok (.iload_n 1, 1) := by decide +kernel
theorem dX6_lawFor_19 : decode cX6_lawFor 19 = .ok (.iconst 2, 1) := by decide +kernel
theorem dX6_lawFor_20 : decode cX6_lawFor 20 = .ok (.iconst 1, 1) := by decide +kernel
theorem dX6_lawFor_21 : decode cX6_lawFor 21 = .ok (.iconst 3, 1) := by decide +kernel
theorem dX6_lawFor_22 : decode cX6_lawFor 22 = .ok (.invokevirtual 229, 3) := by decide +kernel
theorem dX6_lawFor_25 : decode cX6_lawFor 25 = .ok (.ireturn, 1) := by decide +kernel
set_option maxHeartbeats 4000000 in
set_option maxRecDepth 100000 in
theorem c_X6_lawFor (l : Launch) (D : va_G) (cy : Nat → ClassId) (ad adK adV : Nat → Nat) (M : Mm) (o0 : Nat) (a1 : Int32) (res : Mm × Int32) (h : f_X6_lawFor M o0 a1 = some res) : Met l yX6_lawFor (wU yX6_lawFor cX6_lawFor 2 (some .int)) rmX6_lawFor (va_Pc [.ref (ad o0), .int a1] (Pre D cy shX ad nX adK adV M)) (va_Qi (fun r (M2 : Mm) => r = res.2 ∧ M2 = res.1) (Pre D cy shX ad nX adK adV) (Aw ad nX)) 0 0 (Aw ad nX) := by
  refine Met.ofW (cc := cX6_lawFor) (maxL := 2) (ret := (some .int)) (by decide) rfl ?_
  intro p e s m args below meth c s₁ B hml hv
  obtain ⟨hargs, hPre⟩ := hv
  have hx := B.exec
  have hb := B.bytes
  have hr := B.returns
  have hts := atoms_spec (ws := wU yX6_lawFor cX6_lawFor 2 (some .int)) B.pre
  have hq : ∀ w ∈ gW, w.before args s = true := fun w hw => hts w (List.mem_cons_of_mem _ hw)
  have hcm : ∀ w ∈ gW, w ∈ wU yX6_lawFor cX6_lawFor 2 (some .int) := fun w hw => List.mem_cons_of_mem _ hw
  have hown : s.vm.findClass RX6 = some m.cls := findClass_of_methodNamed B.named
  have hlocks := B.notSynchronized
  have hF : CallFix p m c cX6_lawFor 2 s args (wU yX6_lawFor cX6_lawFor 2 (some .int)) RX6 := ⟨hx, hb, hml, hown, hts⟩
  have hK := hPre.2.1
  have hZ := hPre.2.2.2
  have hw : Wd D cy shX ad nX (Aw ad nX) s.heap M s.heap [] := ⟨hPre.1, hPre.2.2.1, va_S.rf⟩
  have iw6 : ∀ w ∈ u_ws RX6 TX6 8, w ∈ wU yX6_lawFor cX6_lawFor 2 (some .int) := fun w hw => List.mem_cons_of_mem _ (iX6 w hw)
  rw [show entryFrame m args 2 = entryFrame m ([.ref (ad o0), .int a1] : List Value).toArray 2 from by rw [hargs]]
  have hl := lv_entry ([.ref (ad o0), .int a1]) (n := 2) (Nat.le_of_ble_eq_true rfl)
  rw [lg_entry_eq]
  generalize (lg_sl ([.ref (ad o0), .int a1]) ++ List.replicate (2 - (lg_sl ([.ref (ad o0), .int a1])).length) Slot.unset).toArray = ls at hl ⊢
  have hl : lv_has ls 2 [(0, .ref (ad o0)), (1, .int a1)] := hl
  unfold f_X6_lawFor at h
  refine lv_aload_n hx hb dX6_lawFor_0 rfl (lv_at hl 0 rfl) ?_
  replace h := gd_some h
  obtain ⟨g1, h⟩ := h
  replace h := bd_some h
  obtain ⟨q2, eq2, h⟩ := h
  refine r_getR hx hb hts iw6 hown hK hw o0 0 g1 (by decide) rfl (by decide) rfl (hq _ qw336) (fun _ h9 => h9) dX6_lawFor_1 eq2 ?_
  refine lv_iload_n hx hb dX6_lawFor_4 rfl (lv_at hl 1 rfl) ?_
  replace h := gd_some h
  obtain ⟨g4, h⟩ := h
  replace h := bd_some h
  obtain ⟨r3, er3, h⟩ := h
  refine r_callVi (As := [.int a1]) (rest := []) hF (c_X1_hasSide l D cy ad adK adV M q2 a1 r3 er3) (gW_goodV hcm qw391 qw388 qw389 qw390 qw62) hdX1_hasSide rfl ⟨Nat.le_of_ble_eq_true rfl, Nat.le_of_ble_eq_true rfl⟩ rfl rfl hZ hK hw g4 (by decide) rfl rfl hl.1 rfl (Nat.le_of_ble_eq_true rfl) ⟨Nat.zero_le _, Nat.zero_le _⟩ dX6_lawFor_5 (fun H locs hw => ?_)
  refine lv_if_ne (tgt := 17) hx hb dX6_lawFor_8 (by decide) (fun c5 => ?_) (fun c5 => ?_)
  · replace h := if_some_f c5 h
    refine lv_aload_n hx hb dX6_lawFor_17 rfl (lv_at hl 0 rfl) ?_
    refine lv_iload_n hx hb dX6_lawFor_18 rfl (lv_at hl 1 rfl) ?_
    refine lv_iconst (v := (2 : Int32)) hx hb dX6_lawFor_19 (by decide) ?_
    refine lv_iconst (v := (1 : Int32)) hx hb dX6_lawFor_20 (by decide) ?_
    refine lv_iconst (v := (3 : Int32)) hx hb dX6_lawFor_21 (by decide) ?_
    replace h := bd_some h
    obtain ⟨r6, er6, h⟩ := h
    refine r_callVi (As := [.int a1, .int (2 : Int32), .int (1 : Int32), .int (3 : Int32)]) (rest := []) hF (c_X6_greatestMean l D cy ad adK adV r3.1 o0 a1 (2 : Int32) (1 : Int32) (3 : Int32) r6 er6) (gW_goodV hcm qw739 qw736 qw738 qw15 qw61) hdX6_greatestMean rfl ⟨Nat.le_of_ble_eq_true rfl, Nat.le_of_ble_eq_true rfl⟩ rfl rfl hZ hK hw g1 (by decide) rfl rfl hl.1 rfl (Nat.le_of_ble_eq_true rfl) ⟨Nat.zero_le _, Nat.zero_le _⟩ dX6_lawFor_22 (fun H locs hw => ?_)
    exact r_iret hx hb hr rfl hlocks hZ hK hw h dX6_lawFor_25
  · replace h := if_some_t c5 h
    refine lv_aload_n hx hb dX6_lawFor_11 rfl (lv_at hl 0 rfl) ?_
    refine lv_iconst (v := (0 : Int32)) hx hb dX6_lawFor_12 (by decide) ?_
    replace h := bd_some h
    obtain ⟨r7, er7, h⟩ := h
    refine r_callVi (As := [.int (0 : Int32)]) (rest := []) hF (c_X6_finding l D cy ad adK adV r3.1 o0 (0 : Int32) r7 er7) (gW_goodV hcm qw374 qw371 qw373 qw0 qw61) hdX6_finding rfl ⟨Nat.le_of_ble_eq_true rfl, Nat.le_of_ble_eq_true rfl⟩ rfl rfl hZ hK hw g1 (by decide) rfl rfl hl.1 rfl (Nat.le_of_ble_eq_true rfl) ⟨Nat.zero_le _, Nat.zero_le _⟩ dX6_lawFor_13 (fun H locs hw => ?_)
    exact r_iret hx hb hr rfl hlocks hZ hK hw h dX6_lawFor_16
theorem dX6_gains_0 : decode cX6_gains 0 = .ok (.aload_n 0, 1) := by decide +kernel
theorem dX6_gains_1 : decode cX6_gains 1 = .ok (.getfield 10, 3) := by decide +kernel
theorem dX6_gains_4 : decode cX6_gains 4 = .ok (.getfield 63, 3) := by decide +kernel
theorem dX6_gains_7 : decode cX6_gains 7 = .ok (.ifCond .ne 9, 3) := by decide +kernel
theorem dX6_gains_10 : decode cX6_gains 10 = .ok (.aload_n 0, 1) := by decide +kernel
theorem dX6_gains_11 : decode cX6_gains 11 = .ok (.iconst 3, 1) := by decide +kernel
theorem dX6_gains_12 : decode cX6_gains 12 = .ok (.invokevirtual 59, 3) := by decide +kernel
theorem dX6_gains_15 : decode cX6_gains 15 = .ok (.ireturn, 1) := by decide +kernel
theorem dX6_gains_16 : decode cX6_gains 16 = .ok (.aload_n 0, 1) := by decide +kernel
theorem dX6_gains_17 : decode cX6_gains 17 = .ok (.getfield 31, 3) := by decide +kernel
theorem dX6_gains_20 : decode cX6_gains 20 = .ok (.aload_n 0, 1) := by decide +kernel
theorem dX6_gains_21 : decode cX6_gains 21 = .ok (.getfield 10, 3) := by decide +kernel
theorem dX6_gains_24 : decode cX6_gains 24 = .ok (.invokevirtual 151, 3) := by decide +kernel
theorem dX6_gains_27 : decode cX6_gains 27 = .ok (.aload_n 0, 1) := by decide +kernel
theorem dX6_gains_28 : decode cX6_gains 28 = .ok (.getfield 31, 3) := by decide +kernel
theorem dX6_gains_31 : decode cX6_gains 31 = .ok (.iconst 1, 1) := by decide +kernel
theorem dX6_gains_32 : decode cX6_gains 32 = .ok (.putfield 141, 3) := by decide +kernel
theorem dX6_gains_35 : decode cX6_gains 35 = .ok (.aload_n 0, 1) := by decide +kernel
theorem dX6_gains_36 : decode cX6_gains 36 = .ok (.getfield 26, 3) := by decide +kernel
theorem dX6_gains_39 : decode cX6_gains 39 = .ok (.iconst 0, 1) := by decide +kernel
theorem dX6_gains_40 : decode cX6_gains 40 = .ok (.iconst 0, 1) := by decide +kernel
theorem dX6_gains_41 : decode cX6_gains 41 = .ok (.iconst 0, 1) := by decide +kernel
theorem dX6_gains_42 : decode cX6_gains 42 = .ok (.invokevirtual 213, 3) := by decide +kernel
theorem dX6_gains_45 : decode cX6_gains 45 = .ok (.aload_n 0, 1) := by decide +kernel
theorem dX6_gains_46 : decode cX6_gains 46 = .ok (.getfield 26, 3) := by decide +kernel
theorem dX6_gains_49 : decode cX6_gains 49 = .ok (.invokevirtual 236, 3) := by decide +kernel
theorem dX6_gains_52 : decode cX6_gains 52 = .ok (.aload_n 0, 1) := by decide +kernel
theorem dX6_gains_53 : decode cX6_gains 53 = .ok (.getfield 31, 3) := by decide +kernel
theorem dX6_gains_56 : decode cX6_gains 56 = .ok (.iconst 3, 1) := by decide +kernel
theorem dX6_gains_57 : decode cX6_gains 57 = .ok (.putfield 141, 3) := by decide +kernel
theorem dX6_gains_60 : decode cX6_gains 60 = .ok (.aload_n 0, 1) := by decide +kernel
theorem dX6_gains_61 : decode cX6_gains 61 = .ok (.getfield 26, 3) := by decide +kernel
theorem dX6_gains_64 : decode cX6_gains 64 = .ok (.iconst 0, 1) := by decide +kernel
theorem dX6_gains_65 : decode cX6_gains 65 = .ok (.iconst 0, 1) := by decide +kernel
theorem dX6_gains_66 : decode cX6_gains 66 = .ok (.iconst 0, 1) := by decide +kernel
theorem dX6_gains_67 : decode cX6_gains 67 = .ok (.invokevirtual 213, 3) := by decide +kernel
theorem dX6_gains_70 : decode cX6_gains 70 = .ok (.iconst 0, 1) := by decide +kernel
theorem dX6_gains_71 : decode cX6_gains 71 = .ok (.istore_n 1, 1) := by decide +kernel
theorem dX6_gains_72 : decode cX6_gains 72 = .ok (.iconst 1, 1) := by decide +kernel
theorem dX6_gains_73 : decode cX6_gains 73 = .ok (.istore_n 2, 1) := by decide +kernel
theorem dX6_gains_74 : decode cX6_gains 74 = .ok (.iload_n 2, 1) := by decide +kernel
theorem dX6_gains_75 : decode cX6_gains 75 = .ok (.aload_n 0, 1) := by decide +kernel
theorem dX6_gains_76 : decode cX6_gains 76 = .ok (.getfield 10, 3) := by decide +kernel
theorem dX6_gains_79 : decode cX6_gains 79 = .ok (.getfield 63, 3) := by decide +kernel
theorem dX6_gains_82 : decode cX6_gains 82 = .ok (.if_icmp .ge 31, 3) := by decide +kernel
theorem dX6_gains_85 : decode cX6_gains 85 = .ok (.aload_n 0, 1) := by decide +kernel
theorem dX6_gains_86 : decode cX6_gains 86 = .ok (.getfield 26, 3) := by decide +kernel
theorem dX6_gains_89 : decode cX6_gains 89 = .ok (.iload_n 2, 1) := by decide +kernel
theorem dX6_gains_90 : decode cX6_gains 90 = .ok (.invokevirtual 239, 3) := by decide +kernel
theorem dX6_gains_93 : decode cX6_gains 93 = .ok (.aload_n 0, 1) := by decide +kernel
theorem dX6_gains_94 : decode cX6_gains 94 = .ok (.getfield 26, 3) := by decide +kernel
theorem dX6_gains_97 : decode cX6_gains 97 = .ok (.iload_n 1, 1) := by decide +kernel
theorem dX6_gains_98 : decode cX6_gains 98 = .ok (.invokevirtual 239, 3) := by decide +kernel
theorem dX6_gains_101 : decode cX6_gains 101 = .ok (.lcmp, 1) := by decide +kernel
theorem dX6_gains_102 : decode cX6_gains 102 = .ok (.ifCond .le 5, 3) := by decide +kernel
theorem dX6_gains_105 : decode cX6_gains 105 = .ok (.iload_n 2, 1) := by decide +kernel
theorem dX6_gains_106 : decode cX6_gains 106 = .ok (.istore_n 1, 1) := by decide +kernel
theorem dX6_gains_107 : decode cX6_gains 107 = .ok (.iinc 2 1, 3) := by decide +kernel
theorem dX6_gains_110 : decode cX6_gains 110 = .ok (.goto (-36), 3) := by decide +kernel
theorem dX6_gains_113 : decode cX6_gains 113 = .ok (.iload_n 1, 1) := by decide +kernel
theorem dX6_gains_114 : decode cX6_gains 114 = .ok (.ireturn, 1) := by decide +kernel
set_option maxHeartbeats 4000000 in
set_option maxRecDepth 100000 in
theorem c_X6_gains (l : Launch) (D : va_G) (cy : Nat → ClassId) (ad adK adV : Nat → Nat) (M : Mm) (o0 : Nat) (res : Mm × Int32) (h : f_X6_gains M o0 = some res) : Met l yX6_gains (wU yX6_gains cX6_gains 3 (some .int)) rmX6_gains (va_Pc [.ref (ad o0)] (Pre D cy shX ad nX adK adV M)) (va_Qi (fun r (M2 : Mm) => r = res.2 ∧ M2 = res.1) (Pre D cy shX ad nX adK adV) (Aw ad nX)) 0 0 (Aw ad nX) := by
  refine Met.ofW (cc := cX6_gains) (maxL := 3) (ret := (some .int)) (by decide) rfl ?_
  intro p e s m args below meth c s₁ B hml hv
  obtain ⟨hargs, hPre⟩ := hv
  have hx := B.exec
  have hb := B.bytes
  have hr := B.returns
  have hts := atoms_spec (ws := wU yX6_gains cX6_gains 3 (some .int)) B.pre
  have hq : ∀ w ∈ gW, w.before args s = true := fun w hw => hts w (List.mem_cons_of_mem _ hw)
  have hcm : ∀ w ∈ gW, w ∈ wU yX6_gains cX6_gains 3 (some .int) := fun w hw => List.mem_cons_of_mem _ hw
  have hown : s.vm.findClass RX6 = some m.cls := findClass_of_methodNamed B.named
  have hlocks := B.notSynchronized
  have hF : CallFix p m c cX6_gains 3 s args (wU yX6_gains cX6_gains 3 (some .int)) RX6 := ⟨hx, hb, hml, hown, hts⟩
  have hK := hPre.2.1
  have hZ := hPre.2.2.2
  have hw : Wd D cy shX ad nX (Aw ad nX) s.heap M s.heap [] := ⟨hPre.1, hPre.2.2.1, va_S.rf⟩
  have iw1 : ∀ w ∈ u_ws RX1 TX1 11, w ∈ wU yX6_gains cX6_gains 3 (some .int) := fun w hw => List.mem_cons_of_mem _ (iX1 w hw)
  have iw6 : ∀ w ∈ u_ws RX6 TX6 8, w ∈ wU yX6_gains cX6_gains 3 (some .int) := fun w hw => List.mem_cons_of_mem _ (iX6 w hw)
  rw [show entryFrame m args 3 = entryFrame m ([.ref (ad o0)] : List Value).toArray 3 from by rw [hargs]]
  have hl := lv_entry ([.ref (ad o0)]) (n := 3) (Nat.le_of_ble_eq_true rfl)
  rw [lg_entry_eq]
  generalize (lg_sl ([.ref (ad o0)]) ++ List.replicate (3 - (lg_sl ([.ref (ad o0)])).length) Slot.unset).toArray = ls at hl ⊢
  have hl : lv_has ls 3 [(0, .ref (ad o0))] := hl
  have hb107 : ∀ (k74 : Mm → Nat → Int32 → Int32 → Option (Mm × Int32)) (hk74 : ∀ (M : Mm) (x0 : Nat) (x1 : Int32) (x2 : Int32), k74 M x0 x1 x2 = some res → ∀ (H : Heap) (locs : List Loc) (ls : Array Slot), Wd D cy shX ad nX (Aw ad nX) s.heap M H locs → lv_has ls 3 [(0, .ref (ad x0)), (1, .int x1), (2, .int x2)] → W p l e (headSpec (wU yX6_gains cX6_gains 3 (some .int)) rmX6_gains).room s m args below meth c H locs 0 0 (QI D cy shX ad nX adK adV below args s res) (F0 m 74 ls [])), ∀ (M : Mm) (x0 : Nat) (x1 : Int32) (x2 : Int32), f_X6_gains_b107 k74 M x0 x1 x2 = some res → ∀ (H : Heap) (locs : List Loc) (ls : Array Slot), Wd D cy shX ad nX (Aw ad nX) s.heap M H locs → lv_has ls 3 [(0, .ref (ad x0)), (1, .int x1), (2, .int x2)] → W p l e (headSpec (wU yX6_gains cX6_gains 3 (some .int)) rmX6_gains).room s m args below meth c H locs 0 0 (QI D cy shX ad nX adK adV below args s res) (F0 m 107 ls []) := by
    intro k74 hk74
    intro M x0 x1 x2 h H locs ls hw hl
    unfold f_X6_gains_b107 at h
    refine lv_iinc (v := x2 + (1 : Int32)) (lv' := [(2, .int (x2 + (1 : Int32))), (0, .ref (ad x0)), (1, .int x1)]) hx hb dX6_gains_107 hl (k := 2) rfl (congrArg (fun z => x2 + z) (by decide)) (by decide) rfl (fun ls hl => ?_)
    refine lv_goto (tgt := 74) hx hb dX6_gains_110 (by decide) ?_
    exact hk74 _ _ _ _ h _ _ _ hw (lv_sub hl [1, 2, 0] rfl)
  have hb74 : ∀ (nn : Nat), ∀ (M : Mm) (x0 : Nat) (x1 : Int32) (x2 : Int32), f_X6_gains_b74 nn M x0 x1 x2 = some res → ∀ (H : Heap) (locs : List Loc) (ls : Array Slot), Wd D cy shX ad nX (Aw ad nX) s.heap M H locs → lv_has ls 3 [(0, .ref (ad x0)), (1, .int x1), (2, .int x2)] → W p l e (headSpec (wU yX6_gains cX6_gains 3 (some .int)) rmX6_gains).room s m args below meth c H locs 0 0 (QI D cy shX ad nX adK adV below args s res) (F0 m 74 ls []) := by
    intro nn
    induction nn with
    | zero => intro M x0 x1 x2 h; simp [f_X6_gains_b74] at h
    | succ nn ih =>
      intro M x0 x1 x2 h H locs ls hw hl
      unfold f_X6_gains_b74 at h
      refine lv_iload_n hx hb dX6_gains_74 rfl (lv_at hl 2 rfl) ?_
      refine lv_aload_n hx hb dX6_gains_75 rfl (lv_at hl 0 rfl) ?_
      replace h := gd_some h
      obtain ⟨g1, h⟩ := h
      replace h := bd_some h
      obtain ⟨q2, eq2, h⟩ := h
      refine r_getR hx hb hts iw6 hown hK hw x0 0 g1 (by decide) rfl (by decide) rfl (hq _ qw336) (fun _ h9 => h9) dX6_gains_76 eq2 ?_
      replace h := gd_some h
      obtain ⟨g3, h⟩ := h
      refine r_getI hx hb hts iw1 hown hK hw q2 3 g3 (by decide) rfl (by decide) rfl (hq _ qw191) (fun _ h9 => h9) dX6_gains_79 ?_
      refine lv_icmp_ge (tgt := 113) hx hb dX6_gains_82 (by decide) (fun c4 => ?_) (fun c4 => ?_)
      · replace h := if_some_t c4 h
        refine lv_iload_n hx hb dX6_gains_113 rfl (lv_at hl 1 rfl) ?_
        exact r_iret hx hb hr rfl hlocks hZ hK hw h dX6_gains_114
      · replace h := if_some_f c4 h
        refine lv_aload_n hx hb dX6_gains_85 rfl (lv_at hl 0 rfl) ?_
        replace h := bd_some h
        obtain ⟨q5, eq5, h⟩ := h
        refine r_getR hx hb hts iw6 hown hK hw x0 3 g1 (by decide) rfl (by decide) rfl (hq _ qw339) (fun _ h9 => h9) dX6_gains_86 eq5 ?_
        refine lv_iload_n hx hb dX6_gains_89 rfl (lv_at hl 2 rfl) ?_
        replace h := gd_some h
        obtain ⟨g7, h⟩ := h
        replace h := bd_some h
        obtain ⟨r6, er6, h⟩ := h
        refine r_callVl (As := [.int x2]) (rest := []) hF (c_X5_keptAbovePointSum l D cy ad adK adV M q5 x2 r6 er6) (gW_goodV hcm qw786 qw783 qw784 qw785 qw65) hdX5_keptAbovePointSum rfl ⟨Nat.le_of_ble_eq_true rfl, Nat.le_of_ble_eq_true rfl⟩ rfl rfl hZ hK hw g7 (by decide) rfl rfl hl.1 rfl (Nat.le_of_ble_eq_true rfl) ⟨Nat.zero_le _, Nat.zero_le _⟩ dX6_gains_90 (fun H locs hw => ?_)
        refine lv_aload_n hx hb dX6_gains_93 rfl (lv_at hl 0 rfl) ?_
        replace h := bd_some h
        obtain ⟨q8, eq8, h⟩ := h
        refine r_getR hx hb hts iw6 hown hK hw x0 3 g1 (by decide) rfl (by decide) rfl (hq _ qw339) (fun _ h9 => h9) dX6_gains_94 eq8 ?_
        refine lv_iload_n hx hb dX6_gains_97 rfl (lv_at hl 1 rfl) ?_
        replace h := gd_some h
        obtain ⟨g10, h⟩ := h
        replace h := bd_some h
        obtain ⟨r9, er9, h⟩ := h
        refine r_callVl (As := [.int x1]) (rest := [.long r6.2]) hF (c_X5_keptAbovePointSum l D cy ad adK adV r6.1 q8 x1 r9 er9) (gW_goodV hcm qw786 qw783 qw784 qw785 qw65) hdX5_keptAbovePointSum rfl ⟨Nat.le_of_ble_eq_true rfl, Nat.le_of_ble_eq_true rfl⟩ rfl rfl hZ hK hw g10 (by decide) rfl rfl hl.1 rfl (Nat.le_of_ble_eq_true rfl) ⟨Nat.zero_le _, Nat.zero_le _⟩ dX6_gains_98 (fun H locs hw => ?_)
        refine W.lcmp hx hb dX6_gains_101 ?_
        refine lv_if_le (tgt := 107) hx hb dX6_gains_102 (by decide) (fun c11 => ?_) (fun c11 => ?_)
        · replace h := if_some_t c11 h
          exact hb107 _ ih _ _ _ _ h _ _ _ hw (lv_sub hl [0, 1, 2] rfl)
        · replace h := if_some_f c11 h
          refine lv_iload_n hx hb dX6_gains_105 rfl (lv_at hl 2 rfl) ?_
          refine lv_istore_n (lv' := [(1, .int x2), (0, .ref (ad x0)), (2, .int x2)]) hx hb dX6_gains_106 rfl hl (by decide) rfl (fun ls hl => ?_)
          exact hb107 _ ih _ _ _ _ h _ _ _ hw (lv_sub hl [1, 0, 2] rfl)
  unfold f_X6_gains at h
  refine lv_aload_n hx hb dX6_gains_0 rfl (lv_at hl 0 rfl) ?_
  replace h := gd_some h
  obtain ⟨g12, h⟩ := h
  replace h := bd_some h
  obtain ⟨q13, eq13, h⟩ := h
  refine r_getR hx hb hts iw6 hown hK hw o0 0 g12 (by decide) rfl (by decide) rfl (hq _ qw336) (fun _ h9 => h9) dX6_gains_1 eq13 ?_
  replace h := gd_some h
  obtain ⟨g14, h⟩ := h
  refine r_getI hx hb hts iw1 hown hK hw q13 3 g14 (by decide) rfl (by decide) rfl (hq _ qw191) (fun _ h9 => h9) dX6_gains_4 ?_
  refine lv_if_ne (tgt := 16) hx hb dX6_gains_7 (by decide) (fun c15 => ?_) (fun c15 => ?_)
  · replace h := if_some_f c15 h
    refine lv_aload_n hx hb dX6_gains_16 rfl (lv_at hl 0 rfl) ?_
    replace h := bd_some h
    obtain ⟨q16, eq16, h⟩ := h
    refine r_getR hx hb hts iw6 hown hK hw o0 4 g12 (by decide) rfl (by decide) rfl (hq _ qw340) (fun _ h9 => h9) dX6_gains_17 eq16 ?_
    refine lv_aload_n hx hb dX6_gains_20 rfl (lv_at hl 0 rfl) ?_
    replace h := bd_some h
    obtain ⟨q17, eq17, h⟩ := h
    refine r_getR hx hb hts iw6 hown hK hw o0 0 g12 (by decide) rfl (by decide) rfl (hq _ qw336) (fun _ h9 => h9) dX6_gains_21 eq17 ?_
    replace h := gd_some h
    obtain ⟨g19, h⟩ := h
    replace h := bd_some h
    obtain ⟨r18, er18, h⟩ := h
    refine r_callVv (As := [.ref (ad q17)]) (rest := []) hF (c_X1_become l D cy ad adK adV M q16 q17 r18 er18) (gW_goodV hcm qw458 qw455 qw456 qw457 qw62) hdX1_become rfl ⟨Nat.le_of_ble_eq_true rfl, Nat.le_of_ble_eq_true rfl⟩ rfl rfl hZ hK hw g19 (by decide) rfl rfl hl.1 rfl (Nat.le_of_ble_eq_true rfl) ⟨Nat.zero_le _, Nat.zero_le _⟩ dX6_gains_24 (fun H locs hw => ?_)
    refine lv_aload_n hx hb dX6_gains_27 rfl (lv_at hl 0 rfl) ?_
    replace h := bd_some h
    obtain ⟨q20, eq20, h⟩ := h
    refine r_getR hx hb hts iw6 hown hK hw o0 4 g12 (by decide) rfl (by decide) rfl (hq _ qw340) (fun _ h9 => h9) dX6_gains_28 eq20 ?_
    refine lv_iconst (v := (1 : Int32)) hx hb dX6_gains_31 (by decide) ?_
    replace h := gd_some h
    obtain ⟨g21, h⟩ := h
    refine r_putI hx hb hts iw1 tyX1 tyX1_ok nmX1 hown hK hw q20 6 g21 (by decide) rfl (by decide) rfl (hq _ qw203) (fun _ h9 => h9) rfl rfl rfl dX6_gains_32 (fun H locs hw => ?_)
    replace h := lt_some h
    obtain ⟨M22, eM22, h⟩ := h
    rw [← eM22] at hw
    refine lv_aload_n hx hb dX6_gains_35 rfl (lv_at hl 0 rfl) ?_
    replace h := bd_some h
    obtain ⟨q23, eq23, h⟩ := h
    refine r_getR hx hb hts iw6 hown hK hw o0 3 g12 (by decide) rfl (by decide) rfl (hq _ qw339) (fun _ h9 => h9) dX6_gains_36 eq23 ?_
    refine lv_iconst (v := (0 : Int32)) hx hb dX6_gains_39 (by decide) ?_
    refine lv_iconst (v := (0 : Int32)) hx hb dX6_gains_40 (by decide) ?_
    refine lv_iconst (v := (0 : Int32)) hx hb dX6_gains_41 (by decide) ?_
    replace h := gd_some h
    obtain ⟨g25, h⟩ := h
    replace h := bd_some h
    obtain ⟨r24, er24, h⟩ := h
    refine r_callVv (As := [.int (0 : Int32), .int (0 : Int32), .int (0 : Int32)]) (rest := []) hF (c_X5_over l D cy ad adK adV M22 q23 (0 : Int32) (0 : Int32) (0 : Int32) r24 er24) (gW_goodV hcm qw681 qw678 qw679 qw680 qw65) hdX5_over rfl ⟨Nat.le_of_ble_eq_true rfl, Nat.le_of_ble_eq_true rfl⟩ rfl rfl hZ hK hw g25 (by decide) rfl rfl hl.1 rfl (Nat.le_of_ble_eq_true rfl) ⟨Nat.zero_le _, Nat.zero_le _⟩ dX6_gains_42 (fun H locs hw => ?_)
    refine lv_aload_n hx hb dX6_gains_45 rfl (lv_at hl 0 rfl) ?_
    replace h := bd_some h
    obtain ⟨q26, eq26, h⟩ := h
    refine r_getR hx hb hts iw6 hown hK hw o0 3 g12 (by decide) rfl (by decide) rfl (hq _ qw339) (fun _ h9 => h9) dX6_gains_46 eq26 ?_
    replace h := gd_some h
    obtain ⟨g28, h⟩ := h
    replace h := bd_some h
    obtain ⟨r27, er27, h⟩ := h
    refine r_callVv (As := []) (rest := []) hF (c_X5_keepPointSums l D cy ad adK adV r24.1 q26 r27 er27) (gW_goodV hcm qw781 qw778 qw779 qw780 qw65) hdX5_keepPointSums rfl ⟨Nat.le_of_ble_eq_true rfl, Nat.le_of_ble_eq_true rfl⟩ rfl rfl hZ hK hw g28 (by decide) rfl rfl hl.1 rfl (Nat.le_of_ble_eq_true rfl) ⟨Nat.zero_le _, Nat.zero_le _⟩ dX6_gains_49 (fun H locs hw => ?_)
    refine lv_aload_n hx hb dX6_gains_52 rfl (lv_at hl 0 rfl) ?_
    replace h := bd_some h
    obtain ⟨q29, eq29, h⟩ := h
    refine r_getR hx hb hts iw6 hown hK hw o0 4 g12 (by decide) rfl (by decide) rfl (hq _ qw340) (fun _ h9 => h9) dX6_gains_53 eq29 ?_
    refine lv_iconst (v := (3 : Int32)) hx hb dX6_gains_56 (by decide) ?_
    replace h := gd_some h
    obtain ⟨g30, h⟩ := h
    refine r_putI hx hb hts iw1 tyX1 tyX1_ok nmX1 hown hK hw q29 6 g30 (by decide) rfl (by decide) rfl (hq _ qw203) (fun _ h9 => h9) rfl rfl rfl dX6_gains_57 (fun H locs hw => ?_)
    replace h := lt_some h
    obtain ⟨M31, eM31, h⟩ := h
    rw [← eM31] at hw
    refine lv_aload_n hx hb dX6_gains_60 rfl (lv_at hl 0 rfl) ?_
    replace h := bd_some h
    obtain ⟨q32, eq32, h⟩ := h
    refine r_getR hx hb hts iw6 hown hK hw o0 3 g12 (by decide) rfl (by decide) rfl (hq _ qw339) (fun _ h9 => h9) dX6_gains_61 eq32 ?_
    refine lv_iconst (v := (0 : Int32)) hx hb dX6_gains_64 (by decide) ?_
    refine lv_iconst (v := (0 : Int32)) hx hb dX6_gains_65 (by decide) ?_
    refine lv_iconst (v := (0 : Int32)) hx hb dX6_gains_66 (by decide) ?_
    replace h := gd_some h
    obtain ⟨g34, h⟩ := h
    replace h := bd_some h
    obtain ⟨r33, er33, h⟩ := h
    refine r_callVv (As := [.int (0 : Int32), .int (0 : Int32), .int (0 : Int32)]) (rest := []) hF (c_X5_over l D cy ad adK adV M31 q32 (0 : Int32) (0 : Int32) (0 : Int32) r33 er33) (gW_goodV hcm qw681 qw678 qw679 qw680 qw65) hdX5_over rfl ⟨Nat.le_of_ble_eq_true rfl, Nat.le_of_ble_eq_true rfl⟩ rfl rfl hZ hK hw g34 (by decide) rfl rfl hl.1 rfl (Nat.le_of_ble_eq_true rfl) ⟨Nat.zero_le _, Nat.zero_le _⟩ dX6_gains_67 (fun H locs hw => ?_)
    refine lv_iconst (v := (0 : Int32)) hx hb dX6_gains_70 (by decide) ?_
    refine lv_istore_n (lv' := [(1, .int (0 : Int32)), (0, .ref (ad o0))]) hx hb dX6_gains_71 rfl hl (by decide) rfl (fun ls hl => ?_)
    refine lv_iconst (v := (1 : Int32)) hx hb dX6_gains_72 (by decide) ?_
    refine lv_istore_n (lv' := [(2, .int (1 : Int32)), (1, .int (0 : Int32)), (0, .ref (ad o0))]) hx hb dX6_gains_73 rfl hl (by decide) rfl (fun ls hl => ?_)
    exact hb74 1000 _ _ _ _ h _ _ _ hw (lv_sub hl [2, 1, 0] rfl)
  · replace h := if_some_t c15 h
    refine lv_aload_n hx hb dX6_gains_10 rfl (lv_at hl 0 rfl) ?_
    refine lv_iconst (v := (3 : Int32)) hx hb dX6_gains_11 (by decide) ?_
    replace h := bd_some h
    obtain ⟨r35, er35, h⟩ := h
    refine r_callVi (As := [.int (3 : Int32)]) (rest := []) hF (c_X6_finding l D cy ad adK adV M o0 (3 : Int32) r35 er35) (gW_goodV hcm qw374 qw371 qw373 qw0 qw61) hdX6_finding rfl ⟨Nat.le_of_ble_eq_true rfl, Nat.le_of_ble_eq_true rfl⟩ rfl rfl hZ hK hw g12 (by decide) rfl rfl hl.1 rfl (Nat.le_of_ble_eq_true rfl) ⟨Nat.zero_le _, Nat.zero_le _⟩ dX6_gains_12 (fun H locs hw => ?_)
    exact r_iret hx hb hr rfl hlocks hZ hK hw h dX6_gains_15
theorem dX6_wronged_0 : decode cX6_wronged 0 = .ok (.aload_n 0, 1) := by decide +kernel
theorem dX6_wronged_1 : decode cX6_wronged 1 = .ok (.invokevirtual 192, 3) := by decide +kernel
theorem dX6_wronged_4 : decode cX6_wronged 4 = .ok (.iconst 0, 1) := by decide +kernel
theorem dX6_wronged_5 : decode cX6_wronged 5 = .ok (.istore_n 1, 1) := by decide +kernel
theorem dX6_wronged_6 : decode cX6_wronged 6 = .ok (.aload_n 0, 1) := by decide +kernel
theorem dX6_wronged_7 : decode cX6_wronged 7 = .ok (.getfield 10, 3) := by decide +kernel
theorem dX6_wronged_10 : decode cX6_wronged 10 = .ok (.getfield 117, 3) := by decide +kernel
theorem dX6_wronged_13 : decode cX6_wronged 13 = .ok (.istore_n 2, 1) := by decide +kernel
theorem dX6_wronged_14 : decode cX6_wronged 14 = .ok (.iload_n 2, 1) := by decide +kernel
theorem dX6_wronged_15 : decode cX6_wronged 15 = .ok (.aload_n 0, 1) := by decide +kernel
theorem dX6_wronged_16 : decode cX6_wronged 16 = .ok (.getfield 10, 3) := by decide +kernel
theorem dX6_wronged_19 : decode cX6_wronged 19 = .ok (.getfield 108, 3) := by decide +kernel
theorem dX6_wronged_22 : decode cX6_wronged 22 = .ok (.if_icmp .ge 102, 3) := by decide +kernel
theorem dX6_wronged_25 : decode cX6_wronged 25 = .ok (.aload_n 0, 1) := by decide +kernel
theorem dX6_wronged_26 : decode cX6_wronged 26 = .ok (.getfield 10, 3) := by decide +kernel
theorem dX6_wronged_29 : decode cX6_wronged 29 = .ok (.getfield 120, 3) := by decide +kernel
theorem dX6_wronged_32 : decode cX6_wronged 32 = .ok (.iload_n 2, 1) := by decide +kernel
theorem dX6_wronged_33 : decode cX6_wronged 33 = .ok (.aaload, 1) := by decide +kernel
theorem dX6_wronged_34 : decode cX6_wronged 34 = .ok (.astore_n 3, 1) := by decide +kernel
theorem dX6_wronged_35 : decode cX6_wronged 35 = .ok (.aload_n 0, 1) := by decide +kernel
theorem dX6_wronged_36 : decode cX6_wronged 36 = .ok (.getfield 10, 3) := by decide +kernel
theorem dX6_wronged_39 : decode cX6_wronged 39 = .ok (.getfield 74, 3) := by decide +kernel
theorem dX6_wronged_42 : decode cX6_wronged 42 = .ok (.aload_n 3, 1) := by decide +kernel
theorem dX6_wronged_43 : decode cX6_wronged 43 = .ok (.getfield 124, 3) := by decide +kernel
theorem dX6_wronged_46 : decode cX6_wronged 46 = .ok (.aaload, 1) := by decide +kernel
theorem dX6_wronged_47 : decode cX6_wronged 47 = .ok (.getfield 83, 3) := by decide +kernel
theorem dX6_wronged_50 : decode cX6_wronged 50 = .ok (.aload_n 0, 1) := by decide +kernel
theorem dX6_wronged_51 : decode cX6_wronged 51 = .ok (.getfield 10, 3) := by decide +kernel
theorem dX6_wronged_54 : decode cX6_wronged 54 = .ok (.getfield 74, 3) := by decide +kernel
theorem dX6_wronged_57 : decode cX6_wronged 57 = .ok (.aload_n 3, 1) := by decide +kernel
theorem dX6_wronged_58 : decode cX6_wronged 58 = .ok (.getfield 129, 3) := by decide +kernel
theorem dX6_wronged_61 : decode cX6_wronged 61 = .ok (.aaload, 1) := by decide +kernel
theorem dX6_wronged_62 : decode cX6_wronged 62 = .ok (.getfield 83, 3) := by decide +kernel
theorem dX6_wronged_65 : decode cX6_wronged 65 = .ok (.isub, 1) := by decide +kernel
theorem dX6_wronged_66 : decode cX6_wronged 66 = .ok (.istore 4, 2) := by decide +kernel
theorem dX6_wronged_68 : decode cX6_wronged 68 = .ok (.ldc2_w 243, 3) := by decide +kernel
theorem dX6_wronged_71 : decode cX6_wronged 71 = .ok (.aload_n 0, 1) := by decide +kernel
theorem dX6_wronged_72 : decode cX6_wronged 72 = .ok (.getfield 26, 3) := by decide +kernel
theorem dX6_wronged_75 : decode cX6_wronged 75 = .ok (.getfield 195, 3) := by decide +kernel
theorem dX6_wronged_78 : decode cX6_wronged 78 = .ok (.iload_n 2, 1) := by decide +kernel
theorem dX6_wronged_79 : decode cX6_wronged 79 = .ok (.laload, 1) := by decide +kernel
theorem dX6_wronged_80 : decode cX6_wronged 80 = .ok (.lmul, 1) := by decide +kernel
theorem dX6_wronged_81 : decode cX6_wronged 81 = .ok (.aload_n 0, 1) := by decide +kernel
theorem dX6_wronged_82 : decode cX6_wronged 82 = .ok (.getfield 26, 3) := by decide +kernel
theorem dX6_wronged_85 : decode cX6_wronged 85 = .ok (.getfield 199, 3) := by decide +kernel
theorem dX6_wronged_88 : decode cX6_wronged 88 = .ok (.lsub, 1) := by decide +kernel
theorem dX6_wronged_89 : decode cX6_wronged 89 = .ok (.lstore 5, 2) := by decide +kernel
theorem dX6_wronged_91 : decode cX6_wronged 91 = .ok (.iload 4, 2) := by decide +kernel
theorem dX6_wronged_93 : decode cX6_wronged 93 = .ok (.ifCond .le 10, 3) := by decide +kernel
theorem dX6_wronged_96 : decode cX6_wronged 96 = .ok (.lload 5, 2) := by decide +kernel
theorem dX6_wronged_98 : decode cX6_wronged 98 = .ok (.lconst 0, 1) := by decide +kernel
theorem dX6_wronged_99 : decode cX6_wronged 99 = .ok (.lcmp, 1) := by decide +kernel
theorem dX6_wronged_100 : decode cX6_wronged 100 = .ok (.ifCond .lt 15, 3) := by decide +kernel
theorem dX6_wronged_103 : decode cX6_wronged 103 = .ok (.iload 4, 2) := by decide +kernel
theorem dX6_wronged_105 : decode cX6_wronged 105 = .ok (.ifCond .ge 13, 3) := by decide +kernel
theorem dX6_wronged_108 : decode cX6_wronged 108 = .ok (.lload 5, 2) := by decide +kernel
theorem dX6_wronged_110 : decode cX6_wronged 110 = .ok (.lconst 0, 1) := by decide +kernel
theorem dX6_wronged_111 : decode cX6_wronged 111 = .ok (.lcmp, 1) := by decide +kernel
theorem dX6_wronged_112 : decode cX6_wronged 112 = .ok (.ifCond .le 6, 3) := by decide +kernel
theorem dX6_wronged_115 : decode cX6_wronged 115 = .ok (.iinc 1 1, 3) := by decide +kernel
theorem dX6_wronged_118 : decode cX6_wronged 118 = .ok (.iinc 2 1, 3) := by decide +kernel
theorem dX6_wronged_121 : decode cX6_wronged 121 = .ok (.goto (-107), 3) := by decide +kernel
theorem dX6_wronged_124 : decode cX6_wronged 124 = .ok (.iload_n 1, 1) := by decide +kernel
theorem dX6_wronged_125 : decode cX6_wronged 125 = .ok (.ireturn, 1) := by decide +kernel
set_option maxHeartbeats 4000000 in
set_option maxRecDepth 100000 in
theorem c_X6_wronged (l : Launch) (D : va_G) (cy : Nat → ClassId) (ad adK adV : Nat → Nat) (M : Mm) (o0 : Nat) (res : Mm × Int32) (h : f_X6_wronged M o0 = some res) : Met l yX6_wronged (wU yX6_wronged cX6_wronged 7 (some .int)) rmX6_wronged (va_Pc [.ref (ad o0)] (Pre D cy shX ad nX adK adV M)) (va_Qi (fun r (M2 : Mm) => r = res.2 ∧ M2 = res.1) (Pre D cy shX ad nX adK adV) (Aw ad nX)) 0 0 (Aw ad nX) := by
  refine Met.ofW (cc := cX6_wronged) (maxL := 7) (ret := (some .int)) (by decide) rfl ?_
  intro p e s m args below meth c s₁ B hml hv
  obtain ⟨hargs, hPre⟩ := hv
  have hx := B.exec
  have hb := B.bytes
  have hr := B.returns
  have hts := atoms_spec (ws := wU yX6_wronged cX6_wronged 7 (some .int)) B.pre
  have hq : ∀ w ∈ gW, w.before args s = true := fun w hw => hts w (List.mem_cons_of_mem _ hw)
  have hcm : ∀ w ∈ gW, w ∈ wU yX6_wronged cX6_wronged 7 (some .int) := fun w hw => List.mem_cons_of_mem _ hw
  have hown : s.vm.findClass RX6 = some m.cls := findClass_of_methodNamed B.named
  have hlocks := B.notSynchronized
  have hF : CallFix p m c cX6_wronged 7 s args (wU yX6_wronged cX6_wronged 7 (some .int)) RX6 := ⟨hx, hb, hml, hown, hts⟩
  have hK := hPre.2.1
  have hZ := hPre.2.2.2
  have hw : Wd D cy shX ad nX (Aw ad nX) s.heap M s.heap [] := ⟨hPre.1, hPre.2.2.1, va_S.rf⟩
  have iw0 : ∀ w ∈ u_ws RX0 TX0 9, w ∈ wU yX6_wronged cX6_wronged 7 (some .int) := fun w hw => List.mem_cons_of_mem _ (iX0 w hw)
  have iw1 : ∀ w ∈ u_ws RX1 TX1 11, w ∈ wU yX6_wronged cX6_wronged 7 (some .int) := fun w hw => List.mem_cons_of_mem _ (iX1 w hw)
  have iw3 : ∀ w ∈ u_ws RX3 TX3 6, w ∈ wU yX6_wronged cX6_wronged 7 (some .int) := fun w hw => List.mem_cons_of_mem _ (iX3 w hw)
  have iw5 : ∀ w ∈ u_ws RX5 TX5 13, w ∈ wU yX6_wronged cX6_wronged 7 (some .int) := fun w hw => List.mem_cons_of_mem _ (iX5 w hw)
  have iw6 : ∀ w ∈ u_ws RX6 TX6 8, w ∈ wU yX6_wronged cX6_wronged 7 (some .int) := fun w hw => List.mem_cons_of_mem _ (iX6 w hw)
  rw [show entryFrame m args 7 = entryFrame m ([.ref (ad o0)] : List Value).toArray 7 from by rw [hargs]]
  have hl := lv_entry ([.ref (ad o0)]) (n := 7) (Nat.le_of_ble_eq_true rfl)
  rw [lg_entry_eq]
  generalize (lg_sl ([.ref (ad o0)]) ++ List.replicate (7 - (lg_sl ([.ref (ad o0)])).length) Slot.unset).toArray = ls at hl ⊢
  have hl : lv_has ls 7 [(0, .ref (ad o0))] := hl
  have hb118 : ∀ (k14 : Mm → Nat → Int32 → Int32 → Option (Mm × Int32)) (hk14 : ∀ (M : Mm) (x0 : Nat) (x1 : Int32) (x2 : Int32), k14 M x0 x1 x2 = some res → ∀ (H : Heap) (locs : List Loc) (ls : Array Slot), Wd D cy shX ad nX (Aw ad nX) s.heap M H locs → lv_has ls 7 [(0, .ref (ad x0)), (1, .int x1), (2, .int x2)] → W p l e (headSpec (wU yX6_wronged cX6_wronged 7 (some .int)) rmX6_wronged).room s m args below meth c H locs 0 0 (QI D cy shX ad nX adK adV below args s res) (F0 m 14 ls [])), ∀ (M : Mm) (x0 : Nat) (x1 : Int32) (x2 : Int32), f_X6_wronged_b118 k14 M x0 x1 x2 = some res → ∀ (H : Heap) (locs : List Loc) (ls : Array Slot), Wd D cy shX ad nX (Aw ad nX) s.heap M H locs → lv_has ls 7 [(0, .ref (ad x0)), (1, .int x1), (2, .int x2)] → W p l e (headSpec (wU yX6_wronged cX6_wronged 7 (some .int)) rmX6_wronged).room s m args below meth c H locs 0 0 (QI D cy shX ad nX adK adV below args s res) (F0 m 118 ls []) := by
    intro k14 hk14
    intro M x0 x1 x2 h H locs ls hw hl
    unfold f_X6_wronged_b118 at h
    refine lv_iinc (v := x2 + (1 : Int32)) (lv' := [(2, .int (x2 + (1 : Int32))), (0, .ref (ad x0)), (1, .int x1)]) hx hb dX6_wronged_118 hl (k := 2) rfl (congrArg (fun z => x2 + z) (by decide)) (by decide) rfl (fun ls hl => ?_)
    refine lv_goto (tgt := 14) hx hb dX6_wronged_121 (by decide) ?_
    exact hk14 _ _ _ _ h _ _ _ hw (lv_sub hl [1, 2, 0] rfl)
  have hb115 : ∀ (k14 : Mm → Nat → Int32 → Int32 → Option (Mm × Int32)) (hk14 : ∀ (M : Mm) (x0 : Nat) (x1 : Int32) (x2 : Int32), k14 M x0 x1 x2 = some res → ∀ (H : Heap) (locs : List Loc) (ls : Array Slot), Wd D cy shX ad nX (Aw ad nX) s.heap M H locs → lv_has ls 7 [(0, .ref (ad x0)), (1, .int x1), (2, .int x2)] → W p l e (headSpec (wU yX6_wronged cX6_wronged 7 (some .int)) rmX6_wronged).room s m args below meth c H locs 0 0 (QI D cy shX ad nX adK adV below args s res) (F0 m 14 ls [])), ∀ (M : Mm) (x0 : Nat) (x1 : Int32) (x2 : Int32), f_X6_wronged_b115 k14 M x0 x1 x2 = some res → ∀ (H : Heap) (locs : List Loc) (ls : Array Slot), Wd D cy shX ad nX (Aw ad nX) s.heap M H locs → lv_has ls 7 [(0, .ref (ad x0)), (1, .int x1), (2, .int x2)] → W p l e (headSpec (wU yX6_wronged cX6_wronged 7 (some .int)) rmX6_wronged).room s m args below meth c H locs 0 0 (QI D cy shX ad nX adK adV below args s res) (F0 m 115 ls []) := by
    intro k14 hk14
    intro M x0 x1 x2 h H locs ls hw hl
    unfold f_X6_wronged_b115 at h
    refine lv_iinc (v := x1 + (1 : Int32)) (lv' := [(1, .int (x1 + (1 : Int32))), (0, .ref (ad x0)), (2, .int x2)]) hx hb dX6_wronged_115 hl (k := 1) rfl (congrArg (fun z => x1 + z) (by decide)) (by decide) rfl (fun ls hl => ?_)
    exact hb118 _ hk14 _ _ _ _ h _ _ _ hw (lv_sub hl [1, 0, 2] rfl)
  have hb103 : ∀ (k14 : Mm → Nat → Int32 → Int32 → Option (Mm × Int32)) (hk14 : ∀ (M : Mm) (x0 : Nat) (x1 : Int32) (x2 : Int32), k14 M x0 x1 x2 = some res → ∀ (H : Heap) (locs : List Loc) (ls : Array Slot), Wd D cy shX ad nX (Aw ad nX) s.heap M H locs → lv_has ls 7 [(0, .ref (ad x0)), (1, .int x1), (2, .int x2)] → W p l e (headSpec (wU yX6_wronged cX6_wronged 7 (some .int)) rmX6_wronged).room s m args below meth c H locs 0 0 (QI D cy shX ad nX adK adV below args s res) (F0 m 14 ls [])), ∀ (M : Mm) (x0 : Nat) (x1 : Int32) (x2 : Int32) (x4 : Int32) (x5 : Int64), f_X6_wronged_b103 k14 M x0 x1 x2 x4 x5 = some res → ∀ (H : Heap) (locs : List Loc) (ls : Array Slot), Wd D cy shX ad nX (Aw ad nX) s.heap M H locs → lv_has ls 7 [(0, .ref (ad x0)), (1, .int x1), (2, .int x2), (4, .int x4), (5, .long x5)] → W p l e (headSpec (wU yX6_wronged cX6_wronged 7 (some .int)) rmX6_wronged).room s m args below meth c H locs 0 0 (QI D cy shX ad nX adK adV below args s res) (F0 m 103 ls []) := by
    intro k14 hk14
    intro M x0 x1 x2 x4 x5 h H locs ls hw hl
    unfold f_X6_wronged_b103 at h
    refine lv_iload hx hb dX6_wronged_103 (lv_at hl 3 rfl) ?_
    refine lv_if_ge (tgt := 118) hx hb dX6_wronged_105 (by decide) (fun c1 => ?_) (fun c1 => ?_)
    · replace h := if_some_t c1 h
      exact hb118 _ hk14 _ _ _ _ h _ _ _ hw (lv_sub hl [0, 1, 2] rfl)
    · replace h := if_some_f c1 h
      refine lv_lload hx hb dX6_wronged_108 (lv_at hl 4 rfl) ?_
      refine lv_lconst (v := (0 : Int64)) hx hb dX6_wronged_110 (by decide) ?_
      refine W.lcmp hx hb dX6_wronged_111 ?_
      refine lv_if_le (tgt := 118) hx hb dX6_wronged_112 (by decide) (fun c2 => ?_) (fun c2 => ?_)
      · replace h := if_some_t c2 h
        exact hb118 _ hk14 _ _ _ _ h _ _ _ hw (lv_sub hl [0, 1, 2] rfl)
      · replace h := if_some_f c2 h
        exact hb115 _ hk14 _ _ _ _ h _ _ _ hw (lv_sub hl [0, 1, 2] rfl)
  have hb14 : ∀ (nn : Nat), ∀ (M : Mm) (x0 : Nat) (x1 : Int32) (x2 : Int32), f_X6_wronged_b14 nn M x0 x1 x2 = some res → ∀ (H : Heap) (locs : List Loc) (ls : Array Slot), Wd D cy shX ad nX (Aw ad nX) s.heap M H locs → lv_has ls 7 [(0, .ref (ad x0)), (1, .int x1), (2, .int x2)] → W p l e (headSpec (wU yX6_wronged cX6_wronged 7 (some .int)) rmX6_wronged).room s m args below meth c H locs 0 0 (QI D cy shX ad nX adK adV below args s res) (F0 m 14 ls []) := by
    intro nn
    induction nn with
    | zero => intro M x0 x1 x2 h; simp [f_X6_wronged_b14] at h
    | succ nn ih =>
      intro M x0 x1 x2 h H locs ls hw hl
      unfold f_X6_wronged_b14 at h
      refine lv_iload_n hx hb dX6_wronged_14 rfl (lv_at hl 2 rfl) ?_
      refine lv_aload_n hx hb dX6_wronged_15 rfl (lv_at hl 0 rfl) ?_
      replace h := gd_some h
      obtain ⟨g3, h⟩ := h
      replace h := bd_some h
      obtain ⟨q4, eq4, h⟩ := h
      refine r_getR hx hb hts iw6 hown hK hw x0 0 g3 (by decide) rfl (by decide) rfl (hq _ qw336) (fun _ h9 => h9) dX6_wronged_16 eq4 ?_
      replace h := gd_some h
      obtain ⟨g5, h⟩ := h
      refine r_getI hx hb hts iw1 hown hK hw q4 4 g5 (by decide) rfl (by decide) rfl (hq _ qw196) (fun _ h9 => h9) dX6_wronged_19 ?_
      refine lv_icmp_ge (tgt := 124) hx hb dX6_wronged_22 (by decide) (fun c6 => ?_) (fun c6 => ?_)
      · replace h := if_some_t c6 h
        refine lv_iload_n hx hb dX6_wronged_124 rfl (lv_at hl 1 rfl) ?_
        exact r_iret hx hb hr rfl hlocks hZ hK hw h dX6_wronged_125
      · replace h := if_some_f c6 h
        refine lv_aload_n hx hb dX6_wronged_25 rfl (lv_at hl 0 rfl) ?_
        replace h := bd_some h
        obtain ⟨q7, eq7, h⟩ := h
        refine r_getR hx hb hts iw6 hown hK hw x0 0 g3 (by decide) rfl (by decide) rfl (hq _ qw336) (fun _ h9 => h9) dX6_wronged_26 eq7 ?_
        replace h := gd_some h
        obtain ⟨g8, h⟩ := h
        replace h := bd_some h
        obtain ⟨q9, eq9, h⟩ := h
        refine r_getR hx hb hts iw1 hown hK hw q7 1 g8 (by decide) rfl (by decide) rfl (hq _ qw187) (fun _ h9 => h9) dX6_wronged_29 eq9 ?_
        refine lv_iload_n hx hb dX6_wronged_32 rfl (lv_at hl 2 rfl) ?_
        replace h := gd_some h
        obtain ⟨g10, h⟩ := h
        replace h := bd_some h
        obtain ⟨q11, eq11, h⟩ := h
        refine r_aald hx hb hK hw q9 3 (by decide) rfl g10 dX6_wronged_33 eq11 ?_
        refine lv_astore_n (lv' := [(3, .ref (ad q11)), (0, .ref (ad x0)), (1, .int x1), (2, .int x2)]) hx hb dX6_wronged_34 rfl hl (by decide) rfl (fun ls hl => ?_)
        refine lv_aload_n hx hb dX6_wronged_35 rfl (lv_at hl 1 rfl) ?_
        replace h := bd_some h
        obtain ⟨q12, eq12, h⟩ := h
        refine r_getR hx hb hts iw6 hown hK hw x0 0 g3 (by decide) rfl (by decide) rfl (hq _ qw336) (fun _ h9 => h9) dX6_wronged_36 eq12 ?_
        replace h := gd_some h
        obtain ⟨g13, h⟩ := h
        replace h := bd_some h
        obtain ⟨q14, eq14, h⟩ := h
        refine r_getR hx hb hts iw1 hown hK hw q12 0 g13 (by decide) rfl (by decide) rfl (hq _ qw183) (fun _ h9 => h9) dX6_wronged_39 eq14 ?_
        refine lv_aload_n hx hb dX6_wronged_42 rfl (lv_at hl 0 rfl) ?_
        replace h := gd_some h
        obtain ⟨g15, h⟩ := h
        refine r_getI hx hb hts iw0 hown hK hw q11 0 g15 (by decide) rfl (by decide) rfl (hq _ qw137) (fun _ h9 => h9) dX6_wronged_43 ?_
        replace h := gd_some h
        obtain ⟨g16, h⟩ := h
        replace h := bd_some h
        obtain ⟨q17, eq17, h⟩ := h
        refine r_aald hx hb hK hw q14 2 (by decide) rfl g16 dX6_wronged_46 eq17 ?_
        replace h := gd_some h
        obtain ⟨g18, h⟩ := h
        refine r_getI hx hb hts iw3 hown hK hw q17 1 g18 (by decide) rfl (by decide) rfl (hq _ qw102) (fun _ h9 => h9) dX6_wronged_47 ?_
        refine lv_aload_n hx hb dX6_wronged_50 rfl (lv_at hl 1 rfl) ?_
        replace h := bd_some h
        obtain ⟨q19, eq19, h⟩ := h
        refine r_getR hx hb hts iw6 hown hK hw x0 0 g3 (by decide) rfl (by decide) rfl (hq _ qw336) (fun _ h9 => h9) dX6_wronged_51 eq19 ?_
        replace h := gd_some h
        obtain ⟨g20, h⟩ := h
        replace h := bd_some h
        obtain ⟨q21, eq21, h⟩ := h
        refine r_getR hx hb hts iw1 hown hK hw q19 0 g20 (by decide) rfl (by decide) rfl (hq _ qw183) (fun _ h9 => h9) dX6_wronged_54 eq21 ?_
        refine lv_aload_n hx hb dX6_wronged_57 rfl (lv_at hl 0 rfl) ?_
        refine r_getI hx hb hts iw0 hown hK hw q11 1 g15 (by decide) rfl (by decide) rfl (hq _ qw141) (fun _ h9 => h9) dX6_wronged_58 ?_
        replace h := gd_some h
        obtain ⟨g22, h⟩ := h
        replace h := bd_some h
        obtain ⟨q23, eq23, h⟩ := h
        refine r_aald hx hb hK hw q21 2 (by decide) rfl g22 dX6_wronged_61 eq23 ?_
        replace h := gd_some h
        obtain ⟨g24, h⟩ := h
        refine r_getI hx hb hts iw3 hown hK hw q23 1 g24 (by decide) rfl (by decide) rfl (hq _ qw102) (fun _ h9 => h9) dX6_wronged_62 ?_
        refine lv_isub hx hb dX6_wronged_65 ?_
        refine lv_istore (lv' := [(4, .int ((M.1 q17 1) - (M.1 q23 1))), (3, .ref (ad q11)), (0, .ref (ad x0)), (1, .int x1), (2, .int x2)]) hx hb dX6_wronged_66 hl (by decide) rfl (fun ls hl => ?_)
        refine lv_ldc2 (v := (2 : Int64)) hx hb hown (hq _ qw791) dX6_wronged_68 ?_
        refine lv_aload_n hx hb dX6_wronged_71 rfl (lv_at hl 2 rfl) ?_
        replace h := bd_some h
        obtain ⟨q25, eq25, h⟩ := h
        refine r_getR hx hb hts iw6 hown hK hw x0 3 g3 (by decide) rfl (by decide) rfl (hq _ qw339) (fun _ h9 => h9) dX6_wronged_72 eq25 ?_
        replace h := gd_some h
        obtain ⟨g26, h⟩ := h
        replace h := bd_some h
        obtain ⟨q27, eq27, h⟩ := h
        refine r_getR hx hb hts iw5 hown hK hw q25 3 g26 (by decide) rfl (by decide) rfl (hq _ qw247) (fun _ h9 => h9) dX6_wronged_75 eq27 ?_
        refine lv_iload_n hx hb dX6_wronged_78 rfl (lv_at hl 4 rfl) ?_
        replace h := gd_some h
        obtain ⟨g28, h⟩ := h
        refine r_lald hx hb hK hw q27 g28 dX6_wronged_79 ?_
        refine lv_lmul hx hb dX6_wronged_80 ?_
        refine lv_aload_n hx hb dX6_wronged_81 rfl (lv_at hl 2 rfl) ?_
        replace h := bd_some h
        obtain ⟨q29, eq29, h⟩ := h
        refine r_getR hx hb hts iw6 hown hK hw x0 3 g3 (by decide) rfl (by decide) rfl (hq _ qw339) (fun _ h9 => h9) dX6_wronged_82 eq29 ?_
        replace h := gd_some h
        obtain ⟨g30, h⟩ := h
        refine r_getL hx hb hts iw5 hown hK hw q29 6 g30 (by decide) rfl (by decide) rfl (hq _ qw252) (fun _ h9 => h9) dX6_wronged_85 ?_
        refine lv_lsub hx hb dX6_wronged_88 ?_
        refine lv_topl (fun y31 ey31 => ?_)
        replace h := lt_at ey31 h
        refine lv_lstore (lv' := [(5, .long y31), (4, .int ((M.1 q17 1) - (M.1 q23 1))), (3, .ref (ad q11)), (0, .ref (ad x0)), (1, .int x1), (2, .int x2)]) hx hb dX6_wronged_89 hl (by decide) rfl (fun ls hl => ?_)
        refine lv_iload hx hb dX6_wronged_91 (lv_at hl 1 rfl) ?_
        refine lv_if_le (tgt := 103) hx hb dX6_wronged_93 (by decide) (fun c32 => ?_) (fun c32 => ?_)
        · replace h := if_some_t c32 h
          exact hb103 _ ih _ _ _ _ _ _ h _ _ _ hw (lv_sub hl [3, 4, 5, 1, 0] rfl)
        · replace h := if_some_f c32 h
          refine lv_lload hx hb dX6_wronged_96 (lv_at hl 0 rfl) ?_
          refine lv_lconst (v := (0 : Int64)) hx hb dX6_wronged_98 (by decide) ?_
          refine W.lcmp hx hb dX6_wronged_99 ?_
          refine lv_if_lt (tgt := 115) hx hb dX6_wronged_100 (by decide) (fun c33 => ?_) (fun c33 => ?_)
          · replace h := if_some_t c33 h
            exact hb115 _ ih _ _ _ _ h _ _ _ hw (lv_sub hl [3, 4, 5] rfl)
          · replace h := if_some_f c33 h
            exact hb103 _ ih _ _ _ _ _ _ h _ _ _ hw (lv_sub hl [3, 4, 5, 1, 0] rfl)
  unfold f_X6_wronged at h
  refine lv_aload_n hx hb dX6_wronged_0 rfl (lv_at hl 0 rfl) ?_
  replace h := gd_some h
  obtain ⟨g35, h⟩ := h
  replace h := bd_some h
  obtain ⟨r34, er34, h⟩ := h
  refine r_callVv (As := []) (rest := []) hF (c_X6_goLikelyWays l D cy ad adK adV M o0 r34 er34) (gW_goodV hcm qw677 qw674 qw676 qw11 qw61) hdX6_goLikelyWays rfl ⟨Nat.le_of_ble_eq_true rfl, Nat.le_of_ble_eq_true rfl⟩ rfl rfl hZ hK hw g35 (by decide) rfl rfl hl.1 rfl (Nat.le_of_ble_eq_true rfl) ⟨Nat.zero_le _, Nat.zero_le _⟩ dX6_wronged_1 (fun H locs hw => ?_)
  refine lv_iconst (v := (0 : Int32)) hx hb dX6_wronged_4 (by decide) ?_
  refine lv_istore_n (lv' := [(1, .int (0 : Int32)), (0, .ref (ad o0))]) hx hb dX6_wronged_5 rfl hl (by decide) rfl (fun ls hl => ?_)
  refine lv_aload_n hx hb dX6_wronged_6 rfl (lv_at hl 1 rfl) ?_
  replace h := bd_some h
  obtain ⟨q36, eq36, h⟩ := h
  refine r_getR hx hb hts iw6 hown hK hw o0 0 g35 (by decide) rfl (by decide) rfl (hq _ qw336) (fun _ h9 => h9) dX6_wronged_7 eq36 ?_
  replace h := gd_some h
  obtain ⟨g37, h⟩ := h
  refine r_getI hx hb hts iw1 hown hK hw q36 5 g37 (by decide) rfl (by decide) rfl (hq _ qw200) (fun _ h9 => h9) dX6_wronged_10 ?_
  refine lv_istore_n (lv' := [(2, .int (r34.1.1 q36 5)), (1, .int (0 : Int32)), (0, .ref (ad o0))]) hx hb dX6_wronged_13 rfl hl (by decide) rfl (fun ls hl => ?_)
  exact hb14 1000 _ _ _ _ h _ _ _ hw (lv_sub hl [2, 1, 0] rfl)

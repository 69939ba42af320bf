theorem dX6_gains_0 : decode cX6_gains 0 = .ok (.aload_n 0, 1) := by decide +kernel
theorem dX6_gains_1 : decode cX6_gains 1 = .ok (.getfield 10, 3) := by decide +kernel
theorem dX6_gains_4 : decode cX6_gains 4 = .ok (.getfield 63, 3) := by decide +kernel
theorem dX6_gains_7 : decode cX6_gains 7 = .ok (.ifCond .ne 9, 3) := by decide +kernel
theorem dX6_gains_10 : decode cX6_gains 10 = .ok (.aload_n 0, 1) := by decide +kernel
theorem dX6_gains_11 : decode cX6_gains 11 = .ok (.iconst 3, 1) := by decide +kernel
theorem dX6_gains_12 : decode cX6_gains 12 = .ok (.invokevirtual 59, 3) := by decide +kernel
theorem dX6_gains_15 : decode cX6_gains 15 = .ok (.ireturn, 1) := by decide +kernel
theorem dX6_gains_16 : decode cX6_gains 16 = .ok (.aload_n 0, 1) := by decide +kernel
theorem dX6_gains_17 : decode cX6_gains 17 = .ok (.getfield 31, 3) := by decide +kernel
theorem dX6_gains_20 : decode cX6_gains 20 = .ok (.aload_n 0, 1) := by decide +kernel
theorem dX6_gains_21 : decode cX6_gains 21 = .ok (.getfield 10, 3) := by decide +kernel
theorem dX6_gains_24 : decode cX6_gains 24 = .ok (.invokevirtual 151, 3) := by decide +kernel
theorem dX6_gains_27 : decode cX6_gains 27 = .ok (.aload_n 0, 1) := by decide +kernel
theorem dX6_gains_28 : decode cX6_gains 28 = .ok (.getfield 31, 3) := by decide +kernel
theorem dX6_gains_31 : decode cX6_gains 31 = .ok (.iconst 1, 1) := by decide +kernel
theorem dX6_gains_32 : decode cX6_gains 32 = .ok (.putfield 141, 3) := by decide +kernel
theorem dX6_gains_35 : decode cX6_gains 35 = .ok (.aload_n 0, 1) := by decide +kernel
theorem dX6_gains_36 : decode cX6_gains 36 = .ok (.getfield 26, 3) := by decide +kernel
theorem dX6_gains_39 : decode cX6_gains 39 = .ok (.iconst 0, 1) := by decide +kernel
theorem dX6_gains_40 : decode cX6_gains 40 = .ok (.iconst 0, 1) := by decide +kernel
theorem dX6_gains_41 : decode cX6_gains 41 = .ok (.iconst 0, 1) := by decide +kernel
theorem dX6_gains_42 : decode cX6_gains 42 = .ok (.invokevirtual 213, 3) := by decide +kernel
theorem dX6_gains_45 : decode cX6_gains 45 = .ok (.aload_n 0, 1) := by decide +kernel
theorem dX6_gains_46 : decode cX6_gains 46 = .ok (.getfield 26, 3) := by decide +kernel
theorem dX6_gains_49 : decode cX6_gains 49 = .ok (.invokevirtual 236, 3) := by decide +kernel
theorem dX6_gains_52 : decode cX6_gains 52 = .ok (.aload_n 0, 1) := by decide +kernel
theorem dX6_gains_53 : decode cX6_gains 53 = .ok (.getfield 31, 3) := by decide +kernel
theorem dX6_gains_56 : decode cX6_gains 56 = .ok (.iconst 3, 1) := by decide +kernel
theorem dX6_gains_57 : decode cX6_gains 57 = .ok (.putfield 141, 3) := by decide +kernel
theorem dX6_gains_60 : decode cX6_gains 60 = .ok (.aload_n 0, 1) := by decide +kernel
theorem dX6_gains_61 : decode cX6_gains 61 = .ok (.getfield 26, 3) := by decide +kernel
theorem dX6_gains_64 : decode cX6_gains 64 = .ok (.iconst 0, 1) := by decide +kernel
theorem dX6_gains_65 : decode cX6_gains 65 = .ok (.iconst 0, 1) := by decide +kernel
theorem dX6_gains_66 : decode cX6_gains 66 = .ok (.iconst 0, 1) := by decide +kernel
theorem dX6_gains_67 : decode cX6_gains 67 = .ok (.invokevirtual 213, 3) := by decide +kernel
theorem dX6_gains_70 : decode cX6_gains 70 = .ok (.iconst 0, 1) := by decide +kernel
theorem dX6_gains_71 : decode cX6_gains 71 = .ok (.istore_n 1, 1) := by decide +kernel
theorem dX6_gains_72 : decode cX6_gains 72 = .ok (.iconst 1, 1) := by decide +kernel
theorem dX6_gains_73 : decode cX6_gains 73 = .ok (.istore_n 2, 1) := by decide +kernel
theorem dX6_gains_74 : decode cX6_gains 74 = .ok (.iload_n 2, 1) := by decide +kernel
theorem dX6_gains_75 : decode cX6_gains 75 = .ok (.aload_n 0, 1) := by decide +kernel
theorem dX6_gains_76 : decode cX6_gains 76 = .ok (.getfield 10, 3) := by decide +kernel
theorem dX6_gains_79 : decode cX6_gains 79 = .ok (.getfield 63, 3) := by decide +kernel
theorem dX6_gains_82 : decode cX6_gains 82 = .ok (.if_icmp .ge 31, 3) := by decide +kernel
theorem dX6_gains_85 : decode cX6_gains 85 = .ok (.aload_n 0, 1) := by decide +kernel
theorem dX6_gains_86 : decode cX6_gains 86 = .ok (.getfield 26, 3) := by decide +kernel
theorem dX6_gains_89 : decode cX6_gains 89 = .ok (.iload_n 2, 1) := by decide +kernel
theorem dX6_gains_90 : decode cX6_gains 90 = .ok (.invokevirtual 239, 3) := by decide +kernel
theorem dX6_gains_93 : decode cX6_gains 93 = .ok (.aload_n 0, 1) := by decide +kernel
theorem dX6_gains_94 : decode cX6_gains 94 = .ok (.getfield 26, 3) := by decide +kernel
theorem dX6_gains_97 : decode cX6_gains 97 = .ok (.iload_n 1, 1) := by decide +kernel
theorem dX6_gains_98 : decode cX6_gains 98 = .ok (.invokevirtual 239, 3) := by decide +kernel
theorem dX6_gains_101 : decode cX6_gains 101 = .ok (.lcmp, 1) := by decide +kernel
theorem dX6_gains_102 : decode cX6_gains 102 = .ok (.ifCond .le 5, 3) := by decide +kernel
theorem dX6_gains_105 : decode cX6_gains 105 = .ok (.iload_n 2, 1) := by decide +kernel
theorem dX6_gains_106 : decode cX6_gains 106 = .ok (.istore_n 1, 1) := by decide +kernel
theorem dX6_gains_107 : decode cX6_gains 107 = .ok (.iinc 2 1, 3) := by decide +kernel
theorem dX6_gains_110 : decode cX6_gains 110 = .ok (.goto (-36), 3) := by decide +kernel
theorem dX6_gains_113 : decode cX6_gains 113 = .ok (.iload_n 1, 1) := by decide +kernel
theorem dX6_gains_114 : decode cX6_gains 114 = .ok (.ireturn, 1) := by decide +kernel
set_option maxHeartbeats 4000000 in
set_option maxRecDepth 100000 in
theorem c_X6_gains (l : Launch) (D : va_G) (cy : Nat → ClassId) (ad adK adV : Nat → Nat) (M : Mm) (o0 : Nat) (res : Mm × Int32) (h : f_X6_gains M o0 = some res) : Met l yX6_gains (wU yX6_gains cX6_gains 3 (some .int)) rmX6_gains (va_Pc [.ref (ad o0)] (Pre D cy shX ad nX adK adV M)) (va_Qi (fun r (M2 : Mm) => r = res.2 ∧ M2 = res.1) (Pre D cy shX ad nX adK adV) (Aw ad nX)) 0 0 (Aw ad nX) := by
  refine Met.ofW (cc := cX6_gains) (maxL := 3) (ret := (some .int)) (by decide) rfl ?_
  intro p e s m args below meth c s₁ B hml hv
  obtain ⟨hargs, hPre⟩ := hv
  have hx := B.exec
  have hb := B.bytes
  have hr := B.returns
  have hts := atoms_spec (ws := wU yX6_gains cX6_gains 3 (some .int)) B.pre
  have hq : ∀ w ∈ gW, w.before args s = true := fun w hw => hts w (List.mem_cons_of_mem _ hw)
  have hcm : ∀ w ∈ gW, w ∈ wU yX6_gains cX6_gains 3 (some .int) := fun w hw => List.mem_cons_of_mem _ hw
  have hown : s.vm.findClass RX6 = some m.cls := findClass_of_methodNamed B.named
  have hlocks := B.notSynchronized
  have hF : CallFix p m c cX6_gains 3 s args (wU yX6_gains cX6_gains 3 (some .int)) RX6 := ⟨hx, hb, hml, hown, hts⟩
  have hK := hPre.2.1
  have hZ := hPre.2.2.2
  have hw : Wd D cy shX ad nX (Aw ad nX) s.heap M s.heap [] := ⟨hPre.1, hPre.2.2.1, va_S.rf⟩
  have iw1 : ∀ w ∈ u_ws RX1 TX1 11, w ∈ wU yX6_gains cX6_gains 3 (some .int) := fun w hw => List.mem_cons_of_mem _ (iX1 w hw)
  have iw6 : ∀ w ∈ u_ws RX6 TX6 8, w ∈ wU yX6_gains cX6_gains 3 (some .int) := fun w hw => List.mem_cons_of_mem _ (iX6 w hw)
  rw [show entryFrame m args 3 = entryFrame m ([.ref (ad o0)] : List Value).toArray 3 from by rw [hargs]]
  have hl := lv_entry ([.ref (ad o0)]) (n := 3) (Nat.le_of_ble_eq_true rfl)
  rw [lg_entry_eq]
  generalize (lg_sl ([.ref (ad o0)]) ++ List.replicate (3 - (lg_sl ([.ref (ad o0)])).length) Slot.unset).toArray = ls at hl ⊢
  have hl : lv_has ls 3 [(0, .ref (ad o0))] := hl
  have hb107 : ∀ (k74 : Mm → Nat → Int32 → Int32 → Option (Mm × Int32)) (hk74 : ∀ (M : Mm) (x0 : Nat) (x1 : Int32) (x2 : Int32), k74 M x0 x1 x2 = some res → ∀ (H : Heap) (locs : List Loc) (ls : Array Slot), Wd D cy shX ad nX (Aw ad nX) s.heap M H locs → lv_has ls 3 [(0, .ref (ad x0)), (1, .int x1), (2, .int x2)] → W p l e (headSpec (wU yX6_gains cX6_gains 3 (some .int)) rmX6_gains).room s m args below meth c H locs 0 0 (QI D cy shX ad nX adK adV below args s res) (F0 m 74 ls [])), ∀ (M : Mm) (x0 : Nat) (x1 : Int32) (x2 : Int32), f_X6_gains_b107 k74 M x0 x1 x2 = some res → ∀ (H : Heap) (locs : List Loc) (ls : Array Slot), Wd D cy shX ad nX (Aw ad nX) s.heap M H locs → lv_has ls 3 [(0, .ref (ad x0)), (1, .int x1), (2, .int x2)] → W p l e (headSpec (wU yX6_gains cX6_gains 3 (some .int)) rmX6_gains).room s m args below meth c H locs 0 0 (QI D cy shX ad nX adK adV below args s res) (F0 m 107 ls []) := by
    intro k74 hk74
    intro M x0 x1 x2 h H locs ls hw hl
    unfold f_X6_gains_b107 at h
    refine lv_iinc (v := x2 + (1 : Int32)) (lv' := [(2, .int (x2 + (1 : Int32))), (0, .ref (ad x0)), (1, .int x1)]) hx hb dX6_gains_107 hl (k := 2) rfl (congrArg (fun z => x2 + z) (by decide)) (by decide) rfl (fun ls hl => ?_)
    refine lv_goto (tgt := 74) hx hb dX6_gains_110 (by decide) ?_
    exact hk74 _ _ _ _ h _ _ _ hw (lv_sub hl [1, 2, 0] rfl)
  have hb74 : ∀ (nn : Nat), ∀ (M : Mm) (x0 : Nat) (x1 : Int32) (x2 : Int32), f_X6_gains_b74 nn M x0 x1 x2 = some res → ∀ (H : Heap) (locs : List Loc) (ls : Array Slot), Wd D cy shX ad nX (Aw ad nX) s.heap M H locs → lv_has ls 3 [(0, .ref (ad x0)), (1, .int x1), (2, .int x2)] → W p l e (headSpec (wU yX6_gains cX6_gains 3 (some .int)) rmX6_gains).room s m args below meth c H locs 0 0 (QI D cy shX ad nX adK adV below args s res) (F0 m 74 ls []) := by
    intro nn
    induction nn with
    | zero => intro M x0 x1 x2 h; simp [f_X6_gains_b74] at h
    | succ nn ih =>
      intro M x0 x1 x2 h H locs ls hw hl
      unfold f_X6_gains_b74 at h
      refine lv_iload_n hx hb dX6_gains_74 rfl (lv_at hl 2 rfl) ?_
      refine lv_aload_n hx hb dX6_gains_75 rfl (lv_at hl 0 rfl) ?_
      replace h := gd_some h
      obtain ⟨g1, h⟩ := h
      replace h := bd_some h
      obtain ⟨q2, eq2, h⟩ := h
      refine r_getR hx hb hts iw6 hown hK hw x0 0 g1 (by decide) rfl (by decide) rfl (hq _ qw335) (fun _ h9 => h9) dX6_gains_76 eq2 ?_
      replace h := gd_some h
      obtain ⟨g3, h⟩ := h
      refine r_getI hx hb hts iw1 hown hK hw q2 3 g3 (by decide) rfl (by decide) rfl (hq _ qw190) (fun _ h9 => h9) dX6_gains_79 ?_
      refine lv_icmp_ge (tgt := 113) hx hb dX6_gains_82 (by decide) (fun c4 => ?_) (fun c4 => ?_)
      · replace h := if_some_t c4 h
        refine lv_iload_n hx hb dX6_gains_113 rfl (lv_at hl 1 rfl) ?_
        exact r_iret hx hb hr rfl hlocks hZ hK hw h dX6_gains_114
      · replace h := if_some_f c4 h
        refine lv_aload_n hx hb dX6_gains_85 rfl (lv_at hl 0 rfl) ?_
        replace h := bd_some h
        obtain ⟨q5, eq5, h⟩ := h
        refine r_getR hx hb hts iw6 hown hK hw x0 3 g1 (by decide) rfl (by decide) rfl (hq _ qw338) (fun _ h9 => h9) dX6_gains_86 eq5 ?_
        refine lv_iload_n hx hb dX6_gains_89 rfl (lv_at hl 2 rfl) ?_
        replace h := gd_some h
        obtain ⟨g7, h⟩ := h
        replace h := bd_some h
        obtain ⟨r6, er6, h⟩ := h
        refine r_callVl (As := [.int x2]) (rest := []) hF (c_X5_keptAbovePointSum l D cy ad adK adV M q5 x2 r6 er6) (gW_goodV hcm qw784 qw781 qw782 qw783 qw64) hdX5_keptAbovePointSum rfl ⟨Nat.le_of_ble_eq_true rfl, Nat.le_of_ble_eq_true rfl⟩ rfl rfl hZ hK hw g7 (by decide) rfl rfl hl.1 rfl (Nat.le_of_ble_eq_true rfl) ⟨Nat.zero_le _, Nat.zero_le _⟩ dX6_gains_90 (fun H locs hw => ?_)
        refine lv_aload_n hx hb dX6_gains_93 rfl (lv_at hl 0 rfl) ?_
        replace h := bd_some h
        obtain ⟨q8, eq8, h⟩ := h
        refine r_getR hx hb hts iw6 hown hK hw x0 3 g1 (by decide) rfl (by decide) rfl (hq _ qw338) (fun _ h9 => h9) dX6_gains_94 eq8 ?_
        refine lv_iload_n hx hb dX6_gains_97 rfl (lv_at hl 1 rfl) ?_
        replace h := gd_some h
        obtain ⟨g10, h⟩ := h
        replace h := bd_some h
        obtain ⟨r9, er9, h⟩ := h
        refine r_callVl (As := [.int x1]) (rest := [.long r6.2]) hF (c_X5_keptAbovePointSum l D cy ad adK adV r6.1 q8 x1 r9 er9) (gW_goodV hcm qw784 qw781 qw782 qw783 qw64) hdX5_keptAbovePointSum rfl ⟨Nat.le_of_ble_eq_true rfl, Nat.le_of_ble_eq_true rfl⟩ rfl rfl hZ hK hw g10 (by decide) rfl rfl hl.1 rfl (Nat.le_of_ble_eq_true rfl) ⟨Nat.zero_le _, Nat.zero_le _⟩ dX6_gains_98 (fun H locs hw => ?_)
        refine W.lcmp hx hb dX6_gains_101 ?_
        refine lv_if_le (tgt := 107) hx hb dX6_gains_102 (by decide) (fun c11 => ?_) (fun c11 => ?_)
        · replace h := if_some_t c11 h
          exact hb107 _ ih _ _ _ _ h _ _ _ hw (lv_sub hl [0, 1, 2] rfl)
        · replace h := if_some_f c11 h
          refine lv_iload_n hx hb dX6_gains_105 rfl (lv_at hl 2 rfl) ?_
          refine lv_istore_n (lv' := [(1, .int x2), (0, .ref (ad x0)), (2, .int x2)]) hx hb dX6_gains_106 rfl hl (by decide) rfl (fun ls hl => ?_)
          exact hb107 _ ih _ _ _ _ h _ _ _ hw (lv_sub hl [1, 0, 2] rfl)
  unfold f_X6_gains at h
  refine lv_aload_n hx hb dX6_gains_0 rfl (lv_at hl 0 rfl) ?_
  replace h := gd_some h
  obtain ⟨g12, h⟩ := h
  replace h := bd_some h
  obtain ⟨q13, eq13, h⟩ := h
  refine r_getR hx hb hts iw6 hown hK hw o0 0 g12 (by decide) rfl (by decide) rfl (hq _ qw335) (fun _ h9 => h9) dX6_gains_1 eq13 ?_
  replace h := gd_some h
  obtain ⟨g14, h⟩ := h
  refine r_getI hx hb hts iw1 hown hK hw q13 3 g14 (by decide) rfl (by decide) rfl (hq _ qw190) (fun _ h9 => h9) dX6_gains_4 ?_
  refine lv_if_ne (tgt := 16) hx hb dX6_gains_7 (by decide) (fun c15 => ?_) (fun c15 => ?_)
  · replace h := if_some_f c15 h
    refine lv_aload_n hx hb dX6_gains_16 rfl (lv_at hl 0 rfl) ?_
    replace h := bd_some h
    obtain ⟨q16, eq16, h⟩ := h
    refine r_getR hx hb hts iw6 hown hK hw o0 4 g12 (by decide) rfl (by decide) rfl (hq _ qw339) (fun _ h9 => h9) dX6_gains_17 eq16 ?_
    refine lv_aload_n hx hb dX6_gains_20 rfl (lv_at hl 0 rfl) ?_
    replace h := bd_some h
    obtain ⟨q17, eq17, h⟩ := h
    refine r_getR hx hb hts iw6 hown hK hw o0 0 g12 (by decide) rfl (by decide) rfl (hq _ qw335) (fun _ h9 => h9) dX6_gains_21 eq17 ?_
    replace h := gd_some h
    obtain ⟨g19, h⟩ := h
    replace h := bd_some h
    obtain ⟨r18, er18, h⟩ := h
    refine r_callVv (As := [.ref (ad q17)]) (rest := []) hF (c_X1_become l D cy ad adK adV M q16 q17 r18 er18) (gW_goodV hcm qw457 qw454 qw455 qw456 qw61) hdX1_become rfl ⟨Nat.le_of_ble_eq_true rfl, Nat.le_of_ble_eq_true rfl⟩ rfl rfl hZ hK hw g19 (by decide) rfl rfl hl.1 rfl (Nat.le_of_ble_eq_true rfl) ⟨Nat.zero_le _, Nat.zero_le _⟩ dX6_gains_24 (fun H locs hw => ?_)
    refine lv_aload_n hx hb dX6_gains_27 rfl (lv_at hl 0 rfl) ?_
    replace h := bd_some h
    obtain ⟨q20, eq20, h⟩ := h
    refine r_getR hx hb hts iw6 hown hK hw o0 4 g12 (by decide) rfl (by decide) rfl (hq _ qw339) (fun _ h9 => h9) dX6_gains_28 eq20 ?_
    refine lv_iconst (v := (1 : Int32)) hx hb dX6_gains_31 (by decide) ?_
    replace h := gd_some h
    obtain ⟨g21, h⟩ := h
    refine r_putI hx hb hts iw1 tyX1 tyX1_ok nmX1 hown hK hw q20 6 g21 (by decide) rfl (by decide) rfl (hq _ qw202) (fun _ h9 => h9) rfl rfl rfl dX6_gains_32 (fun H locs hw => ?_)
    replace h := lt_some h
    obtain ⟨M22, eM22, h⟩ := h
    rw [← eM22] at hw
    refine lv_aload_n hx hb dX6_gains_35 rfl (lv_at hl 0 rfl) ?_
    replace h := bd_some h
    obtain ⟨q23, eq23, h⟩ := h
    refine r_getR hx hb hts iw6 hown hK hw o0 3 g12 (by decide) rfl (by decide) rfl (hq _ qw338) (fun _ h9 => h9) dX6_gains_36 eq23 ?_
    refine lv_iconst (v := (0 : Int32)) hx hb dX6_gains_39 (by decide) ?_
    refine lv_iconst (v := (0 : Int32)) hx hb dX6_gains_40 (by decide) ?_
    refine lv_iconst (v := (0 : Int32)) hx hb dX6_gains_41 (by decide) ?_
    replace h := gd_some h
    obtain ⟨g25, h⟩ := h
    replace h := bd_some h
    obtain ⟨r24, er24, h⟩ := h
    refine r_callVv (As := [.int (0 : Int32), .int (0 : Int32), .int (0 : Int32)]) (rest := []) hF (c_X5_over l D cy ad adK adV M22 q23 (0 : Int32) (0 : Int32) (0 : Int32) r24 er24) (gW_goodV hcm qw680 qw677 qw678 qw679 qw64) hdX5_over rfl ⟨Nat.le_of_ble_eq_true rfl, Nat.le_of_ble_eq_true rfl⟩ rfl rfl hZ hK hw g25 (by decide) rfl rfl hl.1 rfl (Nat.le_of_ble_eq_true rfl) ⟨Nat.zero_le _, Nat.zero_le _⟩ dX6_gains_42 (fun H locs hw => ?_)
    refine lv_aload_n hx hb dX6_gains_45 rfl (lv_at hl 0 rfl) ?_
    replace h := bd_some h
    obtain ⟨q26, eq26, h⟩ := h
    refine r_getR hx hb hts iw6 hown hK hw o0 3 g12 (by decide) rfl (by decide) rfl (hq _ qw338) (fun _ h9 => h9) dX6_gains_46 eq26 ?_
    replace h := gd_some h
    obtain ⟨g28, h⟩ := h
    replace h := bd_some h
    obtain ⟨r27, er27, h⟩ := h
    refine r_callVv (As := []) (rest := []) hF (c_X5_keepPointSums l D cy ad adK adV r24.1 q26 r27 er27) (gW_goodV hcm qw779 qw776 qw777 qw778 qw64) hdX5_keepPointSums rfl ⟨Nat.le_of_ble_eq_true rfl, Nat.le_of_ble_eq_true rfl⟩ rfl rfl hZ hK hw g28 (by decide) rfl rfl hl.1 rfl (Nat.le_of_ble_eq_true rfl) ⟨Nat.zero_le _, Nat.zero_le _⟩ dX6_gains_49 (fun H locs hw => ?_)
    refine lv_aload_n hx hb dX6_gains_52 rfl (lv_at hl 0 rfl) ?_
    replace h := bd_some h
    obtain ⟨q29, eq29, h⟩ := h
    refine r_getR hx hb hts iw6 hown hK hw o0 4 g12 (by decide) rfl (by decide) rfl (hq _ qw339) (fun _ h9 => h9) dX6_gains_53 eq29 ?_
    refine lv_iconst (v := (3 : Int32)) hx hb dX6_gains_56 (by decide) ?_
    replace h := gd_some h
    obtain ⟨g30, h⟩ := h
    refine r_putI hx hb hts iw1 tyX1 tyX1_ok nmX1 hown hK hw q29 6 g30 (by decide) rfl (by decide) rfl (hq _ qw202) (fun _ h9 => h9) rfl rfl rfl dX6_gains_57 (fun H locs hw => ?_)
    replace h := lt_some h
    obtain ⟨M31, eM31, h⟩ := h
    rw [← eM31] at hw
    refine lv_aload_n hx hb dX6_gains_60 rfl (lv_at hl 0 rfl) ?_
    replace h := bd_some h
    obtain ⟨q32, eq32, h⟩ := h
    refine r_getR hx hb hts iw6 hown hK hw o0 3 g12 (by decide) rfl (by decide) rfl (hq _ qw338) (fun _ h9 => h9) dX6_gains_61 eq32 ?_
    refine lv_iconst (v := (0 : Int32)) hx hb dX6_gains_64 (by decide) ?_
    refine lv_iconst (v := (0 : Int32)) hx hb dX6_gains_65 (by decide) ?_
    refine lv_iconst (v := (0 : Int32)) hx hb dX6_gains_66 (by decide) ?_
    replace h := gd_some h
    obtain ⟨g34, h⟩ := h
    replace h := bd_some h
    obtain ⟨r33, er33, h⟩ := h
    refine r_callVv (As := [.int (0 : Int32), .int (0 : Int32), .int (0 : Int32)]) (rest := []) hF (c_X5_over l D cy ad adK adV M31 q32 (0 : Int32) (0 : Int32) (0 : Int32) r33 er33) (gW_goodV hcm qw680 qw677 qw678 qw679 qw64) hdX5_over rfl ⟨Nat.le_of_ble_eq_true rfl, Nat.le_of_ble_eq_true rfl⟩ rfl rfl hZ hK hw g34 (by decide) rfl rfl hl.1 rfl (Nat.le_of_ble_eq_true rfl) ⟨Nat.zero_le _, Nat.zero_le _⟩ dX6_gains_67 (fun H locs hw => ?_)
    refine lv_iconst (v := (0 : Int32)) hx hb dX6_gains_70 (by decide) ?_
    refine lv_istore_n (lv' := [(1, .int (0 : Int32)), (0, .ref (ad o0))]) hx hb dX6_gains_71 rfl hl (by decide) rfl (fun ls hl => ?_)
    refine lv_iconst (v := (1 : Int32)) hx hb dX6_gains_72 (by decide) ?_
    refine lv_istore_n (lv' := [(2, .int (1 : Int32)), (1, .int (0 : Int32)), (0, .ref (ad o0))]) hx hb dX6_gains_73 rfl hl (by decide) rfl (fun ls hl => ?_)
    exact hb74 1000 _ _ _ _ h _ _ _ hw (lv_sub hl [2, 1, 0] rfl)
  · replace h := if_some_t c15 h
    refine lv_aload_n hx hb dX6_gains_10 rfl (lv_at hl 0 rfl) ?_
    refine lv_iconst (v := (3 : Int32)) hx hb dX6_gains_11 (by decide) ?_
    replace h := bd_some h
    obtain ⟨r35, er35, h⟩ := h
    refine r_callVi (As := [.int (3 : Int32)]) (rest := []) hF (c_X6_finding l D cy ad adK adV M o0 (3 : Int32) r35 er35) (gW_goodV hcm qw373 qw370 qw372 qw0 qw60) hdX6_finding rfl ⟨Nat.le_of_ble_eq_true rfl, Nat.le_of_ble_eq_true rfl⟩ rfl rfl hZ hK hw g12 (by decide) rfl rfl hl.1 rfl (Nat.le_of_ble_eq_true rfl) ⟨Nat.zero_le _, Nat.zero_le _⟩ dX6_gains_12 (fun H locs hw => ?_)
    exact r_iret hx hb hr rfl hlocks hZ hK hw h dX6_gains_15
theorem dX6_wronged_0 : decode cX6_wronged 0 = .ok (.aload_n 0, 1) := by decide +kernel
theorem dX6_wronged_1 : decode cX6_wronged 1 = .ok (.invokevirtual 192, 3) := by decide +kernel
theorem dX6_wronged_4 : decode cX6_wronged 4 = .ok (.iconst 0, 1) := by decide +kernel
theorem dX6_wronged_5 : decode cX6_wronged 5 = .ok (.istore_n 1, 1) := by decide +kernel
theorem dX6_wronged_6 : decode cX6_wronged 6 = .ok (.aload_n 0, 1) := by decide +kernel
theorem dX6_wronged_7 : decode cX6_wronged 7 = .ok (.getfield 10, 3) := by decide +kernel
theorem dX6_wronged_10 : decode cX6_wronged 10 = .ok (.getfield 117, 3) := by decide +kernel
theorem dX6_wronged_13 : decode cX6_wronged 13 = .ok (.istore_n 2, 1) := by decide +kernel
theorem dX6_wronged_14 : decode cX6_wronged 14 = .ok (.iload_n 2, 1) := by decide +kernel
theorem dX6_wronged_15 : decode cX6_wronged 15 = .ok (.aload_n 0, 1) := by decide +kernel
theorem dX6_wronged_16 : decode cX6_wronged 16 = .ok (.getfield 10, 3) := by decide +kernel
theorem dX6_wronged_19 : decode cX6_wronged 19 = .ok (.getfield 108, 3) := by decide +kernel
theorem dX6_wronged_22 : decode cX6_wronged 22 = .ok (.if_icmp .ge 102, 3) := by decide +kernel
theorem dX6_wronged_25 : decode cX6_wronged 25 = .ok (.aload_n 0, 1) := by decide +kernel
theorem dX6_wronged_26 : decode cX6_wronged 26 = .ok (.getfield 10, 3) := by decide +kernel
theorem dX6_wronged_29 : decode cX6_wronged 29 = .ok (.getfield 120, 3) := by decide +kernel
theorem dX6_wronged_32 : decode cX6_wronged 32 = .ok (.iload_n 2, 1) := by decide +kernel
theorem dX6_wronged_33 : decode cX6_wronged 33 = .ok (.aaload, 1) := by decide +kernel
theorem dX6_wronged_34 : decode cX6_wronged 34 = .ok (.astore_n 3, 1) := by decide +kernel
theorem dX6_wronged_35 : decode cX6_wronged 35 = .ok (.aload_n 0, 1) := by decide +kernel
theorem dX6_wronged_36 : decode cX6_wronged 36 = .ok (.getfield 10, 3) := by decide +kernel
theorem dX6_wronged_39 : decode cX6_wronged 39 = .ok (.getfield 74, 3) := by decide +kernel
theorem dX6_wronged_42 : decode cX6_wronged 42 = .ok (.aload_n 3, 1) := by decide +kernel
theorem dX6_wronged_43 : decode cX6_wronged 43 = .ok (.getfield 124, 3) := by decide +kernel
theorem dX6_wronged_46 : decode cX6_wronged 46 = .ok (.aaload, 1) := by decide +kernel
theorem dX6_wronged_47 : decode cX6_wronged 47 = .ok (.getfield 83, 3) := by decide +kernel
theorem dX6_wronged_50 : decode cX6_wronged 50 = .ok (.aload_n 0, 1) := by decide +kernel
theorem dX6_wronged_51 : decode cX6_wronged 51 = .ok (.getfield 10, 3) := by decide +kernel
theorem dX6_wronged_54 : decode cX6_wronged 54 = .ok (.getfield 74, 3) := by decide +kernel
theorem dX6_wronged_57 : decode cX6_wronged 57 = .ok (.aload_n 3, 1) := by decide +kernel
theorem dX6_wronged_58 : decode cX6_wronged 58 = .ok (.getfield 129, 3) := by decide +kernel
theorem dX6_wronged_61 : decode cX6_wronged 61 = .ok (.aaload, 1) := by decide +kernel
theorem dX6_wronged_62 : decode cX6_wronged 62 = .ok (.getfield 83, 3) := by decide +kernel
theorem dX6_wronged_65 : decode cX6_wronged 65 = .ok (.isub, 1) := by decide +kernel
theorem dX6_wronged_66 : decode cX6_wronged 66 = .ok (.istore 4, 2) := by decide +kernel
theorem dX6_wronged_68 : decode cX6_wronged 68 = .ok (.ldc2_w 243, 3) := by decide +kernel
theorem dX6_wronged_71 : decode cX6_wronged 71 = .ok (.aload_n 0, 1) := by decide +kernel
theorem dX6_wronged_72 : decode cX6_wronged 72 = .ok (.getfield 26, 3) := by decide +kernel
theorem dX6_wronged_75 : decode cX6_wronged 75 = .ok (.getfield 195, 3) := by decide +kernel
theorem dX6_wronged_78 : decode cX6_wronged 78 = .ok (.iload_n 2, 1) := by decide +kernel
theorem dX6_wronged_79 : decode cX6_wronged 79 = .ok (.laload, 1) := by decide +kernel
theorem dX6_wronged_80 : decode cX6_wronged 80 = .ok (.lmul, 1) := by decide +kernel
theorem dX6_wronged_81 : decode cX6_wronged 81 = .ok (.aload_n 0, 1) := by decide +kernel
theorem dX6_wronged_82 : decode cX6_wronged 82 = .ok (.getfield 26, 3) := by decide +kernel
theorem dX6_wronged_85 : decode cX6_wronged 85 = .ok (.getfield 199, 3) := by decide +kernel
theorem dX6_wronged_88 : decode cX6_wronged 88 = .ok (.lsub, 1) := by decide +kernel
theorem dX6_wronged_89 : decode cX6_wronged 89 = .ok (.lstore 5, 2) := by decide +kernel
theorem dX6_wronged_91 : decode cX6_wronged 91 = .ok (.iload 4, 2) := by decide +kernel
theorem dX6_wronged_93 : decode cX6_wronged 93 = .ok (.ifCond .le 10, 3) := by decide +kernel
theorem dX6_wronged_96 : decode cX6_wronged 96 = .ok (.lload 5, 2) := by decide +kernel
theorem dX6_wronged_98 : decode cX6_wronged 98 = .ok (.lconst 0, 1) := by decide +kernel
theorem dX6_wronged_99 : decode cX6_wronged 99 = .ok (.lcmp, 1) := by decide +kernel
theorem dX6_wronged_100 : decode cX6_wronged 100 = .ok (.ifCond .lt 15, 3) := by decide +kernel
theorem dX6_wronged_103 : decode cX6_wronged 103 = .ok (.iload 4, 2) := by decide +kernel
theorem dX6_wronged_105 : decode cX6_wronged 105 = .ok (.ifCond .ge 13, 3) := by decide +kernel
theorem dX6_wronged_108 : decode cX6_wronged 108 = .ok (.lload 5, 2) := by decide +kernel
theorem dX6_wronged_110 : decode cX6_wronged 110 = .ok (.lconst 0, 1) := by decide +kernel
theorem dX6_wronged_111 : decode cX6_wronged 111 = .ok (.lcmp, 1) := by decide +kernel
theorem dX6_wronged_112 : decode cX6_wronged 112 = .ok (.ifCond .le 6, 3) := by decide +kernel
theorem dX6_wronged_115 : decode cX6_wronged 115 = .ok (.iinc 1 1, 3) := by decide +kernel
theorem dX6_wronged_118 : decode cX6_wronged 118 = .ok (.iinc 2 1, 3) := by decide +kernel
theorem dX6_wronged_121 : decode cX6_wronged 121 = .ok (.goto (-107), 3) := by decide +kernel
theorem dX6_wronged_124 : decode cX6_wronged 124 = .ok (.iload_n 1, 1) := by decide +kernel
theorem dX6_wronged_125 : decode cX6_wronged 125 = .ok (.ireturn, 1) := by decide +kernel
set_option maxHeartbeats 4000000 in
set_option maxRecDepth 100000 in
theorem c_X6_wronged (l : Launch) (D : va_G) (cy : Nat → ClassId) (ad adK adV : Nat → Nat) (M : Mm) (o0 : Nat) (res : Mm × Int32) (h : f_X6_wronged M o0 = some res) : Met l yX6_wronged (wU yX6_wronged cX6_wronged 7 (some .int)) rmX6_wronged (va_Pc [.ref (ad o0)] (Pre D cy shX ad nX adK adV M)) (va_Qi (fun r (M2 : Mm) => r = res.2 ∧ M2 = res.1) (Pre D cy shX ad nX adK adV) (Aw ad nX)) 0 0 (Aw ad nX) := by
  refine Met.ofW (cc := cX6_wronged) (maxL := 7) (ret := (some .int)) (by decide) rfl ?_
  intro p e s m args below meth c s₁ B hml hv
  obtain ⟨hargs, hPre⟩ := hv
  have hx := B.exec
  have hb := B.bytes
  have hr := B.returns
  have hts := atoms_spec (ws := wU yX6_wronged cX6_wronged 7 (some .int)) B.pre
  have hq : ∀ w ∈ gW, w.before args s = true := fun w hw => hts w (List.mem_cons_of_mem _ hw)
  have hcm : ∀ w ∈ gW, w ∈ wU yX6_wronged cX6_wronged 7 (some .int) := fun w hw => List.mem_cons_of_mem _ hw
  have hown : s.vm.findClass RX6 = some m.cls := findClass_of_methodNamed B.named
  have hlocks := B.notSynchronized
  have hF : CallFix p m c cX6_wronged 7 s args (wU yX6_wronged cX6_wronged 7 (some .int)) RX6 := ⟨hx, hb, hml, hown, hts⟩
  have hK := hPre.2.1
  have hZ := hPre.2.2.2
  have hw : Wd D cy shX ad nX (Aw ad nX) s.heap M s.heap [] := ⟨hPre.1, hPre.2.2.1, va_S.rf⟩
  have iw0 : ∀ w ∈ u_ws RX0 TX0 9, w ∈ wU yX6_wronged cX6_wronged 7 (some .int) := fun w hw => List.mem_cons_of_mem _ (iX0 w hw)
  have iw1 : ∀ w ∈ u_ws RX1 TX1 11, w ∈ wU yX6_wronged cX6_wronged 7 (some .int) := fun w hw => List.mem_cons_of_mem _ (iX1 w hw)
  have iw3 : ∀ w ∈ u_ws RX3 TX3 6, w ∈ wU yX6_wronged cX6_wronged 7 (some .int) := fun w hw => List.mem_cons_of_mem _ (iX3 w hw)
  have iw5 : ∀ w ∈ u_ws RX5 TX5 13, w ∈ wU yX6_wronged cX6_wronged 7 (some .int) := fun w hw => List.mem_cons_of_mem _ (iX5 w hw)
  have iw6 : ∀ w ∈ u_ws RX6 TX6 8, w ∈ wU yX6_wronged cX6_wronged 7 (some .int) := fun w hw => List.mem_cons_of_mem _ (iX6 w hw)
  rw [show entryFrame m args 7 = entryFrame m ([.ref (ad o0)] : List Value).toArray 7 from by rw [hargs]]
  have hl := lv_entry ([.ref (ad o0)]) (n := 7) (Nat.le_of_ble_eq_true rfl)
  rw [lg_entry_eq]
  generalize (lg_sl ([.ref (ad o0)]) ++ List.replicate (7 - (lg_sl ([.ref (ad o0)])).length) Slot.unset).toArray = ls at hl ⊢
  have hl : lv_has ls 7 [(0, .ref (ad o0))] := hl
  have hb118 : ∀ (k14 : Mm → Nat → Int32 → Int32 → Option (Mm × Int32)) (hk14 : ∀ (M : Mm) (x0 : Nat) (x1 : Int32) (x2 : Int32), k14 M x0 x1 x2 = some res → ∀ (H : Heap) (locs : List Loc) (ls : Array Slot), Wd D cy shX ad nX (Aw ad nX) s.heap M H locs → lv_has ls 7 [(0, .ref (ad x0)), (1, .int x1), (2, .int x2)] → W p l e (headSpec (wU yX6_wronged cX6_wronged 7 (some .int)) rmX6_wronged).room s m args below meth c H locs 0 0 (QI D cy shX ad nX adK adV below args s res) (F0 m 14 ls [])), ∀ (M : Mm) (x0 : Nat) (x1 : Int32) (x2 : Int32), f_X6_wronged_b118 k14 M x0 x1 x2 = some res → ∀ (H : Heap) (locs : List Loc) (ls : Array Slot), Wd D cy shX ad nX (Aw ad nX) s.heap M H locs → lv_has ls 7 [(0, .ref (ad x0)), (1, .int x1), (2, .int x2)] → W p l e (headSpec (wU yX6_wronged cX6_wronged 7 (some .int)) rmX6_wronged).room s m args below meth c H locs 0 0 (QI D cy shX ad nX adK adV below args s res) (F0 m 118 ls []) := by
    intro k14 hk14
    intro M x0 x1 x2 h H locs ls hw hl
    unfold f_X6_wronged_b118 at h
    refine lv_iinc (v := x2 + (1 : Int32)) (lv' := [(2, .int (x2 + (1 : Int32))), (0, .ref (ad x0)), (1, .int x1)]) hx hb dX6_wronged_118 hl (k := 2) rfl (congrArg (fun z => x2 + z) (by decide)) (by decide) rfl (fun ls hl => ?_)
    refine lv_goto (tgt := 14) hx hb dX6_wronged_121 (by decide) ?_
    exact hk14 _ _ _ _ h _ _ _ hw (lv_sub hl [1, 2, 0] rfl)
  have hb115 : ∀ (k14 : Mm → Nat → Int32 → Int32 → Option (Mm × Int32)) (hk14 : ∀ (M : Mm) (x0 : Nat) (x1 : Int32) (x2 : Int32), k14 M x0 x1 x2 = some res → ∀ (H : Heap) (locs : List Loc) (ls : Array Slot), Wd D cy shX ad nX (Aw ad nX) s.heap M H locs → lv_has ls 7 [(0, .ref (ad x0)), (1, .int x1), (2, .int x2)] → W p l e (headSpec (wU yX6_wronged cX6_wronged 7 (some .int)) rmX6_wronged).room s m args below meth c H locs 0 0 (QI D cy shX ad nX adK adV below args s res) (F0 m 14 ls [])), ∀ (M : Mm) (x0 : Nat) (x1 : Int32) (x2 : Int32), f_X6_wronged_b115 k14 M x0 x1 x2 = some res → ∀ (H : Heap) (locs : List Loc) (ls : Array Slot), Wd D cy shX ad nX (Aw ad nX) s.heap M H locs → lv_has ls 7 [(0, .ref (ad x0)), (1, .int x1), (2, .int x2)] → W p l e (headSpec (wU yX6_wronged cX6_wronged 7 (some .int)) rmX6_wronged).room s m args below meth c H locs 0 0 (QI D cy shX ad nX adK adV below args s res) (F0 m 115 ls []) := by
    intro k14 hk14
    intro M x0 x1 x2 h H locs ls hw hl
    unfold f_X6_wronged_b115 at h
    refine lv_iinc (v := x1 + (1 : Int32)) (lv' := [(1, .int (x1 + (1 : Int32))), (0, .ref (ad x0)), (2, .int x2)]) hx hb dX6_wronged_115 hl (k := 1) rfl (congrArg (fun z => x1 + z) (by decide)) (by decide) rfl (fun ls hl => ?_)
    exact hb118 _ hk14 _ _ _ _ h _ _ _ hw (lv_sub hl [1, 0, 2] rfl)
  have hb103 : ∀ (k14 : Mm → Nat → Int32 → Int32 → Option (Mm × Int32)) (hk14 : ∀ (M : Mm) (x0 : Nat) (x1 : Int32) (x2 : Int32), k14 M x0 x1 x2 = some res → ∀ (H : Heap) (locs : List Loc) (ls : Array Slot), Wd D cy shX ad nX (Aw ad nX) s.heap M H locs → lv_has ls 7 [(0, .ref (ad x0)), (1, .int x1), (2, .int x2)] → W p l e (headSpec (wU yX6_wronged cX6_wronged 7 (some .int)) rmX6_wronged).room s m args below meth c H locs 0 0 (QI D cy shX ad nX adK adV below args s res) (F0 m 14 ls [])), ∀ (M : Mm) (x0 : Nat) (x1 : Int32) (x2 : Int32) (x4 : Int32) (x5 : Int64), f_X6_wronged_b103 k14 M x0 x1 x2 x4 x5 = some res → ∀ (H : Heap) (locs : List Loc) (ls : Array Slot), Wd D cy shX ad nX (Aw ad nX) s.heap M H locs → lv_has ls 7 [(0, .ref (ad x0)), (1, .int x1), (2, .int x2), (4, .int x4), (5, .long x5)] → W p l e (headSpec (wU yX6_wronged cX6_wronged 7 (some .int)) rmX6_wronged).room s m args below meth c H locs 0 0 (QI D cy shX ad nX adK adV below args s res) (F0 m 103 ls []) := by
    intro k14 hk14
    intro M x0 x1 x2 x4 x5 h H locs ls hw hl
    unfold f_X6_wronged_b103 at h
    refine lv_iload hx hb dX6_wronged_103 (lv_at hl 3 rfl) ?_
    refine lv_if_ge (tgt := 118) hx hb dX6_wronged_105 (by decide) (fun c1 => ?_) (fun c1 => ?_)
    · replace h := if_some_t c1 h
      exact hb118 _ hk14 _ _ _ _ h _ _ _ hw (lv_sub hl [0, 1, 2] rfl)
    · replace h := if_some_f c1 h
      refine lv_lload hx hb dX6_wronged_108 (lv_at hl 4 rfl) ?_
      refine lv_lconst (v := (0 : Int64)) hx hb dX6_wronged_110 (by decide) ?_
      refine W.lcmp hx hb dX6_wronged_111 ?_
      refine lv_if_le (tgt := 118) hx hb dX6_wronged_112 (by decide) (fun c2 => ?_) (fun c2 => ?_)
      · replace h := if_some_t c2 h
        exact hb118 _ hk14 _ _ _ _ h _ _ _ hw (lv_sub hl [0, 1, 2] rfl)
      · replace h := if_some_f c2 h
        exact hb115 _ hk14 _ _ _ _ h _ _ _ hw (lv_sub hl [0, 1, 2] rfl)
  have hb14 : ∀ (nn : Nat), ∀ (M : Mm) (x0 : Nat) (x1 : Int32) (x2 : Int32), f_X6_wronged_b14 nn M x0 x1 x2 = some res → ∀ (H : Heap) (locs : List Loc) (ls : Array Slot), Wd D cy shX ad nX (Aw ad nX) s.heap M H locs → lv_has ls 7 [(0, .ref (ad x0)), (1, .int x1), (2, .int x2)] → W p l e (headSpec (wU yX6_wronged cX6_wronged 7 (some .int)) rmX6_wronged).room s m args below meth c H locs 0 0 (QI D cy shX ad nX adK adV below args s res) (F0 m 14 ls []) := by
    intro nn
    induction nn with
    | zero => intro M x0 x1 x2 h; simp [f_X6_wronged_b14] at h
    | succ nn ih =>
      intro M x0 x1 x2 h H locs ls hw hl
      unfold f_X6_wronged_b14 at h
      refine lv_iload_n hx hb dX6_wronged_14 rfl (lv_at hl 2 rfl) ?_
      refine lv_aload_n hx hb dX6_wronged_15 rfl (lv_at hl 0 rfl) ?_
      replace h := gd_some h
      obtain ⟨g3, h⟩ := h
      replace h := bd_some h
      obtain ⟨q4, eq4, h⟩ := h
      refine r_getR hx hb hts iw6 hown hK hw x0 0 g3 (by decide) rfl (by decide) rfl (hq _ qw335) (fun _ h9 => h9) dX6_wronged_16 eq4 ?_
      replace h := gd_some h
      obtain ⟨g5, h⟩ := h
      refine r_getI hx hb hts iw1 hown hK hw q4 4 g5 (by decide) rfl (by decide) rfl (hq _ qw195) (fun _ h9 => h9) dX6_wronged_19 ?_
      refine lv_icmp_ge (tgt := 124) hx hb dX6_wronged_22 (by decide) (fun c6 => ?_) (fun c6 => ?_)
      · replace h := if_some_t c6 h
        refine lv_iload_n hx hb dX6_wronged_124 rfl (lv_at hl 1 rfl) ?_
        exact r_iret hx hb hr rfl hlocks hZ hK hw h dX6_wronged_125
      · replace h := if_some_f c6 h
        refine lv_aload_n hx hb dX6_wronged_25 rfl (lv_at hl 0 rfl) ?_
        replace h := bd_some h
        obtain ⟨q7, eq7, h⟩ := h
        refine r_getR hx hb hts iw6 hown hK hw x0 0 g3 (by decide) rfl (by decide) rfl (hq _ qw335) (fun _ h9 => h9) dX6_wronged_26 eq7 ?_
        replace h := gd_some h
        obtain ⟨g8, h⟩ := h
        replace h := bd_some h
        obtain ⟨q9, eq9, h⟩ := h
        refine r_getR hx hb hts iw1 hown hK hw q7 1 g8 (by decide) rfl (by decide) rfl (hq _ qw186) (fun _ h9 => h9) dX6_wronged_29 eq9 ?_
        refine lv_iload_n hx hb dX6_wronged_32 rfl (lv_at hl 2 rfl) ?_
        replace h := gd_some h
        obtain ⟨g10, h⟩ := h
        replace h := bd_some h
        obtain ⟨q11, eq11, h⟩ := h
        refine r_aald hx hb hK hw q9 3 (by decide) rfl g10 dX6_wronged_33 eq11 ?_
        refine lv_astore_n (lv' := [(3, .ref (ad q11)), (0, .ref (ad x0)), (1, .int x1), (2, .int x2)]) hx hb dX6_wronged_34 rfl hl (by decide) rfl (fun ls hl => ?_)
        refine lv_aload_n hx hb dX6_wronged_35 rfl (lv_at hl 1 rfl) ?_
        replace h := bd_some h
        obtain ⟨q12, eq12, h⟩ := h
        refine r_getR hx hb hts iw6 hown hK hw x0 0 g3 (by decide) rfl (by decide) rfl (hq _ qw335) (fun _ h9 => h9) dX6_wronged_36 eq12 ?_
        replace h := gd_some h
        obtain ⟨g13, h⟩ := h
        replace h := bd_some h
        obtain ⟨q14, eq14, h⟩ := h
        refine r_getR hx hb hts iw1 hown hK hw q12 0 g13 (by decide) rfl (by decide) rfl (hq _ qw182) (fun _ h9 => h9) dX6_wronged_39 eq14 ?_
        refine lv_aload_n hx hb dX6_wronged_42 rfl (lv_at hl 0 rfl) ?_
        replace h := gd_some h
        obtain ⟨g15, h⟩ := h
        refine r_getI hx hb hts iw0 hown hK hw q11 0 g15 (by decide) rfl (by decide) rfl (hq _ qw136) (fun _ h9 => h9) dX6_wronged_43 ?_
        replace h := gd_some h
        obtain ⟨g16, h⟩ := h
        replace h := bd_some h
        obtain ⟨q17, eq17, h⟩ := h
        refine r_aald hx hb hK hw q14 2 (by decide) rfl g16 dX6_wronged_46 eq17 ?_
        replace h := gd_some h
        obtain ⟨g18, h⟩ := h
        refine r_getI hx hb hts iw3 hown hK hw q17 1 g18 (by decide) rfl (by decide) rfl (hq _ qw101) (fun _ h9 => h9) dX6_wronged_47 ?_
        refine lv_aload_n hx hb dX6_wronged_50 rfl (lv_at hl 1 rfl) ?_
        replace h := bd_some h
        obtain ⟨q19, eq19, h⟩ := h
        refine r_getR hx hb hts iw6 hown hK hw x0 0 g3 (by decide) rfl (by decide) rfl (hq _ qw335) (fun _ h9 => h9) dX6_wronged_51 eq19 ?_
        replace h := gd_some h
        obtain ⟨g20, h⟩ := h
        replace h := bd_some h
        obtain ⟨q21, eq21, h⟩ := h
        refine r_getR hx hb hts iw1 hown hK hw q19 0 g20 (by decide) rfl (by decide) rfl (hq _ qw182) (fun _ h9 => h9) dX6_wronged_54 eq21 ?_
        refine lv_aload_n hx hb dX6_wronged_57 rfl (lv_at hl 0 rfl) ?_
        refine r_getI hx hb hts iw0 hown hK hw q11 1 g15 (by decide) rfl (by decide) rfl (hq _ qw140) (fun _ h9 => h9) dX6_wronged_58 ?_
        replace h := gd_some h
        obtain ⟨g22, h⟩ := h
        replace h := bd_some h
        obtain ⟨q23, eq23, h⟩ := h
        refine r_aald hx hb hK hw q21 2 (by decide) rfl g22 dX6_wronged_61 eq23 ?_
        replace h := gd_some h
        obtain ⟨g24, h⟩ := h
        refine r_getI hx hb hts iw3 hown hK hw q23 1 g24 (by decide) rfl (by decide) rfl (hq _ qw101) (fun _ h9 => h9) dX6_wronged_62 ?_
        refine lv_isub hx hb dX6_wronged_65 ?_
        refine lv_istore (lv' := [(4, .int ((M.1 q17 1) - (M.1 q23 1))), (3, .ref (ad q11)), (0, .ref (ad x0)), (1, .int x1), (2, .int x2)]) hx hb dX6_wronged_66 hl (by decide) rfl (fun ls hl => ?_)
        refine lv_ldc2 (v := (2 : Int64)) hx hb hown (hq _ qw789) dX6_wronged_68 ?_
        refine lv_aload_n hx hb dX6_wronged_71 rfl (lv_at hl 2 rfl) ?_
        replace h := bd_some h
        obtain ⟨q25, eq25, h⟩ := h
        refine r_getR hx hb hts iw6 hown hK hw x0 3 g3 (by decide) rfl (by decide) rfl (hq _ qw338) (fun _ h9 => h9) dX6_wronged_72 eq25 ?_
        replace h := gd_some h
        obtain ⟨g26, h⟩ := h
        replace h := bd_some h
        obtain ⟨q27, eq27, h⟩ := h
        refine r_getR hx hb hts iw5 hown hK hw q25 3 g26 (by decide) rfl (by decide) rfl (hq _ qw246) (fun _ h9 => h9) dX6_wronged_75 eq27 ?_
        refine lv_iload_n hx hb dX6_wronged_78 rfl (lv_at hl 4 rfl) ?_
        replace h := gd_some h
        obtain ⟨g28, h⟩ := h
        refine r_lald hx hb hK hw q27 g28 dX6_wronged_79 ?_
        refine lv_lmul hx hb dX6_wronged_80 ?_
        refine lv_aload_n hx hb dX6_wronged_81 rfl (lv_at hl 2 rfl) ?_
        replace h := bd_some h
        obtain ⟨q29, eq29, h⟩ := h
        refine r_getR hx hb hts iw6 hown hK hw x0 3 g3 (by decide) rfl (by decide) rfl (hq _ qw338) (fun _ h9 => h9) dX6_wronged_82 eq29 ?_
        replace h := gd_some h
        obtain ⟨g30, h⟩ := h
        refine r_getL hx hb hts iw5 hown hK hw q29 6 g30 (by decide) rfl (by decide) rfl (hq _ qw251) (fun _ h9 => h9) dX6_wronged_85 ?_
        refine lv_lsub hx hb dX6_wronged_88 ?_
        refine lv_topl (fun y31 ey31 => ?_)
        replace h := lt_at ey31 h
        refine lv_lstore (lv' := [(5, .long y31), (4, .int ((M.1 q17 1) - (M.1 q23 1))), (3, .ref (ad q11)), (0, .ref (ad x0)), (1, .int x1), (2, .int x2)]) hx hb dX6_wronged_89 hl (by decide) rfl (fun ls hl => ?_)
        refine lv_iload hx hb dX6_wronged_91 (lv_at hl 1 rfl) ?_
        refine lv_if_le (tgt := 103) hx hb dX6_wronged_93 (by decide) (fun c32 => ?_) (fun c32 => ?_)
        · replace h := if_some_t c32 h
          exact hb103 _ ih _ _ _ _ _ _ h _ _ _ hw (lv_sub hl [3, 4, 5, 1, 0] rfl)
        · replace h := if_some_f c32 h
          refine lv_lload hx hb dX6_wronged_96 (lv_at hl 0 rfl) ?_
          refine lv_lconst (v := (0 : Int64)) hx hb dX6_wronged_98 (by decide) ?_
          refine W.lcmp hx hb dX6_wronged_99 ?_
          refine lv_if_lt (tgt := 115) hx hb dX6_wronged_100 (by decide) (fun c33 => ?_) (fun c33 => ?_)
          · replace h := if_some_t c33 h
            exact hb115 _ ih _ _ _ _ h _ _ _ hw (lv_sub hl [3, 4, 5] rfl)
          · replace h := if_some_f c33 h
            exact hb103 _ ih _ _ _ _ _ _ h _ _ _ hw (lv_sub hl [3, 4, 5, 1, 0] rfl)
  unfold f_X6_wronged at h
  refine lv_aload_n hx hb dX6_wronged_0 rfl (lv_at hl 0 rfl) ?_
  replace h := gd_some h
  obtain ⟨g35, h⟩ := h
  replace h := bd_some h
  obtain ⟨r34, er34, h⟩ := h
  refine r_callVv (As := []) (rest := []) hF (c_X6_goLikelyWays l D cy ad adK adV M o0 r34 er34) (gW_goodV hcm qw676 qw673 qw675 qw11 qw60) hdX6_goLikelyWays rfl ⟨Nat.le_of_ble_eq_true rfl, Nat.le_of_ble_eq_true rfl⟩ rfl rfl hZ hK hw g35 (by decide) rfl rfl hl.1 rfl (Nat.le_of_ble_eq_true rfl) ⟨Nat.zero_le _, Nat.zero_le _⟩ dX6_wronged_1 (fun H locs hw => ?_)
  refine lv_iconst (v := (0 : Int32)) hx hb dX6_wronged_4 (by decide) ?_
  refine lv_istore_n (lv' := [(1, .int (0 : Int32)), (0, .ref (ad o0))]) hx hb dX6_wronged_5 rfl hl (by decide) rfl (fun ls hl => ?_)
  refine lv_aload_n hx hb dX6_wronged_6 rfl (lv_at hl 1 rfl) ?_
  replace h := bd_some h
  obtain ⟨q36, eq36, h⟩ := h
  refine r_getR hx hb hts iw6 hown hK hw o0 0 g35 (by decide) rfl (by decide) rfl (hq _ qw335) (fun _ h9 => h9) dX6_wronged_7 eq36 ?_
  replace h := gd_some h
  obtain ⟨g37, h⟩ := h
  refine r_getI hx hb hts iw1 hown hK hw q36 5 g37 (by decide) rfl (by decide) rfl (hq _ qw199) (fun _ h9 => h9) dX6_wronged_10 ?_
  refine lv_istore_n (lv' := [(2, .int (r34.1.1 q36 5)), (1, .int (0 : Int32)), (0, .ref (ad o0))]) hx hb dX6_wronged_13 rfl hl (by decide) rfl (fun ls hl => ?_)
  exact hb14 1000 _ _ _ _ h _ _ _ hw (lv_sub hl [2, 1, 0] rfl)
theorem dX6_tries_0 : decode cX6_tries 0 = .ok (.aload_n 0, 1) := by decide +kernel
theorem dX6_tries_1 : decode cX6_tries 1 = .ok (.getfield 10, 3) := by decide +kernel
theorem dX6_tries_4 : decode cX6_tries 4 = .ok (.iload_n 1, 1) := by decide +kernel
theorem dX6_tries_5 : decode cX6_tries 5 = .ok (.invokevirtual 71, 3) := by decide +kernel
theorem dX6_tries_8 : decode cX6_tries 8 = .ok (.ifCond .eq 14, 3) := by decide +kernel
theorem dX6_tries_11 : decode cX6_tries 11 = .ok (.iload_n 2, 1) := by decide +kernel
theorem dX6_tries_12 : decode cX6_tries 12 = .ok (.iconst 1, 1) := by decide +kernel
theorem dX6_tries_13 : decode cX6_tries 13 = .ok (.if_icmp .lt 9, 3) := by decide +kernel
theorem dX6_tries_16 : decode cX6_tries 16 = .ok (.iload_n 2, 1) := by decide +kernel
theorem dX6_tries_17 : decode cX6_tries 17 = .ok (.bipush 40, 2) := by decide +kernel
theorem dX6_tries_19 : decode cX6_tries 19 = .ok (.if_icmp .le 9, 3) := by decide +kernel
theorem dX6_tries_22 : decode cX6_tries 22 = .ok (.aload_n 0, 1) := by decide +kernel
theorem dX6_tries_23 : decode cX6_tries 23 = .ok (.iconst 0, 1) := by decide +kernel
theorem dX6_tries_24 : decode cX6_tries 24 = .ok (.invokevirtual 59, 3) := by decide +kernel
theorem dX6_tries_27 : decode cX6_tries 27 = .ok (.ireturn, 1) := by decide +kernel
theorem dX6_tries_28 : decode cX6_tries 28 = .ok (.aload_n 0, 1) := by decide +kernel
theorem dX6_tries_29 : decode cX6_tries 29 = .ok (.getfield 31, 3) := by decide +kernel
theorem dX6_tries_32 : decode cX6_tries 32 = .ok (.aload_n 0, 1) := by decide +kernel
theorem dX6_tries_33 : decode cX6_tries 33 = .ok (.getfield 10, 3) := by decide +kernel
theorem dX6_tries_36 : decode cX6_tries 36 = .ok (.invokevirtual 151, 3) := by decide +kernel
theorem dX6_tries_39 : decode cX6_tries 39 = .ok (.iconst 0, 1) := by decide +kernel
theorem dX6_tries_40 : decode cX6_tries 40 = .ok (.istore_n 3, 1) := by decide +kernel
theorem dX6_tries_41 : decode cX6_tries 41 = .ok (.iconst 0, 1) := by decide +kernel
theorem dX6_tries_42 : decode cX6_tries 42 = .ok (.istore 4, 2) := by decide +kernel
theorem dX6_tries_44 : decode cX6_tries 44 = .ok (.iload 4, 2) := by decide +kernel
theorem dX6_tries_46 : decode cX6_tries 46 = .ok (.iload_n 2, 1) := by decide +kernel
theorem dX6_tries_47 : decode cX6_tries 47 = .ok (.if_icmp .ge 92, 3) := by decide +kernel
theorem dX6_tries_50 : decode cX6_tries 50 = .ok (.aload_n 0, 1) := by decide +kernel
theorem dX6_tries_51 : decode cX6_tries 51 = .ok (.getfield 10, 3) := by decide +kernel
theorem dX6_tries_54 : decode cX6_tries 54 = .ok (.getfield 117, 3) := by decide +kernel
theorem dX6_tries_57 : decode cX6_tries 57 = .ok (.istore 5, 2) := by decide +kernel
theorem dX6_tries_59 : decode cX6_tries 59 = .ok (.iload 5, 2) := by decide +kernel
theorem dX6_tries_61 : decode cX6_tries 61 = .ok (.aload_n 0, 1) := by decide +kernel
theorem dX6_tries_62 : decode cX6_tries 62 = .ok (.getfield 10, 3) := by decide +kernel
theorem dX6_tries_65 : decode cX6_tries 65 = .ok (.getfield 108, 3) := by decide +kernel
theorem dX6_tries_68 : decode cX6_tries 68 = .ok (.if_icmp .ge 17, 3) := by decide +kernel
theorem dX6_tries_71 : decode cX6_tries 71 = .ok (.aload_n 0, 1) := by decide +kernel
theorem dX6_tries_72 : decode cX6_tries 72 = .ok (.getfield 31, 3) := by decide +kernel
theorem dX6_tries_75 : decode cX6_tries 75 = .ok (.invokevirtual 179, 3) := by decide +kernel
theorem dX6_tries_78 : decode cX6_tries 78 = .ok (.pop, 1) := by decide +kernel
theorem dX6_tries_79 : decode cX6_tries 79 = .ok (.iinc 5 1, 3) := by decide +kernel
theorem dX6_tries_82 : decode cX6_tries 82 = .ok (.goto (-23), 3) := by decide +kernel
theorem dX6_tries_85 : decode cX6_tries 85 = .ok (.aload_n 0, 1) := by decide +kernel
theorem dX6_tries_86 : decode cX6_tries 86 = .ok (.getfield 31, 3) := by decide +kernel
theorem dX6_tries_89 : decode cX6_tries 89 = .ok (.invokevirtual 186, 3) := by decide +kernel
theorem dX6_tries_92 : decode cX6_tries 92 = .ok (.iload_n 1, 1) := by decide +kernel
theorem dX6_tries_93 : decode cX6_tries 93 = .ok (.if_icmp .ne 6, 3) := by decide +kernel
theorem dX6_tries_96 : decode cX6_tries 96 = .ok (.iinc 3 1, 3) := by decide +kernel
theorem dX6_tries_99 : decode cX6_tries 99 = .ok (.aload_n 0, 1) := by decide +kernel
theorem dX6_tries_100 : decode cX6_tries 100 = .ok (.getfield 10, 3) := by decide +kernel
theorem dX6_tries_103 : decode cX6_tries 103 = .ok (.getfield 117, 3) := by decide +kernel
theorem dX6_tries_106 : decode cX6_tries 106 = .ok (.istore 5, 2) := by decide +kernel
theorem dX6_tries_108 : decode cX6_tries 108 = .ok (.iload 5, 2) := by decide +kernel
theorem dX6_tries_110 : decode cX6_tries 110 = .ok (.aload_n 0, 1) := by decide +kernel
theorem dX6_tries_111 : decode cX6_tries 111 = .ok (.getfield 10, 3) := by decide +kernel
theorem dX6_tries_114 : decode cX6_tries 114 = .ok (.getfield 108, 3) := by decide +kernel
theorem dX6_tries_117 : decode cX6_tries 117 = .ok (.if_icmp .ge 16, 3) := by decide +kernel
theorem dX6_tries_120 : decode cX6_tries 120 = .ok (.aload_n 0, 1) := by decide +kernel
theorem dX6_tries_121 : decode cX6_tries 121 = .ok (.getfield 31, 3) := by decide +kernel
theorem dX6_tries_124 : decode cX6_tries 124 = .ok (.invokevirtual 245, 3) := by decide +kernel
theorem dX6_tries_127 : decode cX6_tries 127 = .ok (.iinc 5 1, 3) := by decide +kernel
theorem dX6_tries_130 : decode cX6_tries 130 = .ok (.goto (-22), 3) := by decide +kernel
theorem dX6_tries_133 : decode cX6_tries 133 = .ok (.iinc 4 1, 3) := by decide +kernel
theorem dX6_tries_136 : decode cX6_tries 136 = .ok (.goto (-92), 3) := by decide +kernel
theorem dX6_tries_139 : decode cX6_tries 139 = .ok (.aload_n 0, 1) := by decide +kernel
theorem dX6_tries_140 : decode cX6_tries 140 = .ok (.getfield 10, 3) := by decide +kernel
theorem dX6_tries_143 : decode cX6_tries 143 = .ok (.aload_n 0, 1) := by decide +kernel
theorem dX6_tries_144 : decode cX6_tries 144 = .ok (.getfield 31, 3) := by decide +kernel
theorem dX6_tries_147 : decode cX6_tries 147 = .ok (.getfield 248, 3) := by decide +kernel
theorem dX6_tries_150 : decode cX6_tries 150 = .ok (.putfield 248, 3) := by decide +kernel
theorem dX6_tries_153 : decode cX6_tries 153 = .ok (.iload_n 3, 1) := by decide +kernel
theorem dX6_tries_154 : decode cX6_tries 154 = .ok (.ireturn, 1) := by decide +kernel
set_option maxHeartbeats 4000000 in
set_option maxRecDepth 100000 in
theorem c_X6_tries (l : Launch) (D : va_G) (cy : Nat → ClassId) (ad adK adV : Nat → Nat) (M : Mm) (o0 : Nat) (a1 : Int32) (a2 : Int32) (res : Mm × Int32) (h : f_X6_tries M o0 a1 a2 = some res) : Met l yX6_tries (wU yX6_tries cX6_tries 6 (some .int)) rmX6_tries (va_Pc [.ref (ad o0), .int a1, .int a2] (Pre D cy shX ad nX adK adV M)) (va_Qi (fun r (M2 : Mm) => r = res.2 ∧ M2 = res.1) (Pre D cy shX ad nX adK adV) (Aw ad nX)) 0 0 (Aw ad nX) := by
  refine Met.ofW (cc := cX6_tries) (maxL := 6) (ret := (some .int)) (by decide) rfl ?_
  intro p e s m args below meth c s₁ B hml hv
  obtain ⟨hargs, hPre⟩ := hv
  have hx := B.exec
  have hb := B.bytes
  have hr := B.returns
  have hts := atoms_spec (ws := wU yX6_tries cX6_tries 6 (some .int)) B.pre
  have hq : ∀ w ∈ gW, w.before args s = true := fun w hw => hts w (List.mem_cons_of_mem _ hw)
  have hcm : ∀ w ∈ gW, w ∈ wU yX6_tries cX6_tries 6 (some .int) := fun w hw => List.mem_cons_of_mem _ hw
  have hown : s.vm.findClass RX6 = some m.cls := findClass_of_methodNamed B.named
  have hlocks := B.notSynchronized
  have hF : CallFix p m c cX6_tries 6 s args (wU yX6_tries cX6_tries 6 (some .int)) RX6 := ⟨hx, hb, hml, hown, hts⟩
  have hK := hPre.2.1
  have hZ := hPre.2.2.2
  have hw : Wd D cy shX ad nX (Aw ad nX) s.heap M s.heap [] := ⟨hPre.1, hPre.2.2.1, va_S.rf⟩
  have iw1 : ∀ w ∈ u_ws RX1 TX1 11, w ∈ wU yX6_tries cX6_tries 6 (some .int) := fun w hw => List.mem_cons_of_mem _ (iX1 w hw)
  have iw6 : ∀ w ∈ u_ws RX6 TX6 8, w ∈ wU yX6_tries cX6_tries 6 (some .int) := fun w hw => List.mem_cons_of_mem _ (iX6 w hw)
  rw [show entryFrame m args 6 = entryFrame m ([.ref (ad o0), .int a1, .int a2] : List Value).toArray 6 from by rw [hargs]]
  have hl := lv_entry ([.ref (ad o0), .int a1, .int a2]) (n := 6) (Nat.le_of_ble_eq_true rfl)
  rw [lg_entry_eq]
  generalize (lg_sl ([.ref (ad o0), .int a1, .int a2]) ++ List.replicate (6 - (lg_sl ([.ref (ad o0), .int a1, .int a2])).length) Slot.unset).toArray = ls at hl ⊢
  have hl : lv_has ls 6 [(0, .ref (ad o0)), (1, .int a1), (2, .int a2)] := hl
  have hb108 : ∀ (k44 : Mm → Nat → Int32 → Int32 → Int32 → Int32 → Option (Mm × Int32)) (hk44 : ∀ (M : Mm) (x0 : Nat) (x1 : Int32) (x2 : Int32) (x3 : Int32) (x4 : Int32), k44 M x0 x1 x2 x3 x4 = some res → ∀ (H : Heap) (locs : List Loc) (ls : Array Slot), Wd D cy shX ad nX (Aw ad nX) s.heap M H locs → lv_has ls 6 [(0, .ref (ad x0)), (1, .int x1), (2, .int x2), (3, .int x3), (4, .int x4)] → W p l e (headSpec (wU yX6_tries cX6_tries 6 (some .int)) rmX6_tries).room s m args below meth c H locs 0 0 (QI D cy shX ad nX adK adV below args s res) (F0 m 44 ls [])), ∀ (nn : Nat), ∀ (M : Mm) (x0 : Nat) (x1 : Int32) (x2 : Int32) (x3 : Int32) (x4 : Int32) (x5 : Int32), f_X6_tries_b108 k44 nn M x0 x1 x2 x3 x4 x5 = some res → ∀ (H : Heap) (locs : List Loc) (ls : Array Slot), Wd D cy shX ad nX (Aw ad nX) s.heap M H locs → lv_has ls 6 [(0, .ref (ad x0)), (1, .int x1), (2, .int x2), (3, .int x3), (4, .int x4), (5, .int x5)] → W p l e (headSpec (wU yX6_tries cX6_tries 6 (some .int)) rmX6_tries).room s m args below meth c H locs 0 0 (QI D cy shX ad nX adK adV below args s res) (F0 m 108 ls []) := by
    intro k44 hk44
    intro nn
    induction nn with
    | zero => intro M x0 x1 x2 x3 x4 x5 h; simp [f_X6_tries_b108] at h
    | succ nn ih =>
      intro M x0 x1 x2 x3 x4 x5 h H locs ls hw hl
      unfold f_X6_tries_b108 at h
      refine lv_iload hx hb dX6_tries_108 (lv_at hl 5 rfl) ?_
      refine lv_aload_n hx hb dX6_tries_110 rfl (lv_at hl 0 rfl) ?_
      replace h := gd_some h
      obtain ⟨g1, h⟩ := h
      replace h := bd_some h
      obtain ⟨q2, eq2, h⟩ := h
      refine r_getR hx hb hts iw6 hown hK hw x0 0 g1 (by decide) rfl (by decide) rfl (hq _ qw335) (fun _ h9 => h9) dX6_tries_111 eq2 ?_
      replace h := gd_some h
      obtain ⟨g3, h⟩ := h
      refine r_getI hx hb hts iw1 hown hK hw q2 4 g3 (by decide) rfl (by decide) rfl (hq _ qw195) (fun _ h9 => h9) dX6_tries_114 ?_
      refine lv_icmp_ge (tgt := 133) hx hb dX6_tries_117 (by decide) (fun c4 => ?_) (fun c4 => ?_)
      · replace h := if_some_t c4 h
        refine lv_iinc (v := x4 + (1 : Int32)) (lv' := [(4, .int (x4 + (1 : Int32))), (0, .ref (ad x0)), (1, .int x1), (2, .int x2), (3, .int x3), (5, .int x5)]) hx hb dX6_tries_133 hl (k := 4) rfl (congrArg (fun z => x4 + z) (by decide)) (by decide) rfl (fun ls hl => ?_)
        refine lv_goto (tgt := 44) hx hb dX6_tries_136 (by decide) ?_
        exact hk44 _ _ _ _ _ _ h _ _ _ hw (lv_sub hl [1, 2, 3, 4, 0] rfl)
      · replace h := if_some_f c4 h
        refine lv_aload_n hx hb dX6_tries_120 rfl (lv_at hl 0 rfl) ?_
        replace h := bd_some h
        obtain ⟨q5, eq5, h⟩ := h
        refine r_getR hx hb hts iw6 hown hK hw x0 4 g1 (by decide) rfl (by decide) rfl (hq _ qw339) (fun _ h9 => h9) dX6_tries_121 eq5 ?_
        replace h := gd_some h
        obtain ⟨g7, h⟩ := h
        replace h := bd_some h
        obtain ⟨r6, er6, h⟩ := h
        refine r_callVv (As := []) (rest := []) hF (c_X1_takeBack l D cy ad adK adV M q5 r6 er6) (gW_goodV hcm qw702 qw794 qw700 qw701 qw61) hdX1_takeBack rfl ⟨Nat.le_of_ble_eq_true rfl, Nat.le_of_ble_eq_true rfl⟩ rfl rfl hZ hK hw g7 (by decide) rfl rfl hl.1 rfl (Nat.le_of_ble_eq_true rfl) ⟨Nat.zero_le _, Nat.zero_le _⟩ dX6_tries_124 (fun H locs hw => ?_)
        refine lv_iinc (v := x5 + (1 : Int32)) (lv' := [(5, .int (x5 + (1 : Int32))), (0, .ref (ad x0)), (1, .int x1), (2, .int x2), (3, .int x3), (4, .int x4)]) hx hb dX6_tries_127 hl (k := 5) rfl (congrArg (fun z => x5 + z) (by decide)) (by decide) rfl (fun ls hl => ?_)
        refine lv_goto (tgt := 108) hx hb dX6_tries_130 (by decide) ?_
        exact ih _ _ _ _ _ _ _ h _ _ _ hw (lv_sub hl [1, 2, 3, 4, 5, 0] rfl)
  have hb99 : ∀ (k44 : Mm → Nat → Int32 → Int32 → Int32 → Int32 → Option (Mm × Int32)) (hk44 : ∀ (M : Mm) (x0 : Nat) (x1 : Int32) (x2 : Int32) (x3 : Int32) (x4 : Int32), k44 M x0 x1 x2 x3 x4 = some res → ∀ (H : Heap) (locs : List Loc) (ls : Array Slot), Wd D cy shX ad nX (Aw ad nX) s.heap M H locs → lv_has ls 6 [(0, .ref (ad x0)), (1, .int x1), (2, .int x2), (3, .int x3), (4, .int x4)] → W p l e (headSpec (wU yX6_tries cX6_tries 6 (some .int)) rmX6_tries).room s m args below meth c H locs 0 0 (QI D cy shX ad nX adK adV below args s res) (F0 m 44 ls [])), ∀ (M : Mm) (x0 : Nat) (x1 : Int32) (x2 : Int32) (x3 : Int32) (x4 : Int32), f_X6_tries_b99 k44 M x0 x1 x2 x3 x4 = some res → ∀ (H : Heap) (locs : List Loc) (ls : Array Slot), Wd D cy shX ad nX (Aw ad nX) s.heap M H locs → lv_has ls 6 [(0, .ref (ad x0)), (1, .int x1), (2, .int x2), (3, .int x3), (4, .int x4)] → W p l e (headSpec (wU yX6_tries cX6_tries 6 (some .int)) rmX6_tries).room s m args below meth c H locs 0 0 (QI D cy shX ad nX adK adV below args s res) (F0 m 99 ls []) := by
    intro k44 hk44
    intro M x0 x1 x2 x3 x4 h H locs ls hw hl
    unfold f_X6_tries_b99 at h
    refine lv_aload_n hx hb dX6_tries_99 rfl (lv_at hl 0 rfl) ?_
    replace h := gd_some h
    obtain ⟨g8, h⟩ := h
    replace h := bd_some h
    obtain ⟨q9, eq9, h⟩ := h
    refine r_getR hx hb hts iw6 hown hK hw x0 0 g8 (by decide) rfl (by decide) rfl (hq _ qw335) (fun _ h9 => h9) dX6_tries_100 eq9 ?_
    replace h := gd_some h
    obtain ⟨g10, h⟩ := h
    refine r_getI hx hb hts iw1 hown hK hw q9 5 g10 (by decide) rfl (by decide) rfl (hq _ qw199) (fun _ h9 => h9) dX6_tries_103 ?_
    refine lv_istore (lv' := [(5, .int (M.1 q9 5)), (0, .ref (ad x0)), (1, .int x1), (2, .int x2), (3, .int x3), (4, .int x4)]) hx hb dX6_tries_106 hl (by decide) rfl (fun ls hl => ?_)
    exact hb108 _ hk44 1000 _ _ _ _ _ _ _ h _ _ _ hw (lv_sub hl [1, 2, 3, 4, 5, 0] rfl)
  have hb59 : ∀ (k44 : Mm → Nat → Int32 → Int32 → Int32 → Int32 → Option (Mm × Int32)) (hk44 : ∀ (M : Mm) (x0 : Nat) (x1 : Int32) (x2 : Int32) (x3 : Int32) (x4 : Int32), k44 M x0 x1 x2 x3 x4 = some res → ∀ (H : Heap) (locs : List Loc) (ls : Array Slot), Wd D cy shX ad nX (Aw ad nX) s.heap M H locs → lv_has ls 6 [(0, .ref (ad x0)), (1, .int x1), (2, .int x2), (3, .int x3), (4, .int x4)] → W p l e (headSpec (wU yX6_tries cX6_tries 6 (some .int)) rmX6_tries).room s m args below meth c H locs 0 0 (QI D cy shX ad nX adK adV below args s res) (F0 m 44 ls [])), ∀ (nn : Nat), ∀ (M : Mm) (x0 : Nat) (x1 : Int32) (x2 : Int32) (x3 : Int32) (x4 : Int32) (x5 : Int32), f_X6_tries_b59 k44 nn M x0 x1 x2 x3 x4 x5 = some res → ∀ (H : Heap) (locs : List Loc) (ls : Array Slot), Wd D cy shX ad nX (Aw ad nX) s.heap M H locs → lv_has ls 6 [(0, .ref (ad x0)), (1, .int x1), (2, .int x2), (3, .int x3), (4, .int x4), (5, .int x5)] → W p l e (headSpec (wU yX6_tries cX6_tries 6 (some .int)) rmX6_tries).room s m args below meth c H locs 0 0 (QI D cy shX ad nX adK adV below args s res) (F0 m 59 ls []) := by
    intro k44 hk44
    intro nn
    induction nn with
    | zero => intro M x0 x1 x2 x3 x4 x5 h; simp [f_X6_tries_b59] at h
    | succ nn ih =>
      intro M x0 x1 x2 x3 x4 x5 h H locs ls hw hl
      unfold f_X6_tries_b59 at h
      refine lv_iload hx hb dX6_tries_59 (lv_at hl 5 rfl) ?_
      refine lv_aload_n hx hb dX6_tries_61 rfl (lv_at hl 0 rfl) ?_
      replace h := gd_some h
      obtain ⟨g11, h⟩ := h
      replace h := bd_some h
      obtain ⟨q12, eq12, h⟩ := h
      refine r_getR hx hb hts iw6 hown hK hw x0 0 g11 (by decide) rfl (by decide) rfl (hq _ qw335) (fun _ h9 => h9) dX6_tries_62 eq12 ?_
      replace h := gd_some h
      obtain ⟨g13, h⟩ := h
      refine r_getI hx hb hts iw1 hown hK hw q12 4 g13 (by decide) rfl (by decide) rfl (hq _ qw195) (fun _ h9 => h9) dX6_tries_65 ?_
      refine lv_icmp_ge (tgt := 85) hx hb dX6_tries_68 (by decide) (fun c14 => ?_) (fun c14 => ?_)
      · replace h := if_some_t c14 h
        refine lv_aload_n hx hb dX6_tries_85 rfl (lv_at hl 0 rfl) ?_
        replace h := bd_some h
        obtain ⟨q15, eq15, h⟩ := h
        refine r_getR hx hb hts iw6 hown hK hw x0 4 g11 (by decide) rfl (by decide) rfl (hq _ qw339) (fun _ h9 => h9) dX6_tries_86 eq15 ?_
        replace h := gd_some h
        obtain ⟨g17, h⟩ := h
        replace h := bd_some h
        obtain ⟨r16, er16, h⟩ := h
        refine r_callVi (As := []) (rest := []) hF (c_X1_leader l D cy ad adK adV M q15 r16 er16) (gW_goodV hcm qw661 qw658 qw659 qw660 qw61) hdX1_leader rfl ⟨Nat.le_of_ble_eq_true rfl, Nat.le_of_ble_eq_true rfl⟩ rfl rfl hZ hK hw g17 (by decide) rfl rfl hl.1 rfl (Nat.le_of_ble_eq_true rfl) ⟨Nat.zero_le _, Nat.zero_le _⟩ dX6_tries_89 (fun H locs hw => ?_)
        refine lv_iload_n hx hb dX6_tries_92 rfl (lv_at hl 1 rfl) ?_
        refine lv_icmp_ne (tgt := 99) hx hb dX6_tries_93 (by decide) (fun c18 => ?_) (fun c18 => ?_)
        · replace h := if_some_f c18 h
          exact hb99 _ hk44 _ _ _ _ _ _ h _ _ _ hw (lv_sub hl [0, 1, 2, 3, 4] rfl)
        · replace h := if_some_t c18 h
          refine lv_iinc (v := x3 + (1 : Int32)) (lv' := [(3, .int (x3 + (1 : Int32))), (0, .ref (ad x0)), (1, .int x1), (2, .int x2), (4, .int x4), (5, .int x5)]) hx hb dX6_tries_96 hl (k := 3) rfl (congrArg (fun z => x3 + z) (by decide)) (by decide) rfl (fun ls hl => ?_)
          exact hb99 _ hk44 _ _ _ _ _ _ h _ _ _ hw (lv_sub hl [1, 2, 3, 0, 4] rfl)
      · replace h := if_some_f c14 h
        refine lv_aload_n hx hb dX6_tries_71 rfl (lv_at hl 0 rfl) ?_
        replace h := bd_some h
        obtain ⟨q19, eq19, h⟩ := h
        refine r_getR hx hb hts iw6 hown hK hw x0 4 g11 (by decide) rfl (by decide) rfl (hq _ qw339) (fun _ h9 => h9) dX6_tries_72 eq19 ?_
        replace h := gd_some h
        obtain ⟨g21, h⟩ := h
        replace h := bd_some h
        obtain ⟨r20, er20, h⟩ := h
        refine r_callVi (As := []) (rest := []) hF (c_X1_playDrawn l D cy ad adK adV M q19 r20 er20) (gW_goodV hcm qw643 qw640 qw641 qw642 qw61) hdX1_playDrawn rfl ⟨Nat.le_of_ble_eq_true rfl, Nat.le_of_ble_eq_true rfl⟩ rfl rfl hZ hK hw g21 (by decide) rfl rfl hl.1 rfl (Nat.le_of_ble_eq_true rfl) ⟨Nat.zero_le _, Nat.zero_le _⟩ dX6_tries_75 (fun H locs hw => ?_)
        refine lv_pop hx hb dX6_tries_78 rfl ?_
        refine lv_iinc (v := x5 + (1 : Int32)) (lv' := [(5, .int (x5 + (1 : Int32))), (0, .ref (ad x0)), (1, .int x1), (2, .int x2), (3, .int x3), (4, .int x4)]) hx hb dX6_tries_79 hl (k := 5) rfl (congrArg (fun z => x5 + z) (by decide)) (by decide) rfl (fun ls hl => ?_)
        refine lv_goto (tgt := 59) hx hb dX6_tries_82 (by decide) ?_
        exact ih _ _ _ _ _ _ _ h _ _ _ hw (lv_sub hl [1, 2, 3, 4, 5, 0] rfl)
  have hb44 : ∀ (nn : Nat), ∀ (M : Mm) (x0 : Nat) (x1 : Int32) (x2 : Int32) (x3 : Int32) (x4 : Int32), f_X6_tries_b44 nn M x0 x1 x2 x3 x4 = some res → ∀ (H : Heap) (locs : List Loc) (ls : Array Slot), Wd D cy shX ad nX (Aw ad nX) s.heap M H locs → lv_has ls 6 [(0, .ref (ad x0)), (1, .int x1), (2, .int x2), (3, .int x3), (4, .int x4)] → W p l e (headSpec (wU yX6_tries cX6_tries 6 (some .int)) rmX6_tries).room s m args below meth c H locs 0 0 (QI D cy shX ad nX adK adV below args s res) (F0 m 44 ls []) := by
    intro nn
    induction nn with
    | zero => intro M x0 x1 x2 x3 x4 h; simp [f_X6_tries_b44] at h
    | succ nn ih =>
      intro M x0 x1 x2 x3 x4 h H locs ls hw hl
      unfold f_X6_tries_b44 at h
      refine lv_iload hx hb dX6_tries_44 (lv_at hl 4 rfl) ?_
      refine lv_iload_n hx hb dX6_tries_46 rfl (lv_at hl 2 rfl) ?_
      refine lv_icmp_ge (tgt := 139) hx hb dX6_tries_47 (by decide) (fun c22 => ?_) (fun c22 => ?_)
      · replace h := if_some_t c22 h
        refine lv_aload_n hx hb dX6_tries_139 rfl (lv_at hl 0 rfl) ?_
        replace h := gd_some h
        obtain ⟨g23, h⟩ := h
        replace h := bd_some h
        obtain ⟨q24, eq24, h⟩ := h
        refine r_getR hx hb hts iw6 hown hK hw x0 0 g23 (by decide) rfl (by decide) rfl (hq _ qw335) (fun _ h9 => h9) dX6_tries_140 eq24 ?_
        refine lv_aload_n hx hb dX6_tries_143 rfl (lv_at hl 0 rfl) ?_
        replace h := bd_some h
        obtain ⟨q25, eq25, h⟩ := h
        refine r_getR hx hb hts iw6 hown hK hw x0 4 g23 (by decide) rfl (by decide) rfl (hq _ qw339) (fun _ h9 => h9) dX6_tries_144 eq25 ?_
        replace h := gd_some h
        obtain ⟨g26, h⟩ := h
        refine r_getI hx hb hts iw1 hown hK hw q25 7 g26 (by decide) rfl (by decide) rfl (hq _ qw204) (fun _ h9 => h9) dX6_tries_147 ?_
        replace h := gd_some h
        obtain ⟨g27, h⟩ := h
        refine r_putI hx hb hts iw1 tyX1 tyX1_ok nmX1 hown hK hw q24 7 g27 (by decide) rfl (by decide) rfl (hq _ qw204) (fun _ h9 => h9) rfl rfl rfl dX6_tries_150 (fun H locs hw => ?_)
        replace h := lt_some h
        obtain ⟨M28, eM28, h⟩ := h
        rw [← eM28] at hw
        refine lv_iload_n hx hb dX6_tries_153 rfl (lv_at hl 3 rfl) ?_
        exact r_iret hx hb hr rfl hlocks hZ hK hw h dX6_tries_154
      · replace h := if_some_f c22 h
        refine lv_aload_n hx hb dX6_tries_50 rfl (lv_at hl 0 rfl) ?_
        replace h := gd_some h
        obtain ⟨g29, h⟩ := h
        replace h := bd_some h
        obtain ⟨q30, eq30, h⟩ := h
        refine r_getR hx hb hts iw6 hown hK hw x0 0 g29 (by decide) rfl (by decide) rfl (hq _ qw335) (fun _ h9 => h9) dX6_tries_51 eq30 ?_
        replace h := gd_some h
        obtain ⟨g31, h⟩ := h
        refine r_getI hx hb hts iw1 hown hK hw q30 5 g31 (by decide) rfl (by decide) rfl (hq _ qw199) (fun _ h9 => h9) dX6_tries_54 ?_
        refine lv_istore (lv' := [(5, .int (M.1 q30 5)), (0, .ref (ad x0)), (1, .int x1), (2, .int x2), (3, .int x3), (4, .int x4)]) hx hb dX6_tries_57 hl (by decide) rfl (fun ls hl => ?_)
        exact hb59 _ ih 1000 _ _ _ _ _ _ _ h _ _ _ hw (lv_sub hl [1, 2, 3, 4, 5, 0] rfl)
  have hb22 : ∀ (M : Mm) (x0 : Nat), f_X6_tries_b22 M x0 = some res → ∀ (H : Heap) (locs : List Loc) (ls : Array Slot), Wd D cy shX ad nX (Aw ad nX) s.heap M H locs → lv_has ls 6 [(0, .ref (ad x0))] → W p l e (headSpec (wU yX6_tries cX6_tries 6 (some .int)) rmX6_tries).room s m args below meth c H locs 0 0 (QI D cy shX ad nX adK adV below args s res) (F0 m 22 ls []) := by
    intro M x0 h H locs ls hw hl
    unfold f_X6_tries_b22 at h
    refine lv_aload_n hx hb dX6_tries_22 rfl (lv_at hl 0 rfl) ?_
    refine lv_iconst (v := (0 : Int32)) hx hb dX6_tries_23 (by decide) ?_
    replace h := gd_some h
    obtain ⟨g33, h⟩ := h
    replace h := bd_some h
    obtain ⟨r32, er32, h⟩ := h
    refine r_callVi (As := [.int (0 : Int32)]) (rest := []) hF (c_X6_finding l D cy ad adK adV M x0 (0 : Int32) r32 er32) (gW_goodV hcm qw373 qw370 qw372 qw0 qw60) hdX6_finding rfl ⟨Nat.le_of_ble_eq_true rfl, Nat.le_of_ble_eq_true rfl⟩ rfl rfl hZ hK hw g33 (by decide) rfl rfl hl.1 rfl (Nat.le_of_ble_eq_true rfl) ⟨Nat.zero_le _, Nat.zero_le _⟩ dX6_tries_24 (fun H locs hw => ?_)
    exact r_iret hx hb hr rfl hlocks hZ hK hw h dX6_tries_27
  unfold f_X6_tries at h
  refine lv_aload_n hx hb dX6_tries_0 rfl (lv_at hl 0 rfl) ?_
  replace h := gd_some h
  obtain ⟨g34, h⟩ := h
  replace h := bd_some h
  obtain ⟨q35, eq35, h⟩ := h
  refine r_getR hx hb hts iw6 hown hK hw o0 0 g34 (by decide) rfl (by decide) rfl (hq _ qw335) (fun _ h9 => h9) dX6_tries_1 eq35 ?_
  refine lv_iload_n hx hb dX6_tries_4 rfl (lv_at hl 1 rfl) ?_
  replace h := gd_some h
  obtain ⟨g37, h⟩ := h
  replace h := bd_some h
  obtain ⟨r36, er36, h⟩ := h
  refine r_callVi (As := [.int a1]) (rest := []) hF (c_X1_hasSide l D cy ad adK adV M q35 a1 r36 er36) (gW_goodV hcm qw390 qw387 qw388 qw389 qw61) hdX1_hasSide rfl ⟨Nat.le_of_ble_eq_true rfl, Nat.le_of_ble_eq_true rfl⟩ rfl rfl hZ hK hw g37 (by decide) rfl rfl hl.1 rfl (Nat.le_of_ble_eq_true rfl) ⟨Nat.zero_le _, Nat.zero_le _⟩ dX6_tries_5 (fun H locs hw => ?_)
  refine lv_if_eq (tgt := 22) hx hb dX6_tries_8 (by decide) (fun c38 => ?_) (fun c38 => ?_)
  · replace h := if_some_t c38 h
    exact hb22 _ _ h _ _ _ hw (lv_sub hl [0] rfl)
  · replace h := if_some_f c38 h
    refine lv_iload_n hx hb dX6_tries_11 rfl (lv_at hl 2 rfl) ?_
    refine lv_iconst (v := (1 : Int32)) hx hb dX6_tries_12 (by decide) ?_
    refine lv_icmp_lt (tgt := 22) hx hb dX6_tries_13 (by decide) (fun c39 => ?_) (fun c39 => ?_)
    · replace h := if_some_t c39 h
      exact hb22 _ _ h _ _ _ hw (lv_sub hl [0] rfl)
    · replace h := if_some_f c39 h
      refine lv_iload_n hx hb dX6_tries_16 rfl (lv_at hl 2 rfl) ?_
      refine lv_bipush (v := (40 : Int32)) hx hb dX6_tries_17 (by decide) ?_
      refine lv_icmp_le (tgt := 28) hx hb dX6_tries_19 (by decide) (fun c40 => ?_) (fun c40 => ?_)
      · replace h := if_some_t c40 h
        refine lv_aload_n hx hb dX6_tries_28 rfl (lv_at hl 0 rfl) ?_
        replace h := bd_some h
        obtain ⟨q41, eq41, h⟩ := h
        refine r_getR hx hb hts iw6 hown hK hw o0 4 g34 (by decide) rfl (by decide) rfl (hq _ qw339) (fun _ h9 => h9) dX6_tries_29 eq41 ?_
        refine lv_aload_n hx hb dX6_tries_32 rfl (lv_at hl 0 rfl) ?_
        replace h := bd_some h
        obtain ⟨q42, eq42, h⟩ := h
        refine r_getR hx hb hts iw6 hown hK hw o0 0 g34 (by decide) rfl (by decide) rfl (hq _ qw335) (fun _ h9 => h9) dX6_tries_33 eq42 ?_
        replace h := gd_some h
        obtain ⟨g44, h⟩ := h
        replace h := bd_some h
        obtain ⟨r43, er43, h⟩ := h
        refine r_callVv (As := [.ref (ad q42)]) (rest := []) hF (c_X1_become l D cy ad adK adV r36.1 q41 q42 r43 er43) (gW_goodV hcm qw457 qw454 qw455 qw456 qw61) hdX1_become rfl ⟨Nat.le_of_ble_eq_true rfl, Nat.le_of_ble_eq_true rfl⟩ rfl rfl hZ hK hw g44 (by decide) rfl rfl hl.1 rfl (Nat.le_of_ble_eq_true rfl) ⟨Nat.zero_le _, Nat.zero_le _⟩ dX6_tries_36 (fun H locs hw => ?_)
        refine lv_iconst (v := (0 : Int32)) hx hb dX6_tries_39 (by decide) ?_
        refine lv_istore_n (lv' := [(3, .int (0 : Int32)), (0, .ref (ad o0)), (1, .int a1), (2, .int a2)]) hx hb dX6_tries_40 rfl hl (by decide) rfl (fun ls hl => ?_)
        refine lv_iconst (v := (0 : Int32)) hx hb dX6_tries_41 (by decide) ?_
        refine lv_istore (lv' := [(4, .int (0 : Int32)), (3, .int (0 : Int32)), (0, .ref (ad o0)), (1, .int a1), (2, .int a2)]) hx hb dX6_tries_42 hl (by decide) rfl (fun ls hl => ?_)
        exact hb44 1000 _ _ _ _ _ _ h _ _ _ hw (lv_sub hl [2, 3, 4, 1, 0] rfl)
      · replace h := if_some_f c40 h
        exact hb22 _ _ h _ _ _ hw (lv_sub hl [0] rfl)
theorem dX6_seed_0 : decode cX6_seed 0 = .ok (.aload_n 0, 1) := by decide +kernel
theorem dX6_seed_1 : decode cX6_seed 1 = .ok (.getfield 10, 3) := by decide +kernel
theorem dX6_seed_4 : decode cX6_seed 4 = .ok (.getfield 248, 3) := by decide +kernel
theorem dX6_seed_7 : decode cX6_seed 7 = .ok (.istore_n 2, 1) := by decide +kernel
theorem dX6_seed_8 : decode cX6_seed 8 = .ok (.aload_n 0, 1) := by decide +kernel
theorem dX6_seed_9 : decode cX6_seed 9 = .ok (.getfield 10, 3) := by decide +kernel
theorem dX6_seed_12 : decode cX6_seed 12 = .ok (.iload_n 1, 1) := by decide +kernel
theorem dX6_seed_13 : decode cX6_seed 13 = .ok (.putfield 248, 3) := by decide +kernel
theorem dX6_seed_16 : decode cX6_seed 16 = .ok (.iload_n 2, 1) := by decide +kernel
theorem dX6_seed_17 : decode cX6_seed 17 = .ok (.ireturn, 1) := by decide +kernel
set_option maxHeartbeats 4000000 in
set_option maxRecDepth 100000 in
theorem c_X6_seed (l : Launch) (D : va_G) (cy : Nat → ClassId) (ad adK adV : Nat → Nat) (M : Mm) (o0 : Nat) (a1 : Int32) (res : Mm × Int32) (h : f_X6_seed M o0 a1 = some res) : Met l yX6_seed (wU yX6_seed cX6_seed 3 (some .int)) rmX6_seed (va_Pc [.ref (ad o0), .int a1] (Pre D cy shX ad nX adK adV M)) (va_Qi (fun r (M2 : Mm) => r = res.2 ∧ M2 = res.1) (Pre D cy shX ad nX adK adV) (Aw ad nX)) 0 0 (Aw ad nX) := by
  refine Met.ofW (cc := cX6_seed) (maxL := 3) (ret := (some .int)) (by decide) rfl ?_
  intro p e s m args below meth c s₁ B hml hv
  obtain ⟨hargs, hPre⟩ := hv
  have hx := B.exec
  have hb := B.bytes
  have hr := B.returns
  have hts := atoms_spec (ws := wU yX6_seed cX6_seed 3 (some .int)) B.pre
  have hq : ∀ w ∈ gW, w.before args s = true := fun w hw => hts w (List.mem_cons_of_mem _ hw)
  have hcm : ∀ w ∈ gW, w ∈ wU yX6_seed cX6_seed 3 (some .int) := fun w hw => List.mem_cons_of_mem _ hw
  have hown : s.vm.findClass RX6 = some m.cls := findClass_of_methodNamed B.named
  have hlocks := B.notSynchronized
  have hF : CallFix p m c cX6_seed 3 s args (wU yX6_seed cX6_seed 3 (some .int)) RX6 := ⟨hx, hb, hml, hown, hts⟩
  have hK := hPre.2.1
  have hZ := hPre.2.2.2
  have hw : Wd D cy shX ad nX (Aw ad nX) s.heap M s.heap [] := ⟨hPre.1, hPre.2.2.1, va_S.rf⟩
  have iw1 : ∀ w ∈ u_ws RX1 TX1 11, w ∈ wU yX6_seed cX6_seed 3 (some .int) := fun w hw => List.mem_cons_of_mem _ (iX1 w hw)
  have iw6 : ∀ w ∈ u_ws RX6 TX6 8, w ∈ wU yX6_seed cX6_seed 3 (some .int) := fun w hw => List.mem_cons_of_mem _ (iX6 w hw)
  rw [show entryFrame m args 3 = entryFrame m ([.ref (ad o0), .int a1] : List Value).toArray 3 from by rw [hargs]]
  have hl := lv_entry ([.ref (ad o0), .int a1]) (n := 3) (Nat.le_of_ble_eq_true rfl)
  rw [lg_entry_eq]
  generalize (lg_sl ([.ref (ad o0), .int a1]) ++ List.replicate (3 - (lg_sl ([.ref (ad o0), .int a1])).length) Slot.unset).toArray = ls at hl ⊢
  have hl : lv_has ls 3 [(0, .ref (ad o0)), (1, .int a1)] := hl
  unfold f_X6_seed at h
  refine lv_aload_n hx hb dX6_seed_0 rfl (lv_at hl 0 rfl) ?_
  replace h := gd_some h
  obtain ⟨g1, h⟩ := h
  replace h := bd_some h
  obtain ⟨q2, eq2, h⟩ := h
  refine r_getR hx hb hts iw6 hown hK hw o0 0 g1 (by decide) rfl (by decide) rfl (hq _ qw335) (fun _ h9 => h9) dX6_seed_1 eq2 ?_
  replace h := gd_some h
  obtain ⟨g3, h⟩ := h
  refine r_getI hx hb hts iw1 hown hK hw q2 7 g3 (by decide) rfl (by decide) rfl (hq _ qw204) (fun _ h9 => h9) dX6_seed_4 ?_
  refine lv_istore_n (lv' := [(2, .int (M.1 q2 7)), (0, .ref (ad o0)), (1, .int a1)]) hx hb dX6_seed_7 rfl hl (by decide) rfl (fun ls hl => ?_)
  refine lv_aload_n hx hb dX6_seed_8 rfl (lv_at hl 1 rfl) ?_
  replace h := bd_some h
  obtain ⟨q4, eq4, h⟩ := h
  refine r_getR hx hb hts iw6 hown hK hw o0 0 g1 (by decide) rfl (by decide) rfl (hq _ qw335) (fun _ h9 => h9) dX6_seed_9 eq4 ?_
  refine lv_iload_n hx hb dX6_seed_12 rfl (lv_at hl 2 rfl) ?_
  replace h := gd_some h
  obtain ⟨g5, h⟩ := h
  refine r_putI hx hb hts iw1 tyX1 tyX1_ok nmX1 hown hK hw q4 7 g5 (by decide) rfl (by decide) rfl (hq _ qw204) (fun _ h9 => h9) rfl rfl rfl dX6_seed_13 (fun H locs hw => ?_)
  replace h := lt_some h
  obtain ⟨M6, eM6, h⟩ := h
  rw [← eM6] at hw
  refine lv_iload_n hx hb dX6_seed_16 rfl (lv_at hl 0 rfl) ?_
  exact r_iret hx hb hr rfl hlocks hZ hK hw h dX6_seed_17
theorem dX6_isSpot_0 : decode cX6_isSpot 0 = .ok (.iload_n 0, 1) := by decide +kernel
theorem dX6_isSpot_1 : decode cX6_isSpot 1 = .ok (.ifCond .lt 13, 3) := by decide +kernel
theorem dX6_isSpot_4 : decode cX6_isSpot 4 = .ok (.iload_n 0, 1) := by decide +kernel
theorem dX6_isSpot_5 : decode cX6_isSpot 5 = .ok (.bipush 10, 2) := by decide +kernel
theorem dX6_isSpot_7 : decode cX6_isSpot 7 = .ok (.if_icmp .ge 7, 3) := by decide +kernel
theorem dX6_isSpot_10 : decode cX6_isSpot 10 = .ok (.iconst 1, 1) := by decide +kernel
theorem dX6_isSpot_11 : decode cX6_isSpot 11 = .ok (.goto 4, 3) := by decide +kernel
theorem dX6_isSpot_14 : decode cX6_isSpot 14 = .ok (.iconst 0, 1) := by decide +kernel
theorem dX6_isSpot_15 : decode cX6_isSpot 15 = .ok (.ireturn, 1) := by decide +kernel
set_option maxHeartbeats 4000000 in
set_option maxRecDepth 100000 in
theorem c_X6_isSpot (l : Launch) (D : va_G) (cy : Nat → ClassId) (ad adK adV : Nat → Nat) (M : Mm) (a0 : Int32) (res : Mm × Int32) (h : f_X6_isSpot M a0 = some res) : Met l yX6_isSpot (wU yX6_isSpot cX6_isSpot 1 (some .boolean)) rmX6_isSpot (va_Pc [.int a0] (Pre D cy shX ad nX adK adV M)) (va_Qi (fun r (M2 : Mm) => r = res.2 ∧ M2 = res.1) (Pre D cy shX ad nX adK adV) (Aw ad nX)) 0 0 (Aw ad nX) := by
  refine Met.ofW (cc := cX6_isSpot) (maxL := 1) (ret := (some .boolean)) (by decide) rfl ?_
  intro p e s m args below meth c s₁ B hml hv
  obtain ⟨hargs, hPre⟩ := hv
  have hx := B.exec
  have hb := B.bytes
  have hr := B.returns
  have hts := atoms_spec (ws := wU yX6_isSpot cX6_isSpot 1 (some .boolean)) B.pre
  have hq : ∀ w ∈ gW, w.before args s = true := fun w hw => hts w (List.mem_cons_of_mem _ hw)
  have hcm : ∀ w ∈ gW, w ∈ wU yX6_isSpot cX6_isSpot 1 (some .boolean) := fun w hw => List.mem_cons_of_mem _ hw
  have hown : s.vm.findClass RX6 = some m.cls := findClass_of_methodNamed B.named
  have hlocks := B.notSynchronized
  have hF : CallFix p m c cX6_isSpot 1 s args (wU yX6_isSpot cX6_isSpot 1 (some .boolean)) RX6 := ⟨hx, hb, hml, hown, hts⟩
  have hK := hPre.2.1
  have hZ := hPre.2.2.2
  have hw : Wd D cy shX ad nX (Aw ad nX) s.heap M s.heap [] := ⟨hPre.1, hPre.2.2.1, va_S.rf⟩
  rw [show entryFrame m args 1 = entryFrame m ([.int a0] : List Value).toArray 1 from by rw [hargs]]
  have hl := lv_entry ([.int a0]) (n := 1) (Nat.le_of_ble_eq_true rfl)
  rw [lg_entry_eq]
  generalize (lg_sl ([.int a0]) ++ List.replicate (1 - (lg_sl ([.int a0])).length) Slot.unset).toArray = ls at hl ⊢
  have hl : lv_has ls 1 [(0, .int a0)] := hl
  unfold f_X6_isSpot at h
  refine lv_iload_n hx hb dX6_isSpot_0 rfl (lv_at hl 0 rfl) ?_
  refine lv_if_lt (tgt := 14) hx hb dX6_isSpot_1 (by decide) (fun c1 => ?_) (fun c1 => ?_)
  · replace h := if_some_t c1 h
    refine lv_iconst (v := (0 : Int32)) hx hb dX6_isSpot_14 (by decide) ?_
    exact r_iret hx hb hr rfl hlocks hZ hK hw h dX6_isSpot_15
  · replace h := if_some_f c1 h
    refine lv_iload_n hx hb dX6_isSpot_4 rfl (lv_at hl 0 rfl) ?_
    refine lv_bipush (v := (10 : Int32)) hx hb dX6_isSpot_5 (by decide) ?_
    refine lv_icmp_ge (tgt := 14) hx hb dX6_isSpot_7 (by decide) (fun c2 => ?_) (fun c2 => ?_)
    · replace h := if_some_t c2 h
      refine lv_iconst (v := (0 : Int32)) hx hb dX6_isSpot_14 (by decide) ?_
      exact r_iret hx hb hr rfl hlocks hZ hK hw h dX6_isSpot_15
    · replace h := if_some_f c2 h
      refine lv_iconst (v := (1 : Int32)) hx hb dX6_isSpot_10 (by decide) ?_
      refine lv_goto (tgt := 15) hx hb dX6_isSpot_11 (by decide) ?_
      exact r_iret hx hb hr rfl hlocks hZ hK hw h dX6_isSpot_15
theorem dX6_hold_0 : decode cX6_hold 0 = .ok (.iload_n 1, 1) := by decide +kernel
theorem dX6_hold_1 : decode cX6_hold 1 = .ok (.invokestatic 251, 3) := by decide +kernel
theorem dX6_hold_4 : decode cX6_hold 4 = .ok (.ifCond .eq 19, 3) := by decide +kernel
theorem dX6_hold_7 : decode cX6_hold 7 = .ok (.iload_n 2, 1) := by decide +kernel
theorem dX6_hold_8 : decode cX6_hold 8 = .ok (.iconst (-1), 1) := by decide +kernel
theorem dX6_hold_9 : decode cX6_hold 9 = .ok (.if_icmp .eq 20, 3) := by decide +kernel
theorem dX6_hold_12 : decode cX6_hold 12 = .ok (.aload_n 0, 1) := by decide +kernel
theorem dX6_hold_13 : decode cX6_hold 13 = .ok (.getfield 10, 3) := by decide +kernel
theorem dX6_hold_16 : decode cX6_hold 16 = .ok (.iload_n 2, 1) := by decide +kernel
theorem dX6_hold_17 : decode cX6_hold 17 = .ok (.invokevirtual 71, 3) := by decide +kernel
theorem dX6_hold_20 : decode cX6_hold 20 = .ok (.ifCond .ne 9, 3) := by decide +kernel
theorem dX6_hold_23 : decode cX6_hold 23 = .ok (.aload_n 0, 1) := by decide +kernel
theorem dX6_hold_24 : decode cX6_hold 24 = .ok (.iconst 0, 1) := by decide +kernel
theorem dX6_hold_25 : decode cX6_hold 25 = .ok (.invokevirtual 59, 3) := by decide +kernel
theorem dX6_hold_28 : decode cX6_hold 28 = .ok (.ireturn, 1) := by decide +kernel
theorem dX6_hold_29 : decode cX6_hold 29 = .ok (.aload_n 0, 1) := by decide +kernel
theorem dX6_hold_30 : decode cX6_hold 30 = .ok (.getfield 10, 3) := by decide +kernel
theorem dX6_hold_33 : decode cX6_hold 33 = .ok (.getfield 254, 3) := by decide +kernel
theorem dX6_hold_36 : decode cX6_hold 36 = .ok (.iload_n 1, 1) := by decide +kernel
theorem dX6_hold_37 : decode cX6_hold 37 = .ok (.iload_n 2, 1) := by decide +kernel
theorem dX6_hold_38 : decode cX6_hold 38 = .ok (.iastore, 1) := by decide +kernel
theorem dX6_hold_39 : decode cX6_hold 39 = .ok (.iconst 1, 1) := by decide +kernel
theorem dX6_hold_40 : decode cX6_hold 40 = .ok (.ireturn, 1) := by decide +kernel
set_option maxHeartbeats 4000000 in
set_option maxRecDepth 100000 in
theorem c_X6_hold (l : Launch) (D : va_G) (cy : Nat → ClassId) (ad adK adV : Nat → Nat) (M : Mm) (o0 : Nat) (a1 : Int32) (a2 : Int32) (res : Mm × Int32) (h : f_X6_hold M o0 a1 a2 = some res) : Met l yX6_hold (wU yX6_hold cX6_hold 3 (some .int)) rmX6_hold (va_Pc [.ref (ad o0), .int a1, .int a2] (Pre D cy shX ad nX adK adV M)) (va_Qi (fun r (M2 : Mm) => r = res.2 ∧ M2 = res.1) (Pre D cy shX ad nX adK adV) (Aw ad nX)) 0 0 (Aw ad nX) := by
  refine Met.ofW (cc := cX6_hold) (maxL := 3) (ret := (some .int)) (by decide) rfl ?_
  intro p e s m args below meth c s₁ B hml hv
  obtain ⟨hargs, hPre⟩ := hv
  have hx := B.exec
  have hb := B.bytes
  have hr := B.returns
  have hts := atoms_spec (ws := wU yX6_hold cX6_hold 3 (some .int)) B.pre
  have hq : ∀ w ∈ gW, w.before args s = true := fun w hw => hts w (List.mem_cons_of_mem _ hw)
  have hcm : ∀ w ∈ gW, w ∈ wU yX6_hold cX6_hold 3 (some .int) := fun w hw => List.mem_cons_of_mem _ hw
  have hown : s.vm.findClass RX6 = some m.cls := findClass_of_methodNamed B.named
  have hlocks := B.notSynchronized
  have hF : CallFix p m c cX6_hold 3 s args (wU yX6_hold cX6_hold 3 (some .int)) RX6 := ⟨hx, hb, hml, hown, hts⟩
  have hK := hPre.2.1
  have hZ := hPre.2.2.2
  have hw : Wd D cy shX ad nX (Aw ad nX) s.heap M s.heap [] := ⟨hPre.1, hPre.2.2.1, va_S.rf⟩
  have iw1 : ∀ w ∈ u_ws RX1 TX1 11, w ∈ wU yX6_hold cX6_hold 3 (some .int) := fun w hw => List.mem_cons_of_mem _ (iX1 w hw)
  have iw6 : ∀ w ∈ u_ws RX6 TX6 8, w ∈ wU yX6_hold cX6_hold 3 (some .int) := fun w hw => List.mem_cons_of_mem _ (iX6 w hw)
  rw [show entryFrame m args 3 = entryFrame m ([.ref (ad o0), .int a1, .int a2] : List Value).toArray 3 from by rw [hargs]]
  have hl := lv_entry ([.ref (ad o0), .int a1, .int a2]) (n := 3) (Nat.le_of_ble_eq_true rfl)
  rw [lg_entry_eq]
  generalize (lg_sl ([.ref (ad o0), .int a1, .int a2]) ++ List.replicate (3 - (lg_sl ([.ref (ad o0), .int a1, .int a2])).length) Slot.unset).toArray = ls at hl ⊢
  have hl : lv_has ls 3 [(0, .ref (ad o0)), (1, .int a1), (2, .int a2)] := hl
  have hb29 : ∀ (M : Mm) (x0 : Nat) (x1 : Int32) (x2 : Int32), f_X6_hold_b29 M x0 x1 x2 = some res → ∀ (H : Heap) (locs : List Loc) (ls : Array Slot), Wd D cy shX ad nX (Aw ad nX) s.heap M H locs → lv_has ls 3 [(0, .ref (ad x0)), (1, .int x1), (2, .int x2)] → W p l e (headSpec (wU yX6_hold cX6_hold 3 (some .int)) rmX6_hold).room s m args below meth c H locs 0 0 (QI D cy shX ad nX adK adV below args s res) (F0 m 29 ls []) := by
    intro M x0 x1 x2 h H locs ls hw hl
    unfold f_X6_hold_b29 at h
    refine lv_aload_n hx hb dX6_hold_29 rfl (lv_at hl 0 rfl) ?_
    replace h := gd_some h
    obtain ⟨g1, h⟩ := h
    replace h := bd_some h
    obtain ⟨q2, eq2, h⟩ := h
    refine r_getR hx hb hts iw6 hown hK hw x0 0 g1 (by decide) rfl (by decide) rfl (hq _ qw335) (fun _ h9 => h9) dX6_hold_30 eq2 ?_
    replace h := gd_some h
    obtain ⟨g3, h⟩ := h
    replace h := bd_some h
    obtain ⟨q4, eq4, h⟩ := h
    refine r_getR hx hb hts iw1 hown hK hw q2 2 g3 (by decide) rfl (by decide) rfl (hq _ qw188) (fun _ h9 => h9) dX6_hold_33 eq4 ?_
    refine lv_iload_n hx hb dX6_hold_36 rfl (lv_at hl 1 rfl) ?_
    refine lv_iload_n hx hb dX6_hold_37 rfl (lv_at hl 2 rfl) ?_
    replace h := gd_some h
    obtain ⟨g5, h⟩ := h
    refine r_iast hx hb hK hw q4 g5 dX6_hold_38 (fun H locs hw => ?_)
    replace h := lt_some h
    obtain ⟨M6, eM6, h⟩ := h
    rw [← eM6] at hw
    refine lv_iconst (v := (1 : Int32)) hx hb dX6_hold_39 (by decide) ?_
    exact r_iret hx hb hr rfl hlocks hZ hK hw h dX6_hold_40
  have hb23 : ∀ (M : Mm) (x0 : Nat), f_X6_hold_b23 M x0 = some res → ∀ (H : Heap) (locs : List Loc) (ls : Array Slot), Wd D cy shX ad nX (Aw ad nX) s.heap M H locs → lv_has ls 3 [(0, .ref (ad x0))] → W p l e (headSpec (wU yX6_hold cX6_hold 3 (some .int)) rmX6_hold).room s m args below meth c H locs 0 0 (QI D cy shX ad nX adK adV below args s res) (F0 m 23 ls []) := by
    intro M x0 h H locs ls hw hl
    unfold f_X6_hold_b23 at h
    refine lv_aload_n hx hb dX6_hold_23 rfl (lv_at hl 0 rfl) ?_
    refine lv_iconst (v := (0 : Int32)) hx hb dX6_hold_24 (by decide) ?_
    replace h := gd_some h
    obtain ⟨g8, h⟩ := h
    replace h := bd_some h
    obtain ⟨r7, er7, h⟩ := h
    refine r_callVi (As := [.int (0 : Int32)]) (rest := []) hF (c_X6_finding l D cy ad adK adV M x0 (0 : Int32) r7 er7) (gW_goodV hcm qw373 qw370 qw372 qw0 qw60) hdX6_finding rfl ⟨Nat.le_of_ble_eq_true rfl, Nat.le_of_ble_eq_true rfl⟩ rfl rfl hZ hK hw g8 (by decide) rfl rfl hl.1 rfl (Nat.le_of_ble_eq_true rfl) ⟨Nat.zero_le _, Nat.zero_le _⟩ dX6_hold_25 (fun H locs hw => ?_)
    exact r_iret hx hb hr rfl hlocks hZ hK hw h dX6_hold_28
  unfold f_X6_hold at h
  refine lv_iload_n hx hb dX6_hold_0 rfl (lv_at hl 1 rfl) ?_
  replace h := bd_some h
  obtain ⟨r9, er9, h⟩ := h
  refine r_callSi (As := [.int a1]) (rest := []) hF (c_X6_isSpot l D cy ad adK adV M a1 r9 er9) (gW_goodS hcm qw805 qw803 qw804 qw60) hdX6_isSpot ⟨Nat.le_of_ble_eq_true rfl, Nat.le_of_ble_eq_true rfl⟩ rfl rfl hZ hK hw rfl hl.1 rfl (Nat.le_of_ble_eq_true rfl) ⟨Nat.zero_le _, Nat.zero_le _⟩ dX6_hold_1 (fun H locs hw => ?_)
  refine lv_if_eq (tgt := 23) hx hb dX6_hold_4 (by decide) (fun c10 => ?_) (fun c10 => ?_)
  · replace h := if_some_t c10 h
    exact hb23 _ _ h _ _ _ hw (lv_sub hl [0] rfl)
  · replace h := if_some_f c10 h
    refine lv_iload_n hx hb dX6_hold_7 rfl (lv_at hl 2 rfl) ?_
    refine lv_iconst (v := (-1 : Int32)) hx hb dX6_hold_8 (by decide) ?_
    refine lv_icmp_eq (tgt := 29) hx hb dX6_hold_9 (by decide) (fun c11 => ?_) (fun c11 => ?_)
    · replace h := if_some_t c11 h
      exact hb29 _ _ _ _ h _ _ _ hw (lv_sub hl [0, 1, 2] rfl)
    · replace h := if_some_f c11 h
      refine lv_aload_n hx hb dX6_hold_12 rfl (lv_at hl 0 rfl) ?_
      replace h := gd_some h
      obtain ⟨g12, h⟩ := h
      replace h := bd_some h
      obtain ⟨q13, eq13, h⟩ := h
      refine r_getR hx hb hts iw6 hown hK hw o0 0 g12 (by decide) rfl (by decide) rfl (hq _ qw335) (fun _ h9 => h9) dX6_hold_13 eq13 ?_
      refine lv_iload_n hx hb dX6_hold_16 rfl (lv_at hl 2 rfl) ?_
      replace h := gd_some h
      obtain ⟨g15, h⟩ := h
      replace h := bd_some h
      obtain ⟨r14, er14, h⟩ := h
      refine r_callVi (As := [.int a2]) (rest := []) hF (c_X1_hasSide l D cy ad adK adV r9.1 q13 a2 r14 er14) (gW_goodV hcm qw390 qw387 qw388 qw389 qw61) hdX1_hasSide rfl ⟨Nat.le_of_ble_eq_true rfl, Nat.le_of_ble_eq_true rfl⟩ rfl rfl hZ hK hw g15 (by decide) rfl rfl hl.1 rfl (Nat.le_of_ble_eq_true rfl) ⟨Nat.zero_le _, Nat.zero_le _⟩ dX6_hold_17 (fun H locs hw => ?_)
      refine lv_if_ne (tgt := 29) hx hb dX6_hold_20 (by decide) (fun c16 => ?_) (fun c16 => ?_)
      · replace h := if_some_f c16 h
        exact hb29 _ _ _ _ h _ _ _ hw (lv_sub hl [0, 1, 2] rfl)
      · replace h := if_some_t c16 h
        exact hb23 _ _ h _ _ _ hw (lv_sub hl [0] rfl)
theorem dX6_isUnder_0 : decode cX6_isUnder 0 = .ok (.iload_n 0, 1) := by decide +kernel
theorem dX6_isUnder_1 : decode cX6_isUnder 1 = .ok (.iload_n 1, 1) := by decide +kernel
theorem dX6_isUnder_2 : decode cX6_isUnder 2 = .ok (.if_icmp .eq 7, 3) := by decide +kernel
theorem dX6_isUnder_5 : decode cX6_isUnder 5 = .ok (.iload_n 1, 1) := by decide +kernel
theorem dX6_isUnder_6 : decode cX6_isUnder 6 = .ok (.ifCond .ne 5, 3) := by decide +kernel
theorem dX6_isUnder_9 : decode cX6_isUnder 9 = .ok (.iconst 1, 1) := by decide +kernel
theorem dX6_isUnder_10 : decode cX6_isUnder 10 = .ok (.ireturn, 1) := by decide +kernel
theorem dX6_isUnder_11 : decode cX6_isUnder 11 = .ok (.iload_n 1, 1) := by decide +kernel
theorem dX6_isUnder_12 : decode cX6_isUnder 12 = .ok (.iconst 2, 1) := by decide +kernel
theorem dX6_isUnder_13 : decode cX6_isUnder 13 = .ok (.if_icmp .ne 13, 3) := by decide +kernel
theorem dX6_isUnder_16 : decode cX6_isUnder 16 = .ok (.iload_n 0, 1) := by decide +kernel
theorem dX6_isUnder_17 : decode cX6_isUnder 17 = .ok (.iconst 3, 1) := by decide +kernel
theorem dX6_isUnder_18 : decode cX6_isUnder 18 = .ok (.if_icmp .eq 18, 3) := by decide +kernel
theorem dX6_isUnder_21 : decode cX6_isUnder 21 = .ok (.iload_n 0, 1) := by decide +kernel
theorem dX6_isUnder_22 : decode cX6_isUnder 22 = .ok (.iconst 4, 1) := by decide +kernel
theorem dX6_isUnder_23 : decode cX6_isUnder 23 = .ok (.if_icmp .eq 13, 3) := by decide +kernel
theorem dX6_isUnder_26 : decode cX6_isUnder 26 = .ok (.iload_n 1, 1) := by decide +kernel
theorem dX6_isUnder_27 : decode cX6_isUnder 27 = .ok (.iconst 1, 1) := by decide +kernel
theorem dX6_isUnder_28 : decode cX6_isUnder 28 = .ok (.if_icmp .ne 12, 3) := by decide +kernel
theorem dX6_isUnder_31 : decode cX6_isUnder 31 = .ok (.iload_n 0, 1) := by decide +kernel
theorem dX6_isUnder_32 : decode cX6_isUnder 32 = .ok (.iconst 5, 1) := by decide +kernel
theorem dX6_isUnder_33 : decode cX6_isUnder 33 = .ok (.if_icmp .ne 7, 3) := by decide +kernel
theorem dX6_isUnder_36 : decode cX6_isUnder 36 = .ok (.iconst 1, 1) := by decide +kernel
theorem dX6_isUnder_37 : decode cX6_isUnder 37 = .ok (.goto 4, 3) := by decide +kernel
theorem dX6_isUnder_40 : decode cX6_isUnder 40 = .ok (.iconst 0, 1) := by decide +kernel
theorem dX6_isUnder_41 : decode cX6_isUnder 41 = .ok (.ireturn, 1) := by decide +kernel
set_option maxHeartbeats 4000000 in
set_option maxRecDepth 100000 in
theorem c_X6_isUnder (l : Launch) (D : va_G) (cy : Nat → ClassId) (ad adK adV : Nat → Nat) (M : Mm) (a0 : Int32) (a1 : Int32) (res : Mm × Int32) (h : f_X6_isUnder M a0 a1 = some res) : Met l yX6_isUnder (wU yX6_isUnder cX6_isUnder 2 (some .boolean)) rmX6_isUnder (va_Pc [.int a0, .int a1] (Pre D cy shX ad nX adK adV M)) (va_Qi (fun r (M2 : Mm) => r = res.2 ∧ M2 = res.1) (Pre D cy shX ad nX adK adV) (Aw ad nX)) 0 0 (Aw ad nX) := by
  refine Met.ofW (cc := cX6_isUnder) (maxL := 2) (ret := (some .boolean)) (by decide) rfl ?_
  intro p e s m args below meth c s₁ B hml hv
  obtain ⟨hargs, hPre⟩ := hv
  have hx := B.exec
  have hb := B.bytes
  have hr := B.returns
  have hts := atoms_spec (ws := wU yX6_isUnder cX6_isUnder 2 (some .boolean)) B.pre
  have hq : ∀ w ∈ gW, w.before args s = true := fun w hw => hts w (List.mem_cons_of_mem _ hw)
  have hcm : ∀ w ∈ gW, w ∈ wU yX6_isUnder cX6_isUnder 2 (some .boolean) := fun w hw => List.mem_cons_of_mem _ hw
  have hown : s.vm.findClass RX6 = some m.cls := findClass_of_methodNamed B.named
  have hlocks := B.notSynchronized
  have hF : CallFix p m c cX6_isUnder 2 s args (wU yX6_isUnder cX6_isUnder 2 (some .boolean)) RX6 := ⟨hx, hb, hml, hown, hts⟩
  have hK := hPre.2.1
  have hZ := hPre.2.2.2
  have hw : Wd D cy shX ad nX (Aw ad nX) s.heap M s.heap [] := ⟨hPre.1, hPre.2.2.1, va_S.rf⟩
  rw [show entryFrame m args 2 = entryFrame m ([.int a0, .int a1] : List Value).toArray 2 from by rw [hargs]]
  have hl := lv_entry ([.int a0, .int a1]) (n := 2) (Nat.le_of_ble_eq_true rfl)
  rw [lg_entry_eq]
  generalize (lg_sl ([.int a0, .int a1]) ++ List.replicate (2 - (lg_sl ([.int a0, .int a1])).length) Slot.unset).toArray = ls at hl ⊢
  have hl : lv_has ls 2 [(0, .int a0), (1, .int a1)] := hl
  have hb36 : ∀ (M : Mm) , f_X6_isUnder_b36 M  = some res → ∀ (H : Heap) (locs : List Loc) (ls : Array Slot), Wd D cy shX ad nX (Aw ad nX) s.heap M H locs → lv_has ls 2 [] → W p l e (headSpec (wU yX6_isUnder cX6_isUnder 2 (some .boolean)) rmX6_isUnder).room s m args below meth c H locs 0 0 (QI D cy shX ad nX adK adV below args s res) (F0 m 36 ls []) := by
    intro M h H locs ls hw hl
    unfold f_X6_isUnder_b36 at h
    refine lv_iconst (v := (1 : Int32)) hx hb dX6_isUnder_36 (by decide) ?_
    refine lv_goto (tgt := 41) hx hb dX6_isUnder_37 (by decide) ?_
    exact r_iret hx hb hr rfl hlocks hZ hK hw h dX6_isUnder_41
  have hb26 : ∀ (M : Mm) (x0 : Int32) (x1 : Int32), f_X6_isUnder_b26 M x0 x1 = some res → ∀ (H : Heap) (locs : List Loc) (ls : Array Slot), Wd D cy shX ad nX (Aw ad nX) s.heap M H locs → lv_has ls 2 [(0, .int x0), (1, .int x1)] → W p l e (headSpec (wU yX6_isUnder cX6_isUnder 2 (some .boolean)) rmX6_isUnder).room s m args below meth c H locs 0 0 (QI D cy shX ad nX adK adV below args s res) (F0 m 26 ls []) := by
    intro M x0 x1 h H locs ls hw hl
    unfold f_X6_isUnder_b26 at h
    refine lv_iload_n hx hb dX6_isUnder_26 rfl (lv_at hl 1 rfl) ?_
    refine lv_iconst (v := (1 : Int32)) hx hb dX6_isUnder_27 (by decide) ?_
    refine lv_icmp_ne (tgt := 40) hx hb dX6_isUnder_28 (by decide) (fun c1 => ?_) (fun c1 => ?_)
    · replace h := if_some_f c1 h
      refine lv_iconst (v := (0 : Int32)) hx hb dX6_isUnder_40 (by decide) ?_
      exact r_iret hx hb hr rfl hlocks hZ hK hw h dX6_isUnder_41
    · replace h := if_some_t c1 h
      refine lv_iload_n hx hb dX6_isUnder_31 rfl (lv_at hl 0 rfl) ?_
      refine lv_iconst (v := (5 : Int32)) hx hb dX6_isUnder_32 (by decide) ?_
      refine lv_icmp_ne (tgt := 40) hx hb dX6_isUnder_33 (by decide) (fun c2 => ?_) (fun c2 => ?_)
      · replace h := if_some_f c2 h
        refine lv_iconst (v := (0 : Int32)) hx hb dX6_isUnder_40 (by decide) ?_
        exact r_iret hx hb hr rfl hlocks hZ hK hw h dX6_isUnder_41
      · replace h := if_some_t c2 h
        exact hb36 _ h _ _ _ hw (lv_sub hl [] rfl)
  unfold f_X6_isUnder at h
  refine lv_iload_n hx hb dX6_isUnder_0 rfl (lv_at hl 0 rfl) ?_
  refine lv_iload_n hx hb dX6_isUnder_1 rfl (lv_at hl 1 rfl) ?_
  refine lv_icmp_eq (tgt := 9) hx hb dX6_isUnder_2 (by decide) (fun c3 => ?_) (fun c3 => ?_)
  · replace h := if_some_t c3 h
    refine lv_iconst (v := (1 : Int32)) hx hb dX6_isUnder_9 (by decide) ?_
    exact r_iret hx hb hr rfl hlocks hZ hK hw h dX6_isUnder_10
  · replace h := if_some_f c3 h
    refine lv_iload_n hx hb dX6_isUnder_5 rfl (lv_at hl 1 rfl) ?_
    refine lv_if_ne (tgt := 11) hx hb dX6_isUnder_6 (by decide) (fun c4 => ?_) (fun c4 => ?_)
    · replace h := if_some_f c4 h
      refine lv_iload_n hx hb dX6_isUnder_11 rfl (lv_at hl 1 rfl) ?_
      refine lv_iconst (v := (2 : Int32)) hx hb dX6_isUnder_12 (by decide) ?_
      refine lv_icmp_ne (tgt := 26) hx hb dX6_isUnder_13 (by decide) (fun c5 => ?_) (fun c5 => ?_)
      · replace h := if_some_f c5 h
        exact hb26 _ _ _ h _ _ _ hw (lv_sub hl [0, 1] rfl)
      · replace h := if_some_t c5 h
        refine lv_iload_n hx hb dX6_isUnder_16 rfl (lv_at hl 0 rfl) ?_
        refine lv_iconst (v := (3 : Int32)) hx hb dX6_isUnder_17 (by decide) ?_
        refine lv_icmp_eq (tgt := 36) hx hb dX6_isUnder_18 (by decide) (fun c6 => ?_) (fun c6 => ?_)
        · replace h := if_some_t c6 h
          exact hb36 _ h _ _ _ hw (lv_sub hl [] rfl)
        · replace h := if_some_f c6 h
          refine lv_iload_n hx hb dX6_isUnder_21 rfl (lv_at hl 0 rfl) ?_
          refine lv_iconst (v := (4 : Int32)) hx hb dX6_isUnder_22 (by decide) ?_
          refine lv_icmp_eq (tgt := 36) hx hb dX6_isUnder_23 (by decide) (fun c7 => ?_) (fun c7 => ?_)
          · replace h := if_some_t c7 h
            exact hb36 _ h _ _ _ hw (lv_sub hl [] rfl)
          · replace h := if_some_f c7 h
            exact hb26 _ _ _ h _ _ _ hw (lv_sub hl [0, 1] rfl)
    · replace h := if_some_t c4 h
      refine lv_iconst (v := (1 : Int32)) hx hb dX6_isUnder_9 (by decide) ?_
      exact r_iret hx hb hr rfl hlocks hZ hK hw h dX6_isUnder_10
theorem dX6_as_0 : decode cX6_as 0 = .ok (.iload_n 1, 1) := by decide +kernel
theorem dX6_as_1 : decode cX6_as 1 = .ok (.invokestatic 251, 3) := by decide +kernel
theorem dX6_as_4 : decode cX6_as 4 = .ok (.ifCond .eq 10, 3) := by decide +kernel
theorem dX6_as_7 : decode cX6_as 7 = .ok (.iload_n 2, 1) := by decide +kernel
theorem dX6_as_8 : decode cX6_as 8 = .ok (.invokestatic 52, 3) := by decide +kernel
theorem dX6_as_11 : decode cX6_as 11 = .ok (.ifCond .ne 9, 3) := by decide +kernel
theorem dX6_as_14 : decode cX6_as 14 = .ok (.aload_n 0, 1) := by decide +kernel
theorem dX6_as_15 : decode cX6_as 15 = .ok (.iconst 0, 1) := by decide +kernel
theorem dX6_as_16 : decode cX6_as 16 = .ok (.invokevirtual 59, 3) := by decide +kernel
theorem dX6_as_19 : decode cX6_as 19 = .ok (.ireturn, 1) := by decide +kernel
theorem dX6_as_20 : decode cX6_as 20 = .ok (.aload_n 0, 1) := by decide +kernel
theorem dX6_as_21 : decode cX6_as 21 = .ok (.getfield 10, 3) := by decide +kernel
theorem dX6_as_24 : decode cX6_as 24 = .ok (.getfield 254, 3) := by decide +kernel
theorem dX6_as_27 : decode cX6_as 27 = .ok (.iload_n 1, 1) := by decide +kernel
theorem dX6_as_28 : decode cX6_as 28 = .ok (.iaload, 1) := by decide +kernel
theorem dX6_as_29 : decode cX6_as 29 = .ok (.istore_n 3, 1) := by decide +kernel
theorem dX6_as_30 : decode cX6_as 30 = .ok (.aload_n 0, 1) := by decide +kernel
theorem dX6_as_31 : decode cX6_as 31 = .ok (.getfield 10, 3) := by decide +kernel
theorem dX6_as_34 : decode cX6_as 34 = .ok (.iload_n 3, 1) := by decide +kernel
theorem dX6_as_35 : decode cX6_as 35 = .ok (.invokevirtual 71, 3) := by decide +kernel
theorem dX6_as_38 : decode cX6_as 38 = .ok (.ifCond .ne 9, 3) := by decide +kernel
theorem dX6_as_41 : decode cX6_as 41 = .ok (.aload_n 0, 1) := by decide +kernel
theorem dX6_as_42 : decode cX6_as 42 = .ok (.iconst 5, 1) := by decide +kernel
theorem dX6_as_43 : decode cX6_as 43 = .ok (.invokevirtual 59, 3) := by decide +kernel
theorem dX6_as_46 : decode cX6_as 46 = .ok (.ireturn, 1) := by decide +kernel
theorem dX6_as_47 : decode cX6_as 47 = .ok (.aload_n 0, 1) := by decide +kernel
theorem dX6_as_48 : decode cX6_as 48 = .ok (.getfield 10, 3) := by decide +kernel
theorem dX6_as_51 : decode cX6_as 51 = .ok (.getfield 74, 3) := by decide +kernel
theorem dX6_as_54 : decode cX6_as 54 = .ok (.iload_n 3, 1) := by decide +kernel
theorem dX6_as_55 : decode cX6_as 55 = .ok (.aaload, 1) := by decide +kernel
theorem dX6_as_56 : decode cX6_as 56 = .ok (.getfield 78, 3) := by decide +kernel
theorem dX6_as_59 : decode cX6_as 59 = .ok (.iload_n 2, 1) := by decide +kernel
theorem dX6_as_60 : decode cX6_as 60 = .ok (.invokestatic 257, 3) := by decide +kernel
theorem dX6_as_63 : decode cX6_as 63 = .ok (.ifCond .ne 9, 3) := by decide +kernel
theorem dX6_as_66 : decode cX6_as 66 = .ok (.aload_n 0, 1) := by decide +kernel
theorem dX6_as_67 : decode cX6_as 67 = .ok (.iconst 2, 1) := by decide +kernel
theorem dX6_as_68 : decode cX6_as 68 = .ok (.invokevirtual 59, 3) := by decide +kernel
theorem dX6_as_71 : decode cX6_as 71 = .ok (.ireturn, 1) := by decide +kernel
theorem dX6_as_72 : decode cX6_as 72 = .ok (.iload_n 3, 1) := by decide +kernel
theorem dX6_as_73 : decode cX6_as 73 = .ok (.ireturn, 1) := by decide +kernel
set_option maxHeartbeats 4000000 in
set_option maxRecDepth 100000 in
theorem c_X6_as (l : Launch) (D : va_G) (cy : Nat → ClassId) (ad adK adV : Nat → Nat) (M : Mm) (o0 : Nat) (a1 : Int32) (a2 : Int32) (res : Mm × Int32) (h : f_X6_as M o0 a1 a2 = some res) : Met l yX6_as (wU yX6_as cX6_as 4 (some .int)) rmX6_as (va_Pc [.ref (ad o0), .int a1, .int a2] (Pre D cy shX ad nX adK adV M)) (va_Qi (fun r (M2 : Mm) => r = res.2 ∧ M2 = res.1) (Pre D cy shX ad nX adK adV) (Aw ad nX)) 0 0 (Aw ad nX) := by
  refine Met.ofW (cc := cX6_as) (maxL := 4) (ret := (some .int)) (by decide) rfl ?_
  intro p e s m args below meth c s₁ B hml hv
  obtain ⟨hargs, hPre⟩ := hv
  have hx := B.exec
  have hb := B.bytes
  have hr := B.returns
  have hts := atoms_spec (ws := wU yX6_as cX6_as 4 (some .int)) B.pre
  have hq : ∀ w ∈ gW, w.before args s = true := fun w hw => hts w (List.mem_cons_of_mem _ hw)
  have hcm : ∀ w ∈ gW, w ∈ wU yX6_as cX6_as 4 (some .int) := fun w hw => List.mem_cons_of_mem _ hw
  have hown : s.vm.findClass RX6 = some m.cls := findClass_of_methodNamed B.named
  have hlocks := B.notSynchronized
  have hF : CallFix p m c cX6_as 4 s args (wU yX6_as cX6_as 4 (some .int)) RX6 := ⟨hx, hb, hml, hown, hts⟩
  have hK := hPre.2.1
  have hZ := hPre.2.2.2
  have hw : Wd D cy shX ad nX (Aw ad nX) s.heap M s.heap [] := ⟨hPre.1, hPre.2.2.1, va_S.rf⟩
  have iw1 : ∀ w ∈ u_ws RX1 TX1 11, w ∈ wU yX6_as cX6_as 4 (some .int) := fun w hw => List.mem_cons_of_mem _ (iX1 w hw)
  have iw3 : ∀ w ∈ u_ws RX3 TX3 6, w ∈ wU yX6_as cX6_as 4 (some .int) := fun w hw => List.mem_cons_of_mem _ (iX3 w hw)
  have iw6 : ∀ w ∈ u_ws RX6 TX6 8, w ∈ wU yX6_as cX6_as 4 (some .int) := fun w hw => List.mem_cons_of_mem _ (iX6 w hw)
  rw [show entryFrame m args 4 = entryFrame m ([.ref (ad o0), .int a1, .int a2] : List Value).toArray 4 from by rw [hargs]]
  have hl := lv_entry ([.ref (ad o0), .int a1, .int a2]) (n := 4) (Nat.le_of_ble_eq_true rfl)
  rw [lg_entry_eq]
  generalize (lg_sl ([.ref (ad o0), .int a1, .int a2]) ++ List.replicate (4 - (lg_sl ([.ref (ad o0), .int a1, .int a2])).length) Slot.unset).toArray = ls at hl ⊢
  have hl : lv_has ls 4 [(0, .ref (ad o0)), (1, .int a1), (2, .int a2)] := hl
  have hb14 : ∀ (M : Mm) (x0 : Nat), f_X6_as_b14 M x0 = some res → ∀ (H : Heap) (locs : List Loc) (ls : Array Slot), Wd D cy shX ad nX (Aw ad nX) s.heap M H locs → lv_has ls 4 [(0, .ref (ad x0))] → W p l e (headSpec (wU yX6_as cX6_as 4 (some .int)) rmX6_as).room s m args below meth c H locs 0 0 (QI D cy shX ad nX adK adV below args s res) (F0 m 14 ls []) := by
    intro M x0 h H locs ls hw hl
    unfold f_X6_as_b14 at h
    refine lv_aload_n hx hb dX6_as_14 rfl (lv_at hl 0 rfl) ?_
    refine lv_iconst (v := (0 : Int32)) hx hb dX6_as_15 (by decide) ?_
    replace h := gd_some h
    obtain ⟨g2, h⟩ := h
    replace h := bd_some h
    obtain ⟨r1, er1, h⟩ := h
    refine r_callVi (As := [.int (0 : Int32)]) (rest := []) hF (c_X6_finding l D cy ad adK adV M x0 (0 : Int32) r1 er1) (gW_goodV hcm qw373 qw370 qw372 qw0 qw60) hdX6_finding rfl ⟨Nat.le_of_ble_eq_true rfl, Nat.le_of_ble_eq_true rfl⟩ rfl rfl hZ hK hw g2 (by decide) rfl rfl hl.1 rfl (Nat.le_of_ble_eq_true rfl) ⟨Nat.zero_le _, Nat.zero_le _⟩ dX6_as_16 (fun H locs hw => ?_)
    exact r_iret hx hb hr rfl hlocks hZ hK hw h dX6_as_19
  unfold f_X6_as at h
  refine lv_iload_n hx hb dX6_as_0 rfl (lv_at hl 1 rfl) ?_
  replace h := bd_some h
  obtain ⟨r3, er3, h⟩ := h
  refine r_callSi (As := [.int a1]) (rest := []) hF (c_X6_isSpot l D cy ad adK adV M a1 r3 er3) (gW_goodS hcm qw805 qw803 qw804 qw60) hdX6_isSpot ⟨Nat.le_of_ble_eq_true rfl, Nat.le_of_ble_eq_true rfl⟩ rfl rfl hZ hK hw rfl hl.1 rfl (Nat.le_of_ble_eq_true rfl) ⟨Nat.zero_le _, Nat.zero_le _⟩ dX6_as_1 (fun H locs hw => ?_)
  refine lv_if_eq (tgt := 14) hx hb dX6_as_4 (by decide) (fun c4 => ?_) (fun c4 => ?_)
  · replace h := if_some_t c4 h
    exact hb14 _ _ h _ _ _ hw (lv_sub hl [0] rfl)
  · replace h := if_some_f c4 h
    refine lv_iload_n hx hb dX6_as_7 rfl (lv_at hl 2 rfl) ?_
    replace h := bd_some h
    obtain ⟨r5, er5, h⟩ := h
    refine r_callSi (As := [.int a2]) (rest := []) hF (c_X6_isKind l D cy ad adK adV r3.1 a2 r5 er5) (gW_goodS hcm qw366 qw364 qw365 qw60) hdX6_isKind ⟨Nat.le_of_ble_eq_true rfl, Nat.le_of_ble_eq_true rfl⟩ rfl rfl hZ hK hw rfl hl.1 rfl (Nat.le_of_ble_eq_true rfl) ⟨Nat.zero_le _, Nat.zero_le _⟩ dX6_as_8 (fun H locs hw => ?_)
    refine lv_if_ne (tgt := 20) hx hb dX6_as_11 (by decide) (fun c6 => ?_) (fun c6 => ?_)
    · replace h := if_some_f c6 h
      refine lv_aload_n hx hb dX6_as_20 rfl (lv_at hl 0 rfl) ?_
      replace h := gd_some h
      obtain ⟨g7, h⟩ := h
      replace h := bd_some h
      obtain ⟨q8, eq8, h⟩ := h
      refine r_getR hx hb hts iw6 hown hK hw o0 0 g7 (by decide) rfl (by decide) rfl (hq _ qw335) (fun _ h9 => h9) dX6_as_21 eq8 ?_
      replace h := gd_some h
      obtain ⟨g9, h⟩ := h
      replace h := bd_some h
      obtain ⟨q10, eq10, h⟩ := h
      refine r_getR hx hb hts iw1 hown hK hw q8 2 g9 (by decide) rfl (by decide) rfl (hq _ qw188) (fun _ h9 => h9) dX6_as_24 eq10 ?_
      refine lv_iload_n hx hb dX6_as_27 rfl (lv_at hl 1 rfl) ?_
      replace h := gd_some h
      obtain ⟨g11, h⟩ := h
      refine r_iald hx hb hK hw q10 g11 dX6_as_28 ?_
      refine lv_istore_n (lv' := [(3, .int (r5.1.1 q10 a1.toNatClampNeg)), (0, .ref (ad o0)), (1, .int a1), (2, .int a2)]) hx hb dX6_as_29 rfl hl (by decide) rfl (fun ls hl => ?_)
      refine lv_aload_n hx hb dX6_as_30 rfl (lv_at hl 1 rfl) ?_
      replace h := bd_some h
      obtain ⟨q12, eq12, h⟩ := h
      refine r_getR hx hb hts iw6 hown hK hw o0 0 g7 (by decide) rfl (by decide) rfl (hq _ qw335) (fun _ h9 => h9) dX6_as_31 eq12 ?_
      refine lv_iload_n hx hb dX6_as_34 rfl (lv_at hl 0 rfl) ?_
      replace h := gd_some h
      obtain ⟨g14, h⟩ := h
      replace h := bd_some h
      obtain ⟨r13, er13, h⟩ := h
      refine r_callVi (As := [.int (r5.1.1 q10 a1.toNatClampNeg)]) (rest := []) hF (c_X1_hasSide l D cy ad adK adV r5.1 q12 (r5.1.1 q10 a1.toNatClampNeg) r13 er13) (gW_goodV hcm qw390 qw387 qw388 qw389 qw61) hdX1_hasSide rfl ⟨Nat.le_of_ble_eq_true rfl, Nat.le_of_ble_eq_true rfl⟩ rfl rfl hZ hK hw g14 (by decide) rfl rfl hl.1 rfl (Nat.le_of_ble_eq_true rfl) ⟨Nat.zero_le _, Nat.zero_le _⟩ dX6_as_35 (fun H locs hw => ?_)
      refine lv_if_ne (tgt := 47) hx hb dX6_as_38 (by decide) (fun c15 => ?_) (fun c15 => ?_)
      · replace h := if_some_f c15 h
        refine lv_aload_n hx hb dX6_as_47 rfl (lv_at hl 1 rfl) ?_
        replace h := bd_some h
        obtain ⟨q16, eq16, h⟩ := h
        refine r_getR hx hb hts iw6 hown hK hw o0 0 g7 (by decide) rfl (by decide) rfl (hq _ qw335) (fun _ h9 => h9) dX6_as_48 eq16 ?_
        replace h := gd_some h
        obtain ⟨g17, h⟩ := h
        replace h := bd_some h
        obtain ⟨q18, eq18, h⟩ := h
        refine r_getR hx hb hts iw1 hown hK hw q16 0 g17 (by decide) rfl (by decide) rfl (hq _ qw182) (fun _ h9 => h9) dX6_as_51 eq18 ?_
        refine lv_iload_n hx hb dX6_as_54 rfl (lv_at hl 0 rfl) ?_
        replace h := gd_some h
        obtain ⟨g19, h⟩ := h
        replace h := bd_some h
        obtain ⟨q20, eq20, h⟩ := h
        refine r_aald hx hb hK hw q18 2 (by decide) rfl g19 dX6_as_55 eq20 ?_
        replace h := gd_some h
        obtain ⟨g21, h⟩ := h
        refine r_getI hx hb hts iw3 hown hK hw q20 0 g21 (by decide) rfl (by decide) rfl (hq _ qw98) (fun _ h9 => h9) dX6_as_56 ?_
        refine lv_iload_n hx hb dX6_as_59 rfl (lv_at hl 3 rfl) ?_
        replace h := bd_some h
        obtain ⟨r22, er22, h⟩ := h
        refine r_callSi (As := [.int (r13.1.1 q20 0), .int a2]) (rest := []) hF (c_X6_isUnder l D cy ad adK adV r13.1 (r13.1.1 q20 0) a2 r22 er22) (gW_goodS hcm qw812 qw810 qw811 qw60) hdX6_isUnder ⟨Nat.le_of_ble_eq_true rfl, Nat.le_of_ble_eq_true rfl⟩ rfl rfl hZ hK hw rfl hl.1 rfl (Nat.le_of_ble_eq_true rfl) ⟨Nat.zero_le _, Nat.zero_le _⟩ dX6_as_60 (fun H locs hw => ?_)
        refine lv_if_ne (tgt := 72) hx hb dX6_as_63 (by decide) (fun c23 => ?_) (fun c23 => ?_)
        · replace h := if_some_f c23 h
          refine lv_iload_n hx hb dX6_as_72 rfl (lv_at hl 0 rfl) ?_
          exact r_iret hx hb hr rfl hlocks hZ hK hw h dX6_as_73
        · replace h := if_some_t c23 h
          refine lv_aload_n hx hb dX6_as_66 rfl (lv_at hl 1 rfl) ?_
          refine lv_iconst (v := (2 : Int32)) hx hb dX6_as_67 (by decide) ?_
          replace h := bd_some h
          obtain ⟨r24, er24, h⟩ := h
          refine r_callVi (As := [.int (2 : Int32)]) (rest := []) hF (c_X6_finding l D cy ad adK adV r22.1 o0 (2 : Int32) r24 er24) (gW_goodV hcm qw373 qw370 qw372 qw0 qw60) hdX6_finding rfl ⟨Nat.le_of_ble_eq_true rfl, Nat.le_of_ble_eq_true rfl⟩ rfl rfl hZ hK hw g7 (by decide) rfl rfl hl.1 rfl (Nat.le_of_ble_eq_true rfl) ⟨Nat.zero_le _, Nat.zero_le _⟩ dX6_as_68 (fun H locs hw => ?_)
          exact r_iret hx hb hr rfl hlocks hZ hK hw h dX6_as_71
      · replace h := if_some_t c15 h
        refine lv_aload_n hx hb dX6_as_41 rfl (lv_at hl 1 rfl) ?_
        refine lv_iconst (v := (5 : Int32)) hx hb dX6_as_42 (by decide) ?_
        replace h := bd_some h
        obtain ⟨r25, er25, h⟩ := h
        refine r_callVi (As := [.int (5 : Int32)]) (rest := []) hF (c_X6_finding l D cy ad adK adV r13.1 o0 (5 : Int32) r25 er25) (gW_goodV hcm qw373 qw370 qw372 qw0 qw60) hdX6_finding rfl ⟨Nat.le_of_ble_eq_true rfl, Nat.le_of_ble_eq_true rfl⟩ rfl rfl hZ hK hw g7 (by decide) rfl rfl hl.1 rfl (Nat.le_of_ble_eq_true rfl) ⟨Nat.zero_le _, Nat.zero_le _⟩ dX6_as_43 (fun H locs hw => ?_)
        exact r_iret hx hb hr rfl hlocks hZ hK hw h dX6_as_46
    · replace h := if_some_t c6 h
      exact hb14 _ _ h _ _ _ hw (lv_sub hl [0] rfl)
theorem dX6_isSheet_0 : decode cX6_isSheet 0 = .ok (.iload_n 0, 1) := by decide +kernel
theorem dX6_isSheet_1 : decode cX6_isSheet 1 = .ok (.ifCond .lt 12, 3) := by decide +kernel
theorem dX6_isSheet_4 : decode cX6_isSheet 4 = .ok (.iload_n 0, 1) := by decide +kernel
theorem dX6_isSheet_5 : decode cX6_isSheet 5 = .ok (.iconst 4, 1) := by decide +kernel
theorem dX6_isSheet_6 : decode cX6_isSheet 6 = .ok (.if_icmp .ge 7, 3) := by decide +kernel
theorem dX6_isSheet_9 : decode cX6_isSheet 9 = .ok (.iconst 1, 1) := by decide +kernel
theorem dX6_isSheet_10 : decode cX6_isSheet 10 = .ok (.goto 4, 3) := by decide +kernel
theorem dX6_isSheet_13 : decode cX6_isSheet 13 = .ok (.iconst 0, 1) := by decide +kernel
theorem dX6_isSheet_14 : decode cX6_isSheet 14 = .ok (.ireturn, 1) := by decide +kernel
set_option maxHeartbeats 4000000 in
set_option maxRecDepth 100000 in
theorem c_X6_isSheet (l : Launch) (D : va_G) (cy : Nat → ClassId) (ad adK adV : Nat → Nat) (M : Mm) (a0 : Int32) (res : Mm × Int32) (h : f_X6_isSheet M a0 = some res) : Met l yX6_isSheet (wU yX6_isSheet cX6_isSheet 1 (some .boolean)) rmX6_isSheet (va_Pc [.int a0] (Pre D cy shX ad nX adK adV M)) (va_Qi (fun r (M2 : Mm) => r = res.2 ∧ M2 = res.1) (Pre D cy shX ad nX adK adV) (Aw ad nX)) 0 0 (Aw ad nX) := by
  refine Met.ofW (cc := cX6_isSheet) (maxL := 1) (ret := (some .boolean)) (by decide) rfl ?_
  intro p e s m args below meth c s₁ B hml hv
  obtain ⟨hargs, hPre⟩ := hv
  have hx := B.exec
  have hb := B.bytes
  have hr := B.returns
  have hts := atoms_spec (ws := wU yX6_isSheet cX6_isSheet 1 (some .boolean)) B.pre
  have hq : ∀ w ∈ gW, w.before args s = true := fun w hw => hts w (List.mem_cons_of_mem _ hw)
  have hcm : ∀ w ∈ gW, w ∈ wU yX6_isSheet cX6_isSheet 1 (some .boolean) := fun w hw => List.mem_cons_of_mem _ hw
  have hown : s.vm.findClass RX6 = some m.cls := findClass_of_methodNamed B.named
  have hlocks := B.notSynchronized
  have hF : CallFix p m c cX6_isSheet 1 s args (wU yX6_isSheet cX6_isSheet 1 (some .boolean)) RX6 := ⟨hx, hb, hml, hown, hts⟩
  have hK := hPre.2.1
  have hZ := hPre.2.2.2
  have hw : Wd D cy shX ad nX (Aw ad nX) s.heap M s.heap [] := ⟨hPre.1, hPre.2.2.1, va_S.rf⟩
  rw [show entryFrame m args 1 = entryFrame m ([.int a0] : List Value).toArray 1 from by rw [hargs]]
  have hl := lv_entry ([.int a0]) (n := 1) (Nat.le_of_ble_eq_true rfl)
  rw [lg_entry_eq]
  generalize (lg_sl ([.int a0]) ++ List.replicate (1 - (lg_sl ([.int a0])).length) Slot.unset).toArray = ls at hl ⊢
  have hl : lv_has ls 1 [(0, .int a0)] := hl
  unfold f_X6_isSheet at h
  refine lv_iload_n hx hb dX6_isSheet_0 rfl (lv_at hl 0 rfl) ?_
  refine lv_if_lt (tgt := 13) hx hb dX6_isSheet_1 (by decide) (fun c1 => ?_) (fun c1 => ?_)
  · replace h := if_some_t c1 h
    refine lv_iconst (v := (0 : Int32)) hx hb dX6_isSheet_13 (by decide) ?_
    exact r_iret hx hb hr rfl hlocks hZ hK hw h dX6_isSheet_14
  · replace h := if_some_f c1 h
    refine lv_iload_n hx hb dX6_isSheet_4 rfl (lv_at hl 0 rfl) ?_
    refine lv_iconst (v := (4 : Int32)) hx hb dX6_isSheet_5 (by decide) ?_
    refine lv_icmp_ge (tgt := 13) hx hb dX6_isSheet_6 (by decide) (fun c2 => ?_) (fun c2 => ?_)
    · replace h := if_some_t c2 h
      refine lv_iconst (v := (0 : Int32)) hx hb dX6_isSheet_13 (by decide) ?_
      exact r_iret hx hb hr rfl hlocks hZ hK hw h dX6_isSheet_14
    · replace h := if_some_f c2 h
      refine lv_iconst (v := (1 : Int32)) hx hb dX6_isSheet_9 (by decide) ?_
      refine lv_goto (tgt := 14) hx hb dX6_isSheet_10 (by decide) ?_
      exact r_iret hx hb hr rfl hlocks hZ hK hw h dX6_isSheet_14
theorem dX6_sheet_0 : decode cX6_sheet 0 = .ok (.iload_n 1, 1) := by decide +kernel
theorem dX6_sheet_1 : decode cX6_sheet 1 = .ok (.invokestatic 260, 3) := by decide +kernel
theorem dX6_sheet_4 : decode cX6_sheet 4 = .ok (.ifCond .eq 25, 3) := by decide +kernel
theorem dX6_sheet_7 : decode cX6_sheet 7 = .ok (.iload_n 2, 1) := by decide +kernel
theorem dX6_sheet_8 : decode cX6_sheet 8 = .ok (.ifCond .eq 27, 3) := by decide +kernel
theorem dX6_sheet_11 : decode cX6_sheet 11 = .ok (.iload_n 2, 1) := by decide +kernel
theorem dX6_sheet_12 : decode cX6_sheet 12 = .ok (.bipush 8, 2) := by decide +kernel
theorem dX6_sheet_14 : decode cX6_sheet 14 = .ok (.if_icmp .eq 21, 3) := by decide +kernel
theorem dX6_sheet_17 : decode cX6_sheet 17 = .ok (.iload_n 2, 1) := by decide +kernel
theorem dX6_sheet_18 : decode cX6_sheet 18 = .ok (.bipush 16, 2) := by decide +kernel
theorem dX6_sheet_20 : decode cX6_sheet 20 = .ok (.if_icmp .eq 15, 3) := by decide +kernel
theorem dX6_sheet_23 : decode cX6_sheet 23 = .ok (.iload_n 2, 1) := by decide +kernel
theorem dX6_sheet_24 : decode cX6_sheet 24 = .ok (.bipush 32, 2) := by decide +kernel
theorem dX6_sheet_26 : decode cX6_sheet 26 = .ok (.if_icmp .eq 9, 3) := by decide +kernel
theorem dX6_sheet_29 : decode cX6_sheet 29 = .ok (.aload_n 0, 1) := by decide +kernel
theorem dX6_sheet_30 : decode cX6_sheet 30 = .ok (.iconst 0, 1) := by decide +kernel
theorem dX6_sheet_31 : decode cX6_sheet 31 = .ok (.invokevirtual 59, 3) := by decide +kernel
theorem dX6_sheet_34 : decode cX6_sheet 34 = .ok (.ireturn, 1) := by decide +kernel
theorem dX6_sheet_35 : decode cX6_sheet 35 = .ok (.iload_n 3, 1) := by decide +kernel
theorem dX6_sheet_36 : decode cX6_sheet 36 = .ok (.ifCond .ge 10, 3) := by decide +kernel
theorem dX6_sheet_39 : decode cX6_sheet 39 = .ok (.aload_n 0, 1) := by decide +kernel
theorem dX6_sheet_40 : decode cX6_sheet 40 = .ok (.bipush 6, 2) := by decide +kernel
theorem dX6_sheet_42 : decode cX6_sheet 42 = .ok (.invokevirtual 59, 3) := by decide +kernel
theorem dX6_sheet_45 : decode cX6_sheet 45 = .ok (.ireturn, 1) := by decide +kernel
theorem dX6_sheet_46 : decode cX6_sheet 46 = .ok (.iload_n 3, 1) := by decide +kernel
theorem dX6_sheet_47 : decode cX6_sheet 47 = .ok (.bipush 40, 2) := by decide +kernel
theorem dX6_sheet_49 : decode cX6_sheet 49 = .ok (.if_icmp .le 9, 3) := by decide +kernel
theorem dX6_sheet_52 : decode cX6_sheet 52 = .ok (.aload_n 0, 1) := by decide +kernel
theorem dX6_sheet_53 : decode cX6_sheet 53 = .ok (.iconst 0, 1) := by decide +kernel
theorem dX6_sheet_54 : decode cX6_sheet 54 = .ok (.invokevirtual 59, 3) := by decide +kernel
theorem dX6_sheet_57 : decode cX6_sheet 57 = .ok (.ireturn, 1) := by decide +kernel
theorem dX6_sheet_58 : decode cX6_sheet 58 = .ok (.aload_n 0, 1) := by decide +kernel
theorem dX6_sheet_59 : decode cX6_sheet 59 = .ok (.getfield 43, 3) := by decide +kernel
theorem dX6_sheet_62 : decode cX6_sheet 62 = .ok (.iload_n 1, 1) := by decide +kernel
theorem dX6_sheet_63 : decode cX6_sheet 63 = .ok (.aaload, 1) := by decide +kernel
theorem dX6_sheet_64 : decode cX6_sheet 64 = .ok (.iload_n 2, 1) := by decide +kernel
theorem dX6_sheet_65 : decode cX6_sheet 65 = .ok (.iload_n 2, 1) := by decide +kernel
theorem dX6_sheet_66 : decode cX6_sheet 66 = .ok (.ifCond .ne 7, 3) := by decide +kernel
theorem dX6_sheet_69 : decode cX6_sheet 69 = .ok (.iconst 0, 1) := by decide +kernel
theorem dX6_sheet_70 : decode cX6_sheet 70 = .ok (.goto 4, 3) := by decide +kernel
theorem dX6_sheet_73 : decode cX6_sheet 73 = .ok (.iload_n 3, 1) := by decide +kernel
theorem dX6_sheet_74 : decode cX6_sheet 74 = .ok (.invokevirtual 263, 3) := by decide +kernel
theorem dX6_sheet_77 : decode cX6_sheet 77 = .ok (.aload_n 0, 1) := by decide +kernel
theorem dX6_sheet_78 : decode cX6_sheet 78 = .ok (.getfield 43, 3) := by decide +kernel
theorem dX6_sheet_81 : decode cX6_sheet 81 = .ok (.iload_n 1, 1) := by decide +kernel
theorem dX6_sheet_82 : decode cX6_sheet 82 = .ok (.aaload, 1) := by decide +kernel
theorem dX6_sheet_83 : decode cX6_sheet 83 = .ok (.getfield 266, 3) := by decide +kernel
theorem dX6_sheet_86 : decode cX6_sheet 86 = .ok (.ireturn, 1) := by decide +kernel
set_option maxHeartbeats 4000000 in
set_option maxRecDepth 100000 in
theorem c_X6_sheet (l : Launch) (D : va_G) (cy : Nat → ClassId) (ad adK adV : Nat → Nat) (M : Mm) (o0 : Nat) (a1 : Int32) (a2 : Int32) (a3 : Int32) (res : Mm × Int32) (h : f_X6_sheet M o0 a1 a2 a3 = some res) : Met l yX6_sheet (wU yX6_sheet cX6_sheet 4 (some .int)) rmX6_sheet (va_Pc [.ref (ad o0), .int a1, .int a2, .int a3] (Pre D cy shX ad nX adK adV M)) (va_Qi (fun r (M2 : Mm) => r = res.2 ∧ M2 = res.1) (Pre D cy shX ad nX adK adV) (Aw ad nX)) 0 0 (Aw ad nX) := by
  refine Met.ofW (cc := cX6_sheet) (maxL := 4) (ret := (some .int)) (by decide) rfl ?_
  intro p e s m args below meth c s₁ B hml hv
  obtain ⟨hargs, hPre⟩ := hv
  have hx := B.exec
  have hb := B.bytes
  have hr := B.returns
  have hts := atoms_spec (ws := wU yX6_sheet cX6_sheet 4 (some .int)) B.pre
  have hq : ∀ w ∈ gW, w.before args s = true := fun w hw => hts w (List.mem_cons_of_mem _ hw)
  have hcm : ∀ w ∈ gW, w ∈ wU yX6_sheet cX6_sheet 4 (some .int) := fun w hw => List.mem_cons_of_mem _ hw
  have hown : s.vm.findClass RX6 = some m.cls := findClass_of_methodNamed B.named
  have hlocks := B.notSynchronized
  have hF : CallFix p m c cX6_sheet 4 s args (wU yX6_sheet cX6_sheet 4 (some .int)) RX6 := ⟨hx, hb, hml, hown, hts⟩
  have hK := hPre.2.1
  have hZ := hPre.2.2.2
  have hw : Wd D cy shX ad nX (Aw ad nX) s.heap M s.heap [] := ⟨hPre.1, hPre.2.2.1, va_S.rf⟩
  have iw2 : ∀ w ∈ u_ws RX2 TX2 3, w ∈ wU yX6_sheet cX6_sheet 4 (some .int) := fun w hw => List.mem_cons_of_mem _ (iX2 w hw)
  have iw6 : ∀ w ∈ u_ws RX6 TX6 8, w ∈ wU yX6_sheet cX6_sheet 4 (some .int) := fun w hw => List.mem_cons_of_mem _ (iX6 w hw)
  rw [show entryFrame m args 4 = entryFrame m ([.ref (ad o0), .int a1, .int a2, .int a3] : List Value).toArray 4 from by rw [hargs]]
  have hl := lv_entry ([.ref (ad o0), .int a1, .int a2, .int a3]) (n := 4) (Nat.le_of_ble_eq_true rfl)
  rw [lg_entry_eq]
  generalize (lg_sl ([.ref (ad o0), .int a1, .int a2, .int a3]) ++ List.replicate (4 - (lg_sl ([.ref (ad o0), .int a1, .int a2, .int a3])).length) Slot.unset).toArray = ls at hl ⊢
  have hl : lv_has ls 4 [(0, .ref (ad o0)), (1, .int a1), (2, .int a2), (3, .int a3)] := hl
  have hb74 : ∀ (M : Mm) (x0 : Nat) (x1 : Int32) (t0 : Nat) (t1 : Int32) (t2 : Int32), f_X6_sheet_b74 M x0 x1 t0 t1 t2 = some res → ∀ (H : Heap) (locs : List Loc) (ls : Array Slot), Wd D cy shX ad nX (Aw ad nX) s.heap M H locs → lv_has ls 4 [(0, .ref (ad x0)), (1, .int x1)] → W p l e (headSpec (wU yX6_sheet cX6_sheet 4 (some .int)) rmX6_sheet).room s m args below meth c H locs 0 0 (QI D cy shX ad nX adK adV below args s res) (F0 m 74 ls [.int t2, .int t1, .ref (ad t0)]) := by
    intro M x0 x1 t0 t1 t2 h H locs ls hw hl
    unfold f_X6_sheet_b74 at h
    replace h := gd_some h
    obtain ⟨g2, h⟩ := h
    replace h := bd_some h
    obtain ⟨r1, er1, h⟩ := h
    refine r_callVv (As := [.int t1, .int t2]) (rest := []) hF (c_X2_renew l D cy ad adK adV M t0 t1 t2 r1 er1) (gW_goodV hcm qw823 qw820 qw821 qw822 qw66) hdX2_renew rfl ⟨Nat.le_of_ble_eq_true rfl, Nat.le_of_ble_eq_true rfl⟩ rfl rfl hZ hK hw g2 (by decide) rfl rfl hl.1 rfl (Nat.le_of_ble_eq_true rfl) ⟨Nat.zero_le _, Nat.zero_le _⟩ dX6_sheet_74 (fun H locs hw => ?_)
    refine lv_aload_n hx hb dX6_sheet_77 rfl (lv_at hl 0 rfl) ?_
    replace h := gd_some h
    obtain ⟨g3, h⟩ := h
    replace h := bd_some h
    obtain ⟨q4, eq4, h⟩ := h
    refine r_getR hx hb hts iw6 hown hK hw x0 6 g3 (by decide) rfl (by decide) rfl (hq _ qw341) (fun _ h9 => h9) dX6_sheet_78 eq4 ?_
    refine lv_iload_n hx hb dX6_sheet_81 rfl (lv_at hl 1 rfl) ?_
    replace h := gd_some h
    obtain ⟨g5, h⟩ := h
    replace h := bd_some h
    obtain ⟨q6, eq6, h⟩ := h
    refine r_aald hx hb hK hw q4 4 (by decide) rfl g5 dX6_sheet_82 eq6 ?_
    replace h := gd_some h
    obtain ⟨g7, h⟩ := h
    refine r_getI hx hb hts iw2 hown hK hw q6 2 g7 (by decide) rfl (by decide) rfl (hq _ qw327) (fun _ h9 => h9) dX6_sheet_83 ?_
    exact r_iret hx hb hr rfl hlocks hZ hK hw h dX6_sheet_86
  have hb35 : ∀ (M : Mm) (x0 : Nat) (x1 : Int32) (x2 : Int32) (x3 : Int32), f_X6_sheet_b35 M x0 x1 x2 x3 = some res → ∀ (H : Heap) (locs : List Loc) (ls : Array Slot), Wd D cy shX ad nX (Aw ad nX) s.heap M H locs → lv_has ls 4 [(0, .ref (ad x0)), (1, .int x1), (2, .int x2), (3, .int x3)] → W p l e (headSpec (wU yX6_sheet cX6_sheet 4 (some .int)) rmX6_sheet).room s m args below meth c H locs 0 0 (QI D cy shX ad nX adK adV below args s res) (F0 m 35 ls []) := by
    intro M x0 x1 x2 x3 h H locs ls hw hl
    unfold f_X6_sheet_b35 at h
    refine lv_iload_n hx hb dX6_sheet_35 rfl (lv_at hl 3 rfl) ?_
    refine lv_if_ge (tgt := 46) hx hb dX6_sheet_36 (by decide) (fun c8 => ?_) (fun c8 => ?_)
    · replace h := if_some_t c8 h
      refine lv_iload_n hx hb dX6_sheet_46 rfl (lv_at hl 3 rfl) ?_
      refine lv_bipush (v := (40 : Int32)) hx hb dX6_sheet_47 (by decide) ?_
      refine lv_icmp_le (tgt := 58) hx hb dX6_sheet_49 (by decide) (fun c9 => ?_) (fun c9 => ?_)
      · replace h := if_some_t c9 h
        refine lv_aload_n hx hb dX6_sheet_58 rfl (lv_at hl 0 rfl) ?_
        replace h := gd_some h
        obtain ⟨g10, h⟩ := h
        replace h := bd_some h
        obtain ⟨q11, eq11, h⟩ := h
        refine r_getR hx hb hts iw6 hown hK hw x0 6 g10 (by decide) rfl (by decide) rfl (hq _ qw341) (fun _ h9 => h9) dX6_sheet_59 eq11 ?_
        refine lv_iload_n hx hb dX6_sheet_62 rfl (lv_at hl 1 rfl) ?_
        replace h := gd_some h
        obtain ⟨g12, h⟩ := h
        replace h := bd_some h
        obtain ⟨q13, eq13, h⟩ := h
        refine r_aald hx hb hK hw q11 4 (by decide) rfl g12 dX6_sheet_63 eq13 ?_
        refine lv_iload_n hx hb dX6_sheet_64 rfl (lv_at hl 2 rfl) ?_
        refine lv_iload_n hx hb dX6_sheet_65 rfl (lv_at hl 2 rfl) ?_
        refine lv_if_ne (tgt := 73) hx hb dX6_sheet_66 (by decide) (fun c14 => ?_) (fun c14 => ?_)
        · replace h := if_some_f c14 h
          refine lv_iload_n hx hb dX6_sheet_73 rfl (lv_at hl 3 rfl) ?_
          exact hb74 _ _ _ _ _ _ h _ _ _ hw (lv_sub hl [0, 1] rfl)
        · replace h := if_some_t c14 h
          refine lv_iconst (v := (0 : Int32)) hx hb dX6_sheet_69 (by decide) ?_
          refine lv_goto (tgt := 74) hx hb dX6_sheet_70 (by decide) ?_
          exact hb74 _ _ _ _ _ _ h _ _ _ hw (lv_sub hl [0, 1] rfl)
      · replace h := if_some_f c9 h
        refine lv_aload_n hx hb dX6_sheet_52 rfl (lv_at hl 0 rfl) ?_
        refine lv_iconst (v := (0 : Int32)) hx hb dX6_sheet_53 (by decide) ?_
        replace h := gd_some h
        obtain ⟨g16, h⟩ := h
        replace h := bd_some h
        obtain ⟨r15, er15, h⟩ := h
        refine r_callVi (As := [.int (0 : Int32)]) (rest := []) hF (c_X6_finding l D cy ad adK adV M x0 (0 : Int32) r15 er15) (gW_goodV hcm qw373 qw370 qw372 qw0 qw60) hdX6_finding rfl ⟨Nat.le_of_ble_eq_true rfl, Nat.le_of_ble_eq_true rfl⟩ rfl rfl hZ hK hw g16 (by decide) rfl rfl hl.1 rfl (Nat.le_of_ble_eq_true rfl) ⟨Nat.zero_le _, Nat.zero_le _⟩ dX6_sheet_54 (fun H locs hw => ?_)
        exact r_iret hx hb hr rfl hlocks hZ hK hw h dX6_sheet_57
    · replace h := if_some_f c8 h
      refine lv_aload_n hx hb dX6_sheet_39 rfl (lv_at hl 0 rfl) ?_
      refine lv_bipush (v := (6 : Int32)) hx hb dX6_sheet_40 (by decide) ?_
      replace h := gd_some h
      obtain ⟨g18, h⟩ := h
      replace h := bd_some h
      obtain ⟨r17, er17, h⟩ := h
      refine r_callVi (As := [.int (6 : Int32)]) (rest := []) hF (c_X6_finding l D cy ad adK adV M x0 (6 : Int32) r17 er17) (gW_goodV hcm qw373 qw370 qw372 qw0 qw60) hdX6_finding rfl ⟨Nat.le_of_ble_eq_true rfl, Nat.le_of_ble_eq_true rfl⟩ rfl rfl hZ hK hw g18 (by decide) rfl rfl hl.1 rfl (Nat.le_of_ble_eq_true rfl) ⟨Nat.zero_le _, Nat.zero_le _⟩ dX6_sheet_42 (fun H locs hw => ?_)
      exact r_iret hx hb hr rfl hlocks hZ hK hw h dX6_sheet_45
  have hb29 : ∀ (M : Mm) (x0 : Nat), f_X6_sheet_b29 M x0 = some res → ∀ (H : Heap) (locs : List Loc) (ls : Array Slot), Wd D cy shX ad nX (Aw ad nX) s.heap M H locs → lv_has ls 4 [(0, .ref (ad x0))] → W p l e (headSpec (wU yX6_sheet cX6_sheet 4 (some .int)) rmX6_sheet).room s m args below meth c H locs 0 0 (QI D cy shX ad nX adK adV below args s res) (F0 m 29 ls []) := by
    intro M x0 h H locs ls hw hl
    unfold f_X6_sheet_b29 at h
    refine lv_aload_n hx hb dX6_sheet_29 rfl (lv_at hl 0 rfl) ?_
    refine lv_iconst (v := (0 : Int32)) hx hb dX6_sheet_30 (by decide) ?_
    replace h := gd_some h
    obtain ⟨g20, h⟩ := h
    replace h := bd_some h
    obtain ⟨r19, er19, h⟩ := h
    refine r_callVi (As := [.int (0 : Int32)]) (rest := []) hF (c_X6_finding l D cy ad adK adV M x0 (0 : Int32) r19 er19) (gW_goodV hcm qw373 qw370 qw372 qw0 qw60) hdX6_finding rfl ⟨Nat.le_of_ble_eq_true rfl, Nat.le_of_ble_eq_true rfl⟩ rfl rfl hZ hK hw g20 (by decide) rfl rfl hl.1 rfl (Nat.le_of_ble_eq_true rfl) ⟨Nat.zero_le _, Nat.zero_le _⟩ dX6_sheet_31 (fun H locs hw => ?_)
    exact r_iret hx hb hr rfl hlocks hZ hK hw h dX6_sheet_34
  unfold f_X6_sheet at h
  refine lv_iload_n hx hb dX6_sheet_0 rfl (lv_at hl 1 rfl) ?_
  replace h := bd_some h
  obtain ⟨r21, er21, h⟩ := h
  refine r_callSi (As := [.int a1]) (rest := []) hF (c_X6_isSheet l D cy ad adK adV M a1 r21 er21) (gW_goodS hcm qw819 qw817 qw818 qw60) hdX6_isSheet ⟨Nat.le_of_ble_eq_true rfl, Nat.le_of_ble_eq_true rfl⟩ rfl rfl hZ hK hw rfl hl.1 rfl (Nat.le_of_ble_eq_true rfl) ⟨Nat.zero_le _, Nat.zero_le _⟩ dX6_sheet_1 (fun H locs hw => ?_)
  refine lv_if_eq (tgt := 29) hx hb dX6_sheet_4 (by decide) (fun c22 => ?_) (fun c22 => ?_)
  · replace h := if_some_t c22 h
    exact hb29 _ _ h _ _ _ hw (lv_sub hl [0] rfl)
  · replace h := if_some_f c22 h
    refine lv_iload_n hx hb dX6_sheet_7 rfl (lv_at hl 2 rfl) ?_
    refine lv_if_eq (tgt := 35) hx hb dX6_sheet_8 (by decide) (fun c23 => ?_) (fun c23 => ?_)
    · replace h := if_some_t c23 h
      exact hb35 _ _ _ _ _ h _ _ _ hw (lv_sub hl [0, 1, 2, 3] rfl)
    · replace h := if_some_f c23 h
      refine lv_iload_n hx hb dX6_sheet_11 rfl (lv_at hl 2 rfl) ?_
      refine lv_bipush (v := (8 : Int32)) hx hb dX6_sheet_12 (by decide) ?_
      refine lv_icmp_eq (tgt := 35) hx hb dX6_sheet_14 (by decide) (fun c24 => ?_) (fun c24 => ?_)
      · replace h := if_some_t c24 h
        exact hb35 _ _ _ _ _ h _ _ _ hw (lv_sub hl [0, 1, 2, 3] rfl)
      · replace h := if_some_f c24 h
        refine lv_iload_n hx hb dX6_sheet_17 rfl (lv_at hl 2 rfl) ?_
        refine lv_bipush (v := (16 : Int32)) hx hb dX6_sheet_18 (by decide) ?_
        refine lv_icmp_eq (tgt := 35) hx hb dX6_sheet_20 (by decide) (fun c25 => ?_) (fun c25 => ?_)
        · replace h := if_some_t c25 h
          exact hb35 _ _ _ _ _ h _ _ _ hw (lv_sub hl [0, 1, 2, 3] rfl)
        · replace h := if_some_f c25 h
          refine lv_iload_n hx hb dX6_sheet_23 rfl (lv_at hl 2 rfl) ?_
          refine lv_bipush (v := (32 : Int32)) hx hb dX6_sheet_24 (by decide) ?_
          refine lv_icmp_eq (tgt := 35) hx hb dX6_sheet_26 (by decide) (fun c26 => ?_) (fun c26 => ?_)
          · replace h := if_some_t c26 h
            exact hb35 _ _ _ _ _ h _ _ _ hw (lv_sub hl [0, 1, 2, 3] rfl)
          · replace h := if_some_f c26 h
            exact hb29 _ _ h _ _ _ hw (lv_sub hl [0] rfl)
theorem dX6_write_0 : decode cX6_write 0 = .ok (.iload_n 1, 1) := by decide +kernel
theorem dX6_write_1 : decode cX6_write 1 = .ok (.invokestatic 260, 3) := by decide +kernel
theorem dX6_write_4 : decode cX6_write 4 = .ok (.ifCond .ne 9, 3) := by decide +kernel
theorem dX6_write_7 : decode cX6_write 7 = .ok (.aload_n 0, 1) := by decide +kernel
theorem dX6_write_8 : decode cX6_write 8 = .ok (.iconst 0, 1) := by decide +kernel
theorem dX6_write_9 : decode cX6_write 9 = .ok (.invokevirtual 59, 3) := by decide +kernel
theorem dX6_write_12 : decode cX6_write 12 = .ok (.ireturn, 1) := by decide +kernel
theorem dX6_write_13 : decode cX6_write 13 = .ok (.aload_n 0, 1) := by decide +kernel
theorem dX6_write_14 : decode cX6_write 14 = .ok (.getfield 43, 3) := by decide +kernel
theorem dX6_write_17 : decode cX6_write 17 = .ok (.iload_n 1, 1) := by decide +kernel
theorem dX6_write_18 : decode cX6_write 18 = .ok (.aaload, 1) := by decide +kernel
theorem dX6_write_19 : decode cX6_write 19 = .ok (.invokevirtual 269, 3) := by decide +kernel
theorem dX6_write_22 : decode cX6_write 22 = .ok (.ifCond .eq 9, 3) := by decide +kernel
theorem dX6_write_25 : decode cX6_write 25 = .ok (.aload_n 0, 1) := by decide +kernel
theorem dX6_write_26 : decode cX6_write 26 = .ok (.iconst 5, 1) := by decide +kernel
theorem dX6_write_27 : decode cX6_write 27 = .ok (.invokevirtual 59, 3) := by decide +kernel
theorem dX6_write_30 : decode cX6_write 30 = .ok (.ireturn, 1) := by decide +kernel
theorem dX6_write_31 : decode cX6_write 31 = .ok (.iload_n 2, 1) := by decide +kernel
theorem dX6_write_32 : decode cX6_write 32 = .ok (.ifCond .lt 16, 3) := by decide +kernel
theorem dX6_write_35 : decode cX6_write 35 = .ok (.iload_n 2, 1) := by decide +kernel
theorem dX6_write_36 : decode cX6_write 36 = .ok (.aload_n 0, 1) := by decide +kernel
theorem dX6_write_37 : decode cX6_write 37 = .ok (.getfield 43, 3) := by decide +kernel
theorem dX6_write_40 : decode cX6_write 40 = .ok (.iload_n 1, 1) := by decide +kernel
theorem dX6_write_41 : decode cX6_write 41 = .ok (.aaload, 1) := by decide +kernel
theorem dX6_write_42 : decode cX6_write 42 = .ok (.getfield 266, 3) := by decide +kernel
theorem dX6_write_45 : decode cX6_write 45 = .ok (.if_icmp .lt 9, 3) := by decide +kernel
theorem dX6_write_48 : decode cX6_write 48 = .ok (.aload_n 0, 1) := by decide +kernel
theorem dX6_write_49 : decode cX6_write 49 = .ok (.iconst 0, 1) := by decide +kernel
theorem dX6_write_50 : decode cX6_write 50 = .ok (.invokevirtual 59, 3) := by decide +kernel
theorem dX6_write_53 : decode cX6_write 53 = .ok (.ireturn, 1) := by decide +kernel
theorem dX6_write_54 : decode cX6_write 54 = .ok (.aload_n 0, 1) := by decide +kernel
theorem dX6_write_55 : decode cX6_write 55 = .ok (.getfield 43, 3) := by decide +kernel
theorem dX6_write_58 : decode cX6_write 58 = .ok (.iload_n 1, 1) := by decide +kernel
theorem dX6_write_59 : decode cX6_write 59 = .ok (.aaload, 1) := by decide +kernel
theorem dX6_write_60 : decode cX6_write 60 = .ok (.iload_n 2, 1) := by decide +kernel
theorem dX6_write_61 : decode cX6_write 61 = .ok (.iload_n 3, 1) := by decide +kernel
theorem dX6_write_62 : decode cX6_write 62 = .ok (.invokevirtual 272, 3) := by decide +kernel
theorem dX6_write_65 : decode cX6_write 65 = .ok (.iconst 1, 1) := by decide +kernel
theorem dX6_write_66 : decode cX6_write 66 = .ok (.ireturn, 1) := by decide +kernel
set_option maxHeartbeats 4000000 in
set_option maxRecDepth 100000 in
theorem c_X6_write (l : Launch) (D : va_G) (cy : Nat → ClassId) (ad adK adV : Nat → Nat) (M : Mm) (o0 : Nat) (a1 : Int32) (a2 : Int32) (a3 : Int32) (res : Mm × Int32) (h : f_X6_write M o0 a1 a2 a3 = some res) : Met l yX6_write (wU yX6_write cX6_write 4 (some .int)) rmX6_write (va_Pc [.ref (ad o0), .int a1, .int a2, .int a3] (Pre D cy shX ad nX adK adV M)) (va_Qi (fun r (M2 : Mm) => r = res.2 ∧ M2 = res.1) (Pre D cy shX ad nX adK adV) (Aw ad nX)) 0 0 (Aw ad nX) := by
  refine Met.ofW (cc := cX6_write) (maxL := 4) (ret := (some .int)) (by decide) rfl ?_
  intro p e s m args below meth c s₁ B hml hv
  obtain ⟨hargs, hPre⟩ := hv
  have hx := B.exec
  have hb := B.bytes
  have hr := B.returns
  have hts := atoms_spec (ws := wU yX6_write cX6_write 4 (some .int)) B.pre
  have hq : ∀ w ∈ gW, w.before args s = true := fun w hw => hts w (List.mem_cons_of_mem _ hw)
  have hcm : ∀ w ∈ gW, w ∈ wU yX6_write cX6_write 4 (some .int) := fun w hw => List.mem_cons_of_mem _ hw
  have hown : s.vm.findClass RX6 = some m.cls := findClass_of_methodNamed B.named
  have hlocks := B.notSynchronized
  have hF : CallFix p m c cX6_write 4 s args (wU yX6_write cX6_write 4 (some .int)) RX6 := ⟨hx, hb, hml, hown, hts⟩
  have hK := hPre.2.1
  have hZ := hPre.2.2.2
  have hw : Wd D cy shX ad nX (Aw ad nX) s.heap M s.heap [] := ⟨hPre.1, hPre.2.2.1, va_S.rf⟩
  have iw2 : ∀ w ∈ u_ws RX2 TX2 3, w ∈ wU yX6_write cX6_write 4 (some .int) := fun w hw => List.mem_cons_of_mem _ (iX2 w hw)
  have iw6 : ∀ w ∈ u_ws RX6 TX6 8, w ∈ wU yX6_write cX6_write 4 (some .int) := fun w hw => List.mem_cons_of_mem _ (iX6 w hw)
  rw [show entryFrame m args 4 = entryFrame m ([.ref (ad o0), .int a1, .int a2, .int a3] : List Value).toArray 4 from by rw [hargs]]
  have hl := lv_entry ([.ref (ad o0), .int a1, .int a2, .int a3]) (n := 4) (Nat.le_of_ble_eq_true rfl)
  rw [lg_entry_eq]
  generalize (lg_sl ([.ref (ad o0), .int a1, .int a2, .int a3]) ++ List.replicate (4 - (lg_sl ([.ref (ad o0), .int a1, .int a2, .int a3])).length) Slot.unset).toArray = ls at hl ⊢
  have hl : lv_has ls 4 [(0, .ref (ad o0)), (1, .int a1), (2, .int a2), (3, .int a3)] := hl
  have hb48 : ∀ (M : Mm) (x0 : Nat), f_X6_write_b48 M x0 = some res → ∀ (H : Heap) (locs : List Loc) (ls : Array Slot), Wd D cy shX ad nX (Aw ad nX) s.heap M H locs → lv_has ls 4 [(0, .ref (ad x0))] → W p l e (headSpec (wU yX6_write cX6_write 4 (some .int)) rmX6_write).room s m args below meth c H locs 0 0 (QI D cy shX ad nX adK adV below args s res) (F0 m 48 ls []) := by
    intro M x0 h H locs ls hw hl
    unfold f_X6_write_b48 at h
    refine lv_aload_n hx hb dX6_write_48 rfl (lv_at hl 0 rfl) ?_
    refine lv_iconst (v := (0 : Int32)) hx hb dX6_write_49 (by decide) ?_
    replace h := gd_some h
    obtain ⟨g2, h⟩ := h
    replace h := bd_some h
    obtain ⟨r1, er1, h⟩ := h
    refine r_callVi (As := [.int (0 : Int32)]) (rest := []) hF (c_X6_finding l D cy ad adK adV M x0 (0 : Int32) r1 er1) (gW_goodV hcm qw373 qw370 qw372 qw0 qw60) hdX6_finding rfl ⟨Nat.le_of_ble_eq_true rfl, Nat.le_of_ble_eq_true rfl⟩ rfl rfl hZ hK hw g2 (by decide) rfl rfl hl.1 rfl (Nat.le_of_ble_eq_true rfl) ⟨Nat.zero_le _, Nat.zero_le _⟩ dX6_write_50 (fun H locs hw => ?_)
    exact r_iret hx hb hr rfl hlocks hZ hK hw h dX6_write_53
  unfold f_X6_write at h
  refine lv_iload_n hx hb dX6_write_0 rfl (lv_at hl 1 rfl) ?_
  replace h := bd_some h
  obtain ⟨r3, er3, h⟩ := h
  refine r_callSi (As := [.int a1]) (rest := []) hF (c_X6_isSheet l D cy ad adK adV M a1 r3 er3) (gW_goodS hcm qw819 qw817 qw818 qw60) hdX6_isSheet ⟨Nat.le_of_ble_eq_true rfl, Nat.le_of_ble_eq_true rfl⟩ rfl rfl hZ hK hw rfl hl.1 rfl (Nat.le_of_ble_eq_true rfl) ⟨Nat.zero_le _, Nat.zero_le _⟩ dX6_write_1 (fun H locs hw => ?_)
  refine lv_if_ne (tgt := 13) hx hb dX6_write_4 (by decide) (fun c4 => ?_) (fun c4 => ?_)
  · replace h := if_some_f c4 h
    refine lv_aload_n hx hb dX6_write_13 rfl (lv_at hl 0 rfl) ?_
    replace h := gd_some h
    obtain ⟨g5, h⟩ := h
    replace h := bd_some h
    obtain ⟨q6, eq6, h⟩ := h
    refine r_getR hx hb hts iw6 hown hK hw o0 6 g5 (by decide) rfl (by decide) rfl (hq _ qw341) (fun _ h9 => h9) dX6_write_14 eq6 ?_
    refine lv_iload_n hx hb dX6_write_17 rfl (lv_at hl 1 rfl) ?_
    replace h := gd_some h
    obtain ⟨g7, h⟩ := h
    replace h := bd_some h
    obtain ⟨q8, eq8, h⟩ := h
    refine r_aald hx hb hK hw q6 4 (by decide) rfl g7 dX6_write_18 eq8 ?_
    replace h := gd_some h
    obtain ⟨g10, h⟩ := h
    replace h := bd_some h
    obtain ⟨r9, er9, h⟩ := h
    refine r_callVi (As := []) (rest := []) hF (c_X2_isMissing l D cy ad adK adV r3.1 q8 r9 er9) (gW_goodV hcm qw831 qw828 qw829 qw830 qw66) hdX2_isMissing rfl ⟨Nat.le_of_ble_eq_true rfl, Nat.le_of_ble_eq_true rfl⟩ rfl rfl hZ hK hw g10 (by decide) rfl rfl hl.1 rfl (Nat.le_of_ble_eq_true rfl) ⟨Nat.zero_le _, Nat.zero_le _⟩ dX6_write_19 (fun H locs hw => ?_)
    refine lv_if_eq (tgt := 31) hx hb dX6_write_22 (by decide) (fun c11 => ?_) (fun c11 => ?_)
    · replace h := if_some_t c11 h
      refine lv_iload_n hx hb dX6_write_31 rfl (lv_at hl 2 rfl) ?_
      refine lv_if_lt (tgt := 48) hx hb dX6_write_32 (by decide) (fun c12 => ?_) (fun c12 => ?_)
      · replace h := if_some_t c12 h
        exact hb48 _ _ h _ _ _ hw (lv_sub hl [0] rfl)
      · replace h := if_some_f c12 h
        refine lv_iload_n hx hb dX6_write_35 rfl (lv_at hl 2 rfl) ?_
        refine lv_aload_n hx hb dX6_write_36 rfl (lv_at hl 0 rfl) ?_
        replace h := bd_some h
        obtain ⟨q13, eq13, h⟩ := h
        refine r_getR hx hb hts iw6 hown hK hw o0 6 g5 (by decide) rfl (by decide) rfl (hq _ qw341) (fun _ h9 => h9) dX6_write_37 eq13 ?_
        refine lv_iload_n hx hb dX6_write_40 rfl (lv_at hl 1 rfl) ?_
        replace h := gd_some h
        obtain ⟨g14, h⟩ := h
        replace h := bd_some h
        obtain ⟨q15, eq15, h⟩ := h
        refine r_aald hx hb hK hw q13 4 (by decide) rfl g14 dX6_write_41 eq15 ?_
        replace h := gd_some h
        obtain ⟨g16, h⟩ := h
        refine r_getI hx hb hts iw2 hown hK hw q15 2 g16 (by decide) rfl (by decide) rfl (hq _ qw327) (fun _ h9 => h9) dX6_write_42 ?_
        refine lv_icmp_lt (tgt := 54) hx hb dX6_write_45 (by decide) (fun c17 => ?_) (fun c17 => ?_)
        · replace h := if_some_t c17 h
          refine lv_aload_n hx hb dX6_write_54 rfl (lv_at hl 0 rfl) ?_
          replace h := bd_some h
          obtain ⟨q18, eq18, h⟩ := h
          refine r_getR hx hb hts iw6 hown hK hw o0 6 g5 (by decide) rfl (by decide) rfl (hq _ qw341) (fun _ h9 => h9) dX6_write_55 eq18 ?_
          refine lv_iload_n hx hb dX6_write_58 rfl (lv_at hl 1 rfl) ?_
          replace h := gd_some h
          obtain ⟨g19, h⟩ := h
          replace h := bd_some h
          obtain ⟨q20, eq20, h⟩ := h
          refine r_aald hx hb hK hw q18 4 (by decide) rfl g19 dX6_write_59 eq20 ?_
          refine lv_iload_n hx hb dX6_write_60 rfl (lv_at hl 2 rfl) ?_
          refine lv_iload_n hx hb dX6_write_61 rfl (lv_at hl 3 rfl) ?_
          replace h := gd_some h
          obtain ⟨g22, h⟩ := h
          replace h := bd_some h
          obtain ⟨r21, er21, h⟩ := h
          refine r_callVv (As := [.int a2, .int a3]) (rest := []) hF (c_X2_put l D cy ad adK adV r9.1 q20 a2 a3 r21 er21) (gW_goodV hcm qw835 qw832 qw833 qw834 qw66) hdX2_put rfl ⟨Nat.le_of_ble_eq_true rfl, Nat.le_of_ble_eq_true rfl⟩ rfl rfl hZ hK hw g22 (by decide) rfl rfl hl.1 rfl (Nat.le_of_ble_eq_true rfl) ⟨Nat.zero_le _, Nat.zero_le _⟩ dX6_write_62 (fun H locs hw => ?_)
          refine lv_iconst (v := (1 : Int32)) hx hb dX6_write_65 (by decide) ?_
          exact r_iret hx hb hr rfl hlocks hZ hK hw h dX6_write_66
        · replace h := if_some_f c17 h
          exact hb48 _ _ h _ _ _ hw (lv_sub hl [0] rfl)
    · replace h := if_some_f c11 h
      refine lv_aload_n hx hb dX6_write_25 rfl (lv_at hl 0 rfl) ?_
      refine lv_iconst (v := (5 : Int32)) hx hb dX6_write_26 (by decide) ?_
      replace h := bd_some h
      obtain ⟨r23, er23, h⟩ := h
      refine r_callVi (As := [.int (5 : Int32)]) (rest := []) hF (c_X6_finding l D cy ad adK adV r9.1 o0 (5 : Int32) r23 er23) (gW_goodV hcm qw373 qw370 qw372 qw0 qw60) hdX6_finding rfl ⟨Nat.le_of_ble_eq_true rfl, Nat.le_of_ble_eq_true rfl⟩ rfl rfl hZ hK hw g5 (by decide) rfl rfl hl.1 rfl (Nat.le_of_ble_eq_true rfl) ⟨Nat.zero_le _, Nat.zero_le _⟩ dX6_write_27 (fun H locs hw => ?_)
      exact r_iret hx hb hr rfl hlocks hZ hK hw h dX6_write_30
  · replace h := if_some_t c4 h
    refine lv_aload_n hx hb dX6_write_7 rfl (lv_at hl 0 rfl) ?_
    refine lv_iconst (v := (0 : Int32)) hx hb dX6_write_8 (by decide) ?_
    replace h := gd_some h
    obtain ⟨g25, h⟩ := h
    replace h := bd_some h
    obtain ⟨r24, er24, h⟩ := h
    refine r_callVi (As := [.int (0 : Int32)]) (rest := []) hF (c_X6_finding l D cy ad adK adV r3.1 o0 (0 : Int32) r24 er24) (gW_goodV hcm qw373 qw370 qw372 qw0 qw60) hdX6_finding rfl ⟨Nat.le_of_ble_eq_true rfl, Nat.le_of_ble_eq_true rfl⟩ rfl rfl hZ hK hw g25 (by decide) rfl rfl hl.1 rfl (Nat.le_of_ble_eq_true rfl) ⟨Nat.zero_le _, Nat.zero_le _⟩ dX6_write_9 (fun H locs hw => ?_)
    exact r_iret hx hb hr rfl hlocks hZ hK hw h dX6_write_12
theorem dX6_copy_0 : decode cX6_copy 0 = .ok (.iload_n 1, 1) := by decide +kernel
theorem dX6_copy_1 : decode cX6_copy 1 = .ok (.invokestatic 260, 3) := by decide +kernel
theorem dX6_copy_4 : decode cX6_copy 4 = .ok (.ifCond .eq 10, 3) := by decide +kernel
theorem dX6_copy_7 : decode cX6_copy 7 = .ok (.iload_n 3, 1) := by decide +kernel
theorem dX6_copy_8 : decode cX6_copy 8 = .ok (.invokestatic 260, 3) := by decide +kernel
theorem dX6_copy_11 : decode cX6_copy 11 = .ok (.ifCond .ne 9, 3) := by decide +kernel
theorem dX6_copy_14 : decode cX6_copy 14 = .ok (.aload_n 0, 1) := by decide +kernel
theorem dX6_copy_15 : decode cX6_copy 15 = .ok (.iconst 0, 1) := by decide +kernel
theorem dX6_copy_16 : decode cX6_copy 16 = .ok (.invokevirtual 59, 3) := by decide +kernel
theorem dX6_copy_19 : decode cX6_copy 19 = .ok (.ireturn, 1) := by decide +kernel
theorem dX6_copy_20 : decode cX6_copy 20 = .ok (.aload_n 0, 1) := by decide +kernel
theorem dX6_copy_21 : decode cX6_copy 21 = .ok (.getfield 43, 3) := by decide +kernel
theorem dX6_copy_24 : decode cX6_copy 24 = .ok (.iload_n 1, 1) := by decide +kernel
theorem dX6_copy_25 : decode cX6_copy 25 = .ok (.aaload, 1) := by decide +kernel
theorem dX6_copy_26 : decode cX6_copy 26 = .ok (.astore 6, 2) := by decide +kernel
theorem dX6_copy_28 : decode cX6_copy 28 = .ok (.aload_n 0, 1) := by decide +kernel
theorem dX6_copy_29 : decode cX6_copy 29 = .ok (.getfield 43, 3) := by decide +kernel
theorem dX6_copy_32 : decode cX6_copy 32 = .ok (.iload_n 3, 1) := by decide +kernel
theorem dX6_copy_33 : decode cX6_copy 33 = .ok (.aaload, 1) := by decide +kernel
theorem dX6_copy_34 : decode cX6_copy 34 = .ok (.astore 7, 2) := by decide +kernel
theorem dX6_copy_36 : decode cX6_copy 36 = .ok (.aload 6, 2) := by decide +kernel
theorem dX6_copy_38 : decode cX6_copy 38 = .ok (.invokevirtual 269, 3) := by decide +kernel
theorem dX6_copy_41 : decode cX6_copy 41 = .ok (.ifCond .ne 11, 3) := by decide +kernel
theorem dX6_copy_44 : decode cX6_copy 44 = .ok (.aload 7, 2) := by decide +kernel
theorem dX6_copy_46 : decode cX6_copy 46 = .ok (.invokevirtual 269, 3) := by decide +kernel
theorem dX6_copy_49 : decode cX6_copy 49 = .ok (.ifCond .eq 9, 3) := by decide +kernel
theorem dX6_copy_52 : decode cX6_copy 52 = .ok (.aload_n 0, 1) := by decide +kernel
theorem dX6_copy_53 : decode cX6_copy 53 = .ok (.iconst 5, 1) := by decide +kernel
theorem dX6_copy_54 : decode cX6_copy 54 = .ok (.invokevirtual 59, 3) := by decide +kernel
theorem dX6_copy_57 : decode cX6_copy 57 = .ok (.ireturn, 1) := by decide +kernel
theorem dX6_copy_58 : decode cX6_copy 58 = .ok (.aload 6, 2) := by decide +kernel
theorem dX6_copy_60 : decode cX6_copy 60 = .ok (.getfield 275, 3) := by decide +kernel
theorem dX6_copy_63 : decode cX6_copy 63 = .ok (.aload 7, 2) := by decide +kernel
theorem dX6_copy_65 : decode cX6_copy 65 = .ok (.getfield 275, 3) := by decide +kernel
theorem dX6_copy_68 : decode cX6_copy 68 = .ok (.if_icmp .eq 9, 3) := by decide +kernel
theorem dX6_copy_71 : decode cX6_copy 71 = .ok (.aload_n 0, 1) := by decide +kernel
theorem dX6_copy_72 : decode cX6_copy 72 = .ok (.iconst 2, 1) := by decide +kernel
theorem dX6_copy_73 : decode cX6_copy 73 = .ok (.invokevirtual 59, 3) := by decide +kernel
theorem dX6_copy_76 : decode cX6_copy 76 = .ok (.ireturn, 1) := by decide +kernel
theorem dX6_copy_77 : decode cX6_copy 77 = .ok (.aload 6, 2) := by decide +kernel
theorem dX6_copy_79 : decode cX6_copy 79 = .ok (.iload_n 2, 1) := by decide +kernel
theorem dX6_copy_80 : decode cX6_copy 80 = .ok (.iload 5, 2) := by decide +kernel
theorem dX6_copy_82 : decode cX6_copy 82 = .ok (.invokevirtual 278, 3) := by decide +kernel
theorem dX6_copy_85 : decode cX6_copy 85 = .ok (.ifCond .eq 15, 3) := by decide +kernel
theorem dX6_copy_88 : decode cX6_copy 88 = .ok (.aload 7, 2) := by decide +kernel
theorem dX6_copy_90 : decode cX6_copy 90 = .ok (.iload 4, 2) := by decide +kernel
theorem dX6_copy_92 : decode cX6_copy 92 = .ok (.iload 5, 2) := by decide +kernel
theorem dX6_copy_94 : decode cX6_copy 94 = .ok (.invokevirtual 278, 3) := by decide +kernel
theorem dX6_copy_97 : decode cX6_copy 97 = .ok (.ifCond .ne 9, 3) := by decide +kernel
theorem dX6_copy_100 : decode cX6_copy 100 = .ok (.aload_n 0, 1) := by decide +kernel
theorem dX6_copy_101 : decode cX6_copy 101 = .ok (.iconst 0, 1) := by decide +kernel
theorem dX6_copy_102 : decode cX6_copy 102 = .ok (.invokevirtual 59, 3) := by decide +kernel
theorem dX6_copy_105 : decode cX6_copy 105 = .ok (.ireturn, 1) := by decide +kernel
theorem dX6_copy_106 : decode cX6_copy 106 = .ok (.aload 6, 2) := by decide +kernel
theorem dX6_copy_108 : decode cX6_copy 108 = .ok (.getfield 281, 3) := by decide +kernel
theorem dX6_copy_111 : decode cX6_copy 111 = .ok (.iload_n 2, 1) := by decide +kernel
theorem dX6_copy_112 : decode cX6_copy 112 = .ok (.aload 7, 2) := by decide +kernel
theorem dX6_copy_114 : decode cX6_copy 114 = .ok (.getfield 281, 3) := by decide +kernel
theorem dX6_copy_117 : decode cX6_copy 117 = .ok (.iload 4, 2) := by decide +kernel
theorem dX6_copy_119 : decode cX6_copy 119 = .ok (.iload 5, 2) := by decide +kernel
theorem dX6_copy_121 : decode cX6_copy 121 = .ok (.invokestatic 284, 3) := by decide +kernel
theorem dX6_copy_124 : decode cX6_copy 124 = .ok (.iload 5, 2) := by decide +kernel
theorem dX6_copy_126 : decode cX6_copy 126 = .ok (.ireturn, 1) := by decide +kernel
set_option maxHeartbeats 4000000 in
set_option maxRecDepth 100000 in
theorem c_X6_copy (l : Launch) (D : va_G) (cy : Nat → ClassId) (ad adK adV : Nat → Nat) (M : Mm) (o0 : Nat) (a1 : Int32) (a2 : Int32) (a3 : Int32) (a4 : Int32) (a5 : Int32) (res : Mm × Int32) (h : f_X6_copy M o0 a1 a2 a3 a4 a5 = some res) : Met l yX6_copy (wU yX6_copy cX6_copy 8 (some .int)) rmX6_copy (va_Pc [.ref (ad o0), .int a1, .int a2, .int a3, .int a4, .int a5] (Pre D cy shX ad nX adK adV M)) (va_Qi (fun r (M2 : Mm) => r = res.2 ∧ M2 = res.1) (Pre D cy shX ad nX adK adV) (Aw ad nX)) 0 0 (Aw ad nX) := by
  refine Met.ofW (cc := cX6_copy) (maxL := 8) (ret := (some .int)) (by decide) rfl ?_
  intro p e s m args below meth c s₁ B hml hv
  obtain ⟨hargs, hPre⟩ := hv
  have hx := B.exec
  have hb := B.bytes
  have hr := B.returns
  have hts := atoms_spec (ws := wU yX6_copy cX6_copy 8 (some .int)) B.pre
  have hq : ∀ w ∈ gW, w.before args s = true := fun w hw => hts w (List.mem_cons_of_mem _ hw)
  have hcm : ∀ w ∈ gW, w ∈ wU yX6_copy cX6_copy 8 (some .int) := fun w hw => List.mem_cons_of_mem _ hw
  have hown : s.vm.findClass RX6 = some m.cls := findClass_of_methodNamed B.named
  have hlocks := B.notSynchronized
  have hF : CallFix p m c cX6_copy 8 s args (wU yX6_copy cX6_copy 8 (some .int)) RX6 := ⟨hx, hb, hml, hown, hts⟩
  have hK := hPre.2.1
  have hZ := hPre.2.2.2
  have hw : Wd D cy shX ad nX (Aw ad nX) s.heap M s.heap [] := ⟨hPre.1, hPre.2.2.1, va_S.rf⟩
  have iw2 : ∀ w ∈ u_ws RX2 TX2 3, w ∈ wU yX6_copy cX6_copy 8 (some .int) := fun w hw => List.mem_cons_of_mem _ (iX2 w hw)
  have iw6 : ∀ w ∈ u_ws RX6 TX6 8, w ∈ wU yX6_copy cX6_copy 8 (some .int) := fun w hw => List.mem_cons_of_mem _ (iX6 w hw)
  rw [show entryFrame m args 8 = entryFrame m ([.ref (ad o0), .int a1, .int a2, .int a3, .int a4, .int a5] : List Value).toArray 8 from by rw [hargs]]
  have hl := lv_entry ([.ref (ad o0), .int a1, .int a2, .int a3, .int a4, .int a5]) (n := 8) (Nat.le_of_ble_eq_true rfl)
  rw [lg_entry_eq]
  generalize (lg_sl ([.ref (ad o0), .int a1, .int a2, .int a3, .int a4, .int a5]) ++ List.replicate (8 - (lg_sl ([.ref (ad o0), .int a1, .int a2, .int a3, .int a4, .int a5])).length) Slot.unset).toArray = ls at hl ⊢
  have hl : lv_has ls 8 [(0, .ref (ad o0)), (1, .int a1), (2, .int a2), (3, .int a3), (4, .int a4), (5, .int a5)] := hl
  have hb100 : ∀ (M : Mm) (x0 : Nat), f_X6_copy_b100 M x0 = some res → ∀ (H : Heap) (locs : List Loc) (ls : Array Slot), Wd D cy shX ad nX (Aw ad nX) s.heap M H locs → lv_has ls 8 [(0, .ref (ad x0))] → W p l e (headSpec (wU yX6_copy cX6_copy 8 (some .int)) rmX6_copy).room s m args below meth c H locs 0 0 (QI D cy shX ad nX adK adV below args s res) (F0 m 100 ls []) := by
    intro M x0 h H locs ls hw hl
    unfold f_X6_copy_b100 at h
    refine lv_aload_n hx hb dX6_copy_100 rfl (lv_at hl 0 rfl) ?_
    refine lv_iconst (v := (0 : Int32)) hx hb dX6_copy_101 (by decide) ?_
    replace h := gd_some h
    obtain ⟨g2, h⟩ := h
    replace h := bd_some h
    obtain ⟨r1, er1, h⟩ := h
    refine r_callVi (As := [.int (0 : Int32)]) (rest := []) hF (c_X6_finding l D cy ad adK adV M x0 (0 : Int32) r1 er1) (gW_goodV hcm qw373 qw370 qw372 qw0 qw60) hdX6_finding rfl ⟨Nat.le_of_ble_eq_true rfl, Nat.le_of_ble_eq_true rfl⟩ rfl rfl hZ hK hw g2 (by decide) rfl rfl hl.1 rfl (Nat.le_of_ble_eq_true rfl) ⟨Nat.zero_le _, Nat.zero_le _⟩ dX6_copy_102 (fun H locs hw => ?_)
    exact r_iret hx hb hr rfl hlocks hZ hK hw h dX6_copy_105
  have hb52 : ∀ (M : Mm) (x0 : Nat), f_X6_copy_b52 M x0 = some res → ∀ (H : Heap) (locs : List Loc) (ls : Array Slot), Wd D cy shX ad nX (Aw ad nX) s.heap M H locs → lv_has ls 8 [(0, .ref (ad x0))] → W p l e (headSpec (wU yX6_copy cX6_copy 8 (some .int)) rmX6_copy).room s m args below meth c H locs 0 0 (QI D cy shX ad nX adK adV below args s res) (F0 m 52 ls []) := by
    intro M x0 h H locs ls hw hl
    unfold f_X6_copy_b52 at h
    refine lv_aload_n hx hb dX6_copy_52 rfl (lv_at hl 0 rfl) ?_
    refine lv_iconst (v := (5 : Int32)) hx hb dX6_copy_53 (by decide) ?_
    replace h := gd_some h
    obtain ⟨g4, h⟩ := h
    replace h := bd_some h
    obtain ⟨r3, er3, h⟩ := h
    refine r_callVi (As := [.int (5 : Int32)]) (rest := []) hF (c_X6_finding l D cy ad adK adV M x0 (5 : Int32) r3 er3) (gW_goodV hcm qw373 qw370 qw372 qw0 qw60) hdX6_finding rfl ⟨Nat.le_of_ble_eq_true rfl, Nat.le_of_ble_eq_true rfl⟩ rfl rfl hZ hK hw g4 (by decide) rfl rfl hl.1 rfl (Nat.le_of_ble_eq_true rfl) ⟨Nat.zero_le _, Nat.zero_le _⟩ dX6_copy_54 (fun H locs hw => ?_)
    exact r_iret hx hb hr rfl hlocks hZ hK hw h dX6_copy_57
  have hb14 : ∀ (M : Mm) (x0 : Nat), f_X6_copy_b14 M x0 = some res → ∀ (H : Heap) (locs : List Loc) (ls : Array Slot), Wd D cy shX ad nX (Aw ad nX) s.heap M H locs → lv_has ls 8 [(0, .ref (ad x0))] → W p l e (headSpec (wU yX6_copy cX6_copy 8 (some .int)) rmX6_copy).room s m args below meth c H locs 0 0 (QI D cy shX ad nX adK adV below args s res) (F0 m 14 ls []) := by
    intro M x0 h H locs ls hw hl
    unfold f_X6_copy_b14 at h
    refine lv_aload_n hx hb dX6_copy_14 rfl (lv_at hl 0 rfl) ?_
    refine lv_iconst (v := (0 : Int32)) hx hb dX6_copy_15 (by decide) ?_
    replace h := gd_some h
    obtain ⟨g6, h⟩ := h
    replace h := bd_some h
    obtain ⟨r5, er5, h⟩ := h
    refine r_callVi (As := [.int (0 : Int32)]) (rest := []) hF (c_X6_finding l D cy ad adK adV M x0 (0 : Int32) r5 er5) (gW_goodV hcm qw373 qw370 qw372 qw0 qw60) hdX6_finding rfl ⟨Nat.le_of_ble_eq_true rfl, Nat.le_of_ble_eq_true rfl⟩ rfl rfl hZ hK hw g6 (by decide) rfl rfl hl.1 rfl (Nat.le_of_ble_eq_true rfl) ⟨Nat.zero_le _, Nat.zero_le _⟩ dX6_copy_16 (fun H locs hw => ?_)
    exact r_iret hx hb hr rfl hlocks hZ hK hw h dX6_copy_19
  unfold f_X6_copy at h
  refine lv_iload_n hx hb dX6_copy_0 rfl (lv_at hl 1 rfl) ?_
  replace h := bd_some h
  obtain ⟨r7, er7, h⟩ := h
  refine r_callSi (As := [.int a1]) (rest := []) hF (c_X6_isSheet l D cy ad adK adV M a1 r7 er7) (gW_goodS hcm qw819 qw817 qw818 qw60) hdX6_isSheet ⟨Nat.le_of_ble_eq_true rfl, Nat.le_of_ble_eq_true rfl⟩ rfl rfl hZ hK hw rfl hl.1 rfl (Nat.le_of_ble_eq_true rfl) ⟨Nat.zero_le _, Nat.zero_le _⟩ dX6_copy_1 (fun H locs hw => ?_)
  refine lv_if_eq (tgt := 14) hx hb dX6_copy_4 (by decide) (fun c8 => ?_) (fun c8 => ?_)
  · replace h := if_some_t c8 h
    exact hb14 _ _ h _ _ _ hw (lv_sub hl [0] rfl)
  · replace h := if_some_f c8 h
    refine lv_iload_n hx hb dX6_copy_7 rfl (lv_at hl 3 rfl) ?_
    replace h := bd_some h
    obtain ⟨r9, er9, h⟩ := h
    refine r_callSi (As := [.int a3]) (rest := []) hF (c_X6_isSheet l D cy ad adK adV r7.1 a3 r9 er9) (gW_goodS hcm qw819 qw817 qw818 qw60) hdX6_isSheet ⟨Nat.le_of_ble_eq_true rfl, Nat.le_of_ble_eq_true rfl⟩ rfl rfl hZ hK hw rfl hl.1 rfl (Nat.le_of_ble_eq_true rfl) ⟨Nat.zero_le _, Nat.zero_le _⟩ dX6_copy_8 (fun H locs hw => ?_)
    refine lv_if_ne (tgt := 20) hx hb dX6_copy_11 (by decide) (fun c10 => ?_) (fun c10 => ?_)
    · replace h := if_some_f c10 h
      refine lv_aload_n hx hb dX6_copy_20 rfl (lv_at hl 0 rfl) ?_
      replace h := gd_some h
      obtain ⟨g11, h⟩ := h
      replace h := bd_some h
      obtain ⟨q12, eq12, h⟩ := h
      refine r_getR hx hb hts iw6 hown hK hw o0 6 g11 (by decide) rfl (by decide) rfl (hq _ qw341) (fun _ h9 => h9) dX6_copy_21 eq12 ?_
      refine lv_iload_n hx hb dX6_copy_24 rfl (lv_at hl 1 rfl) ?_
      replace h := gd_some h
      obtain ⟨g13, h⟩ := h
      replace h := bd_some h
      obtain ⟨q14, eq14, h⟩ := h
      refine r_aald hx hb hK hw q12 4 (by decide) rfl g13 dX6_copy_25 eq14 ?_
      refine lv_astore (lv' := [(6, .ref (ad q14)), (0, .ref (ad o0)), (1, .int a1), (2, .int a2), (3, .int a3), (4, .int a4), (5, .int a5)]) hx hb dX6_copy_26 hl (by decide) rfl (fun ls hl => ?_)
      refine lv_aload_n hx hb dX6_copy_28 rfl (lv_at hl 1 rfl) ?_
      replace h := bd_some h
      obtain ⟨q15, eq15, h⟩ := h
      refine r_getR hx hb hts iw6 hown hK hw o0 6 g11 (by decide) rfl (by decide) rfl (hq _ qw341) (fun _ h9 => h9) dX6_copy_29 eq15 ?_
      refine lv_iload_n hx hb dX6_copy_32 rfl (lv_at hl 4 rfl) ?_
      replace h := gd_some h
      obtain ⟨g16, h⟩ := h
      replace h := bd_some h
      obtain ⟨q17, eq17, h⟩ := h
      refine r_aald hx hb hK hw q15 4 (by decide) rfl g16 dX6_copy_33 eq17 ?_
      refine lv_astore (lv' := [(7, .ref (ad q17)), (6, .ref (ad q14)), (0, .ref (ad o0)), (1, .int a1), (2, .int a2), (3, .int a3), (4, .int a4), (5, .int a5)]) hx hb dX6_copy_34 hl (by decide) rfl (fun ls hl => ?_)
      refine lv_aload hx hb dX6_copy_36 (lv_at hl 1 rfl) ?_
      replace h := gd_some h
      obtain ⟨g19, h⟩ := h
      replace h := bd_some h
      obtain ⟨r18, er18, h⟩ := h
      refine r_callVi (As := []) (rest := []) hF (c_X2_isMissing l D cy ad adK adV r9.1 q14 r18 er18) (gW_goodV hcm qw831 qw828 qw829 qw830 qw66) hdX2_isMissing rfl ⟨Nat.le_of_ble_eq_true rfl, Nat.le_of_ble_eq_true rfl⟩ rfl rfl hZ hK hw g19 (by decide) rfl rfl hl.1 rfl (Nat.le_of_ble_eq_true rfl) ⟨Nat.zero_le _, Nat.zero_le _⟩ dX6_copy_38 (fun H locs hw => ?_)
      refine lv_if_ne (tgt := 52) hx hb dX6_copy_41 (by decide) (fun c20 => ?_) (fun c20 => ?_)
      · replace h := if_some_f c20 h
        exact hb52 _ _ h _ _ _ hw (lv_sub hl [2] rfl)
      · replace h := if_some_t c20 h
        refine lv_aload hx hb dX6_copy_44 (lv_at hl 0 rfl) ?_
        replace h := gd_some h
        obtain ⟨g22, h⟩ := h
        replace h := bd_some h
        obtain ⟨r21, er21, h⟩ := h
        refine r_callVi (As := []) (rest := []) hF (c_X2_isMissing l D cy ad adK adV r18.1 q17 r21 er21) (gW_goodV hcm qw831 qw828 qw829 qw830 qw66) hdX2_isMissing rfl ⟨Nat.le_of_ble_eq_true rfl, Nat.le_of_ble_eq_true rfl⟩ rfl rfl hZ hK hw g22 (by decide) rfl rfl hl.1 rfl (Nat.le_of_ble_eq_true rfl) ⟨Nat.zero_le _, Nat.zero_le _⟩ dX6_copy_46 (fun H locs hw => ?_)
        refine lv_if_eq (tgt := 58) hx hb dX6_copy_49 (by decide) (fun c23 => ?_) (fun c23 => ?_)
        · replace h := if_some_t c23 h
          refine lv_aload hx hb dX6_copy_58 (lv_at hl 1 rfl) ?_
          refine r_getI hx hb hts iw2 hown hK hw q14 1 g19 (by decide) rfl (by decide) rfl (hq _ qw325) (fun _ h9 => h9) dX6_copy_60 ?_
          refine lv_aload hx hb dX6_copy_63 (lv_at hl 0 rfl) ?_
          refine r_getI hx hb hts iw2 hown hK hw q17 1 g22 (by decide) rfl (by decide) rfl (hq _ qw325) (fun _ h9 => h9) dX6_copy_65 ?_
          refine lv_icmp_eq (tgt := 77) hx hb dX6_copy_68 (by decide) (fun c24 => ?_) (fun c24 => ?_)
          · replace h := if_some_t c24 h
            refine lv_aload hx hb dX6_copy_77 (lv_at hl 1 rfl) ?_
            refine lv_iload_n hx hb dX6_copy_79 rfl (lv_at hl 4 rfl) ?_
            refine lv_iload hx hb dX6_copy_80 (lv_at hl 7 rfl) ?_
            replace h := bd_some h
            obtain ⟨r25, er25, h⟩ := h
            refine r_callVi (As := [.int a2, .int a5]) (rest := []) hF (c_X2_hasRange l D cy ad adK adV r21.1 q14 a2 a5 r25 er25) (gW_goodV hcm qw843 qw840 qw841 qw842 qw66) hdX2_hasRange rfl ⟨Nat.le_of_ble_eq_true rfl, Nat.le_of_ble_eq_true rfl⟩ rfl rfl hZ hK hw g19 (by decide) rfl rfl hl.1 rfl (Nat.le_of_ble_eq_true rfl) ⟨Nat.zero_le _, Nat.zero_le _⟩ dX6_copy_82 (fun H locs hw => ?_)
            refine lv_if_eq (tgt := 100) hx hb dX6_copy_85 (by decide) (fun c26 => ?_) (fun c26 => ?_)
            · replace h := if_some_t c26 h
              exact hb100 _ _ h _ _ _ hw (lv_sub hl [2] rfl)
            · replace h := if_some_f c26 h
              refine lv_aload hx hb dX6_copy_88 (lv_at hl 0 rfl) ?_
              refine lv_iload hx hb dX6_copy_90 (lv_at hl 6 rfl) ?_
              refine lv_iload hx hb dX6_copy_92 (lv_at hl 7 rfl) ?_
              replace h := bd_some h
              obtain ⟨r27, er27, h⟩ := h
              refine r_callVi (As := [.int a4, .int a5]) (rest := []) hF (c_X2_hasRange l D cy ad adK adV r25.1 q17 a4 a5 r27 er27) (gW_goodV hcm qw843 qw840 qw841 qw842 qw66) hdX2_hasRange rfl ⟨Nat.le_of_ble_eq_true rfl, Nat.le_of_ble_eq_true rfl⟩ rfl rfl hZ hK hw g22 (by decide) rfl rfl hl.1 rfl (Nat.le_of_ble_eq_true rfl) ⟨Nat.zero_le _, Nat.zero_le _⟩ dX6_copy_94 (fun H locs hw => ?_)
              refine lv_if_ne (tgt := 106) hx hb dX6_copy_97 (by decide) (fun c28 => ?_) (fun c28 => ?_)
              · replace h := if_some_f c28 h
                refine lv_aload hx hb dX6_copy_106 (lv_at hl 1 rfl) ?_
                replace h := bd_some h
                obtain ⟨q29, eq29, h⟩ := h
                refine r_getR hx hb hts iw2 hown hK hw q14 0 g19 (by decide) rfl (by decide) rfl (hq _ qw323) (fun _ h9 => h9) dX6_copy_108 eq29 ?_
                refine lv_iload_n hx hb dX6_copy_111 rfl (lv_at hl 4 rfl) ?_
                refine lv_aload hx hb dX6_copy_112 (lv_at hl 0 rfl) ?_
                replace h := bd_some h
                obtain ⟨q30, eq30, h⟩ := h
                refine r_getR hx hb hts iw2 hown hK hw q17 0 g22 (by decide) rfl (by decide) rfl (hq _ qw323) (fun _ h9 => h9) dX6_copy_114 eq30 ?_
                refine lv_iload hx hb dX6_copy_117 (lv_at hl 6 rfl) ?_
                refine lv_iload hx hb dX6_copy_119 (lv_at hl 7 rfl) ?_
                replace h := gd_some h
                obtain ⟨g31, h⟩ := h
                refine r_copyi hx hb (hml.trans hl.1.symm) hown (hq _ qw844) (hq _ qw468) (hq _ qw467) (hq _ qw68) hK hw q29 q30 g31 (Nat.le_of_ble_eq_true rfl) (Nat.le_of_ble_eq_true rfl) dX6_copy_121 (fun H locs hw => ?_)
                replace h := lt_some h
                obtain ⟨M32, eM32, h⟩ := h
                rw [← eM32] at hw
                refine lv_iload hx hb dX6_copy_124 (lv_at hl 7 rfl) ?_
                exact r_iret hx hb hr rfl hlocks hZ hK hw h dX6_copy_126
              · replace h := if_some_t c28 h
                exact hb100 _ _ h _ _ _ hw (lv_sub hl [2] rfl)
          · replace h := if_some_f c24 h
            refine lv_aload_n hx hb dX6_copy_71 rfl (lv_at hl 2 rfl) ?_
            refine lv_iconst (v := (2 : Int32)) hx hb dX6_copy_72 (by decide) ?_
            replace h := bd_some h
            obtain ⟨r33, er33, h⟩ := h
            refine r_callVi (As := [.int (2 : Int32)]) (rest := []) hF (c_X6_finding l D cy ad adK adV r21.1 o0 (2 : Int32) r33 er33) (gW_goodV hcm qw373 qw370 qw372 qw0 qw60) hdX6_finding rfl ⟨Nat.le_of_ble_eq_true rfl, Nat.le_of_ble_eq_true rfl⟩ rfl rfl hZ hK hw g11 (by decide) rfl rfl hl.1 rfl (Nat.le_of_ble_eq_true rfl) ⟨Nat.zero_le _, Nat.zero_le _⟩ dX6_copy_73 (fun H locs hw => ?_)
            exact r_iret hx hb hr rfl hlocks hZ hK hw h dX6_copy_76
        · replace h := if_some_f c23 h
          exact hb52 _ _ h _ _ _ hw (lv_sub hl [2] rfl)
    · replace h := if_some_t c10 h
      exact hb14 _ _ h _ _ _ hw (lv_sub hl [0] rfl)
theorem dX6_load_0 : decode cX6_load 0 = .ok (.iload_n 1, 1) := by decide +kernel
theorem dX6_load_1 : decode cX6_load 1 = .ok (.invokestatic 260, 3) := by decide +kernel
theorem dX6_load_4 : decode cX6_load 4 = .ok (.ifCond .ne 9, 3) := by decide +kernel
theorem dX6_load_7 : decode cX6_load 7 = .ok (.aload_n 0, 1) := by decide +kernel
theorem dX6_load_8 : decode cX6_load 8 = .ok (.iconst 0, 1) := by decide +kernel
theorem dX6_load_9 : decode cX6_load 9 = .ok (.invokevirtual 59, 3) := by decide +kernel
theorem dX6_load_12 : decode cX6_load 12 = .ok (.ireturn, 1) := by decide +kernel
theorem dX6_load_13 : decode cX6_load 13 = .ok (.aload_n 0, 1) := by decide +kernel
theorem dX6_load_14 : decode cX6_load 14 = .ok (.getfield 43, 3) := by decide +kernel
theorem dX6_load_17 : decode cX6_load 17 = .ok (.iload_n 1, 1) := by decide +kernel
theorem dX6_load_18 : decode cX6_load 18 = .ok (.aaload, 1) := by decide +kernel
theorem dX6_load_19 : decode cX6_load 19 = .ok (.astore_n 2, 1) := by decide +kernel
theorem dX6_load_20 : decode cX6_load 20 = .ok (.aload_n 2, 1) := by decide +kernel
theorem dX6_load_21 : decode cX6_load 21 = .ok (.invokevirtual 269, 3) := by decide +kernel
theorem dX6_load_24 : decode cX6_load 24 = .ok (.ifCond .eq 9, 3) := by decide +kernel
theorem dX6_load_27 : decode cX6_load 27 = .ok (.aload_n 0, 1) := by decide +kernel
theorem dX6_load_28 : decode cX6_load 28 = .ok (.iconst 5, 1) := by decide +kernel
theorem dX6_load_29 : decode cX6_load 29 = .ok (.invokevirtual 59, 3) := by decide +kernel
theorem dX6_load_32 : decode cX6_load 32 = .ok (.ireturn, 1) := by decide +kernel
theorem dX6_load_33 : decode cX6_load 33 = .ok (.iconst 0, 1) := by decide +kernel
theorem dX6_load_34 : decode cX6_load 34 = .ok (.istore_n 3, 1) := by decide +kernel
theorem dX6_load_35 : decode cX6_load 35 = .ok (.iload_n 3, 1) := by decide +kernel
theorem dX6_load_36 : decode cX6_load 36 = .ok (.aload_n 2, 1) := by decide +kernel
theorem dX6_load_37 : decode cX6_load 37 = .ok (.getfield 266, 3) := by decide +kernel
theorem dX6_load_40 : decode cX6_load 40 = .ok (.if_icmp .ge 39, 3) := by decide +kernel
theorem dX6_load_43 : decode cX6_load 43 = .ok (.aload_n 0, 1) := by decide +kernel
theorem dX6_load_44 : decode cX6_load 44 = .ok (.getfield 10, 3) := by decide +kernel
theorem dX6_load_47 : decode cX6_load 47 = .ok (.aload_n 2, 1) := by decide +kernel
theorem dX6_load_48 : decode cX6_load 48 = .ok (.getfield 281, 3) := by decide +kernel
theorem dX6_load_51 : decode cX6_load 51 = .ok (.iload_n 3, 1) := by decide +kernel
theorem dX6_load_52 : decode cX6_load 52 = .ok (.iaload, 1) := by decide +kernel
theorem dX6_load_53 : decode cX6_load 53 = .ok (.invokevirtual 290, 3) := by decide +kernel
theorem dX6_load_56 : decode cX6_load 56 = .ok (.ifCond .eq 23, 3) := by decide +kernel
theorem dX6_load_59 : decode cX6_load 59 = .ok (.aload_n 0, 1) := by decide +kernel
theorem dX6_load_60 : decode cX6_load 60 = .ok (.getfield 10, 3) := by decide +kernel
theorem dX6_load_63 : decode cX6_load 63 = .ok (.aload_n 2, 1) := by decide +kernel
theorem dX6_load_64 : decode cX6_load 64 = .ok (.getfield 281, 3) := by decide +kernel
theorem dX6_load_67 : decode cX6_load 67 = .ok (.iload_n 3, 1) := by decide +kernel
theorem dX6_load_68 : decode cX6_load 68 = .ok (.iaload, 1) := by decide +kernel
theorem dX6_load_69 : decode cX6_load 69 = .ok (.invokevirtual 176, 3) := by decide +kernel
theorem dX6_load_72 : decode cX6_load 72 = .ok (.pop, 1) := by decide +kernel
theorem dX6_load_73 : decode cX6_load 73 = .ok (.iinc 3 1, 3) := by decide +kernel
theorem dX6_load_76 : decode cX6_load 76 = .ok (.goto (-41), 3) := by decide +kernel
theorem dX6_load_79 : decode cX6_load 79 = .ok (.iload_n 3, 1) := by decide +kernel
theorem dX6_load_80 : decode cX6_load 80 = .ok (.ireturn, 1) := by decide +kernel
set_option maxHeartbeats 4000000 in
set_option maxRecDepth 100000 in
theorem c_X6_load (l : Launch) (D : va_G) (cy : Nat → ClassId) (ad adK adV : Nat → Nat) (M : Mm) (o0 : Nat) (a1 : Int32) (res : Mm × Int32) (h : f_X6_load M o0 a1 = some res) : Met l yX6_load (wU yX6_load cX6_load 4 (some .int)) rmX6_load (va_Pc [.ref (ad o0), .int a1] (Pre D cy shX ad nX adK adV M)) (va_Qi (fun r (M2 : Mm) => r = res.2 ∧ M2 = res.1) (Pre D cy shX ad nX adK adV) (Aw ad nX)) 0 0 (Aw ad nX) := by
  refine Met.ofW (cc := cX6_load) (maxL := 4) (ret := (some .int)) (by decide) rfl ?_
  intro p e s m args below meth c s₁ B hml hv
  obtain ⟨hargs, hPre⟩ := hv
  have hx := B.exec
  have hb := B.bytes
  have hr := B.returns
  have hts := atoms_spec (ws := wU yX6_load cX6_load 4 (some .int)) B.pre
  have hq : ∀ w ∈ gW, w.before args s = true := fun w hw => hts w (List.mem_cons_of_mem _ hw)
  have hcm : ∀ w ∈ gW, w ∈ wU yX6_load cX6_load 4 (some .int) := fun w hw => List.mem_cons_of_mem _ hw
  have hown : s.vm.findClass RX6 = some m.cls := findClass_of_methodNamed B.named
  have hlocks := B.notSynchronized
  have hF : CallFix p m c cX6_load 4 s args (wU yX6_load cX6_load 4 (some .int)) RX6 := ⟨hx, hb, hml, hown, hts⟩
  have hK := hPre.2.1
  have hZ := hPre.2.2.2
  have hw : Wd D cy shX ad nX (Aw ad nX) s.heap M s.heap [] := ⟨hPre.1, hPre.2.2.1, va_S.rf⟩
  have iw2 : ∀ w ∈ u_ws RX2 TX2 3, w ∈ wU yX6_load cX6_load 4 (some .int) := fun w hw => List.mem_cons_of_mem _ (iX2 w hw)
  have iw6 : ∀ w ∈ u_ws RX6 TX6 8, w ∈ wU yX6_load cX6_load 4 (some .int) := fun w hw => List.mem_cons_of_mem _ (iX6 w hw)
  rw [show entryFrame m args 4 = entryFrame m ([.ref (ad o0), .int a1] : List Value).toArray 4 from by rw [hargs]]
  have hl := lv_entry ([.ref (ad o0), .int a1]) (n := 4) (Nat.le_of_ble_eq_true rfl)
  rw [lg_entry_eq]
  generalize (lg_sl ([.ref (ad o0), .int a1]) ++ List.replicate (4 - (lg_sl ([.ref (ad o0), .int a1])).length) Slot.unset).toArray = ls at hl ⊢
  have hl : lv_has ls 4 [(0, .ref (ad o0)), (1, .int a1)] := hl
  have hb35 : ∀ (nn : Nat), ∀ (M : Mm) (x0 : Nat) (x2 : Nat) (x3 : Int32), f_X6_load_b35 nn M x0 x2 x3 = some res → ∀ (H : Heap) (locs : List Loc) (ls : Array Slot), Wd D cy shX ad nX (Aw ad nX) s.heap M H locs → lv_has ls 4 [(0, .ref (ad x0)), (2, .ref (ad x2)), (3, .int x3)] → W p l e (headSpec (wU yX6_load cX6_load 4 (some .int)) rmX6_load).room s m args below meth c H locs 0 0 (QI D cy shX ad nX adK adV below args s res) (F0 m 35 ls []) := by
    intro nn
    induction nn with
    | zero => intro M x0 x2 x3 h; simp [f_X6_load_b35] at h
    | succ nn ih =>
      intro M x0 x2 x3 h H locs ls hw hl
      unfold f_X6_load_b35 at h
      refine lv_iload_n hx hb dX6_load_35 rfl (lv_at hl 2 rfl) ?_
      refine lv_aload_n hx hb dX6_load_36 rfl (lv_at hl 1 rfl) ?_
      replace h := gd_some h
      obtain ⟨g1, h⟩ := h
      refine r_getI hx hb hts iw2 hown hK hw x2 2 g1 (by decide) rfl (by decide) rfl (hq _ qw327) (fun _ h9 => h9) dX6_load_37 ?_
      refine lv_icmp_ge (tgt := 79) hx hb dX6_load_40 (by decide) (fun c2 => ?_) (fun c2 => ?_)
      · replace h := if_some_t c2 h
        refine lv_iload_n hx hb dX6_load_79 rfl (lv_at hl 2 rfl) ?_
        exact r_iret hx hb hr rfl hlocks hZ hK hw h dX6_load_80
      · replace h := if_some_f c2 h
        refine lv_aload_n hx hb dX6_load_43 rfl (lv_at hl 0 rfl) ?_
        replace h := gd_some h
        obtain ⟨g3, h⟩ := h
        replace h := bd_some h
        obtain ⟨q4, eq4, h⟩ := h
        refine r_getR hx hb hts iw6 hown hK hw x0 0 g3 (by decide) rfl (by decide) rfl (hq _ qw335) (fun _ h9 => h9) dX6_load_44 eq4 ?_
        refine lv_aload_n hx hb dX6_load_47 rfl (lv_at hl 1 rfl) ?_
        replace h := bd_some h
        obtain ⟨q5, eq5, h⟩ := h
        refine r_getR hx hb hts iw2 hown hK hw x2 0 g1 (by decide) rfl (by decide) rfl (hq _ qw323) (fun _ h9 => h9) dX6_load_48 eq5 ?_
        refine lv_iload_n hx hb dX6_load_51 rfl (lv_at hl 2 rfl) ?_
        replace h := gd_some h
        obtain ⟨g6, h⟩ := h
        refine r_iald hx hb hK hw q5 g6 dX6_load_52 ?_
        replace h := gd_some h
        obtain ⟨g8, h⟩ := h
        replace h := bd_some h
        obtain ⟨r7, er7, h⟩ := h
        refine r_callVi (As := [.int (M.1 q5 x3.toNatClampNeg)]) (rest := []) hF (c_X1_canBeWonBy l D cy ad adK adV M q4 (M.1 q5 x3.toNatClampNeg) r7 er7) (gW_goodV hcm qw852 qw849 qw850 qw851 qw61) hdX1_canBeWonBy rfl ⟨Nat.le_of_ble_eq_true rfl, Nat.le_of_ble_eq_true rfl⟩ rfl rfl hZ hK hw g8 (by decide) rfl rfl hl.1 rfl (Nat.le_of_ble_eq_true rfl) ⟨Nat.zero_le _, Nat.zero_le _⟩ dX6_load_53 (fun H locs hw => ?_)
        refine lv_if_eq (tgt := 79) hx hb dX6_load_56 (by decide) (fun c9 => ?_) (fun c9 => ?_)
        · replace h := if_some_t c9 h
          refine lv_iload_n hx hb dX6_load_79 rfl (lv_at hl 2 rfl) ?_
          exact r_iret hx hb hr rfl hlocks hZ hK hw h dX6_load_80
        · replace h := if_some_f c9 h
          refine lv_aload_n hx hb dX6_load_59 rfl (lv_at hl 0 rfl) ?_
          replace h := bd_some h
          obtain ⟨q10, eq10, h⟩ := h
          refine r_getR hx hb hts iw6 hown hK hw x0 0 g3 (by decide) rfl (by decide) rfl (hq _ qw335) (fun _ h9 => h9) dX6_load_60 eq10 ?_
          refine lv_aload_n hx hb dX6_load_63 rfl (lv_at hl 1 rfl) ?_
          replace h := bd_some h
          obtain ⟨q11, eq11, h⟩ := h
          refine r_getR hx hb hts iw2 hown hK hw x2 0 g1 (by decide) rfl (by decide) rfl (hq _ qw323) (fun _ h9 => h9) dX6_load_64 eq11 ?_
          refine lv_iload_n hx hb dX6_load_67 rfl (lv_at hl 2 rfl) ?_
          replace h := gd_some h
          obtain ⟨g12, h⟩ := h
          refine r_iald hx hb hK hw q11 g12 dX6_load_68 ?_
          replace h := gd_some h
          obtain ⟨g14, h⟩ := h
          replace h := bd_some h
          obtain ⟨r13, er13, h⟩ := h
          refine r_callVi (As := [.int (r7.1.1 q11 x3.toNatClampNeg)]) (rest := []) hF (c_X1_playWonBy l D cy ad adK adV r7.1 q10 (r7.1.1 q11 x3.toNatClampNeg) r13 er13) (gW_goodV hcm qw622 qw619 qw620 qw621 qw61) hdX1_playWonBy rfl ⟨Nat.le_of_ble_eq_true rfl, Nat.le_of_ble_eq_true rfl⟩ rfl rfl hZ hK hw g14 (by decide) rfl rfl hl.1 rfl (Nat.le_of_ble_eq_true rfl) ⟨Nat.zero_le _, Nat.zero_le _⟩ dX6_load_69 (fun H locs hw => ?_)
          refine lv_pop hx hb dX6_load_72 rfl ?_
          refine lv_iinc (v := x3 + (1 : Int32)) (lv' := [(3, .int (x3 + (1 : Int32))), (0, .ref (ad x0)), (2, .ref (ad x2))]) hx hb dX6_load_73 hl (k := 2) rfl (congrArg (fun z => x3 + z) (by decide)) (by decide) rfl (fun ls hl => ?_)
          refine lv_goto (tgt := 35) hx hb dX6_load_76 (by decide) ?_
          exact ih _ _ _ _ h _ _ _ hw (lv_sub hl [1, 2, 0] rfl)
  unfold f_X6_load at h
  refine lv_iload_n hx hb dX6_load_0 rfl (lv_at hl 1 rfl) ?_
  replace h := bd_some h
  obtain ⟨r15, er15, h⟩ := h
  refine r_callSi (As := [.int a1]) (rest := []) hF (c_X6_isSheet l D cy ad adK adV M a1 r15 er15) (gW_goodS hcm qw819 qw817 qw818 qw60) hdX6_isSheet ⟨Nat.le_of_ble_eq_true rfl, Nat.le_of_ble_eq_true rfl⟩ rfl rfl hZ hK hw rfl hl.1 rfl (Nat.le_of_ble_eq_true rfl) ⟨Nat.zero_le _, Nat.zero_le _⟩ dX6_load_1 (fun H locs hw => ?_)
  refine lv_if_ne (tgt := 13) hx hb dX6_load_4 (by decide) (fun c16 => ?_) (fun c16 => ?_)
  · replace h := if_some_f c16 h
    refine lv_aload_n hx hb dX6_load_13 rfl (lv_at hl 0 rfl) ?_
    replace h := gd_some h
    obtain ⟨g17, h⟩ := h
    replace h := bd_some h
    obtain ⟨q18, eq18, h⟩ := h
    refine r_getR hx hb hts iw6 hown hK hw o0 6 g17 (by decide) rfl (by decide) rfl (hq _ qw341) (fun _ h9 => h9) dX6_load_14 eq18 ?_
    refine lv_iload_n hx hb dX6_load_17 rfl (lv_at hl 1 rfl) ?_
    replace h := gd_some h
    obtain ⟨g19, h⟩ := h
    replace h := bd_some h
    obtain ⟨q20, eq20, h⟩ := h
    refine r_aald hx hb hK hw q18 4 (by decide) rfl g19 dX6_load_18 eq20 ?_
    refine lv_astore_n (lv' := [(2, .ref (ad q20)), (0, .ref (ad o0)), (1, .int a1)]) hx hb dX6_load_19 rfl hl (by decide) rfl (fun ls hl => ?_)
    refine lv_aload_n hx hb dX6_load_20 rfl (lv_at hl 0 rfl) ?_
    replace h := gd_some h
    obtain ⟨g22, h⟩ := h
    replace h := bd_some h
    obtain ⟨r21, er21, h⟩ := h
    refine r_callVi (As := []) (rest := []) hF (c_X2_isMissing l D cy ad adK adV r15.1 q20 r21 er21) (gW_goodV hcm qw831 qw828 qw829 qw830 qw66) hdX2_isMissing rfl ⟨Nat.le_of_ble_eq_true rfl, Nat.le_of_ble_eq_true rfl⟩ rfl rfl hZ hK hw g22 (by decide) rfl rfl hl.1 rfl (Nat.le_of_ble_eq_true rfl) ⟨Nat.zero_le _, Nat.zero_le _⟩ dX6_load_21 (fun H locs hw => ?_)
    refine lv_if_eq (tgt := 33) hx hb dX6_load_24 (by decide) (fun c23 => ?_) (fun c23 => ?_)
    · replace h := if_some_t c23 h
      refine lv_iconst (v := (0 : Int32)) hx hb dX6_load_33 (by decide) ?_
      refine lv_istore_n (lv' := [(3, .int (0 : Int32)), (2, .ref (ad q20)), (0, .ref (ad o0)), (1, .int a1)]) hx hb dX6_load_34 rfl hl (by decide) rfl (fun ls hl => ?_)
      exact hb35 1000 _ _ _ _ h _ _ _ hw (lv_sub hl [2, 1, 0] rfl)
    · replace h := if_some_f c23 h
      refine lv_aload_n hx hb dX6_load_27 rfl (lv_at hl 1 rfl) ?_
      refine lv_iconst (v := (5 : Int32)) hx hb dX6_load_28 (by decide) ?_
      replace h := bd_some h
      obtain ⟨r24, er24, h⟩ := h
      refine r_callVi (As := [.int (5 : Int32)]) (rest := []) hF (c_X6_finding l D cy ad adK adV r21.1 o0 (5 : Int32) r24 er24) (gW_goodV hcm qw373 qw370 qw372 qw0 qw60) hdX6_finding rfl ⟨Nat.le_of_ble_eq_true rfl, Nat.le_of_ble_eq_true rfl⟩ rfl rfl hZ hK hw g17 (by decide) rfl rfl hl.1 rfl (Nat.le_of_ble_eq_true rfl) ⟨Nat.zero_le _, Nat.zero_le _⟩ dX6_load_29 (fun H locs hw => ?_)
      exact r_iret hx hb hr rfl hlocks hZ hK hw h dX6_load_32
  · replace h := if_some_t c16 h
    refine lv_aload_n hx hb dX6_load_7 rfl (lv_at hl 0 rfl) ?_
    refine lv_iconst (v := (0 : Int32)) hx hb dX6_load_8 (by decide) ?_
    replace h := gd_some h
    obtain ⟨g26, h⟩ := h
    replace h := bd_some h
    obtain ⟨r25, er25, h⟩ := h
    refine r_callVi (As := [.int (0 : Int32)]) (rest := []) hF (c_X6_finding l D cy ad adK adV r15.1 o0 (0 : Int32) r25 er25) (gW_goodV hcm qw373 qw370 qw372 qw0 qw60) hdX6_finding rfl ⟨Nat.le_of_ble_eq_true rfl, Nat.le_of_ble_eq_true rfl⟩ rfl rfl hZ hK hw g26 (by decide) rfl rfl hl.1 rfl (Nat.le_of_ble_eq_true rfl) ⟨Nat.zero_le _, Nat.zero_le _⟩ dX6_load_9 (fun H locs hw => ?_)
    exact r_iret hx hb hr rfl hlocks hZ hK hw h dX6_load_12
theorem dX6_judge_0 : decode cX6_judge 0 = .ok (.iload_n 1, 1) := by decide +kernel
theorem dX6_judge_1 : decode cX6_judge 1 = .ok (.invokestatic 260, 3) := by decide +kernel
theorem dX6_judge_4 : decode cX6_judge 4 = .ok (.ifCond .ne 9, 3) := by decide +kernel
theorem dX6_judge_7 : decode cX6_judge 7 = .ok (.aload_n 0, 1) := by decide +kernel
theorem dX6_judge_8 : decode cX6_judge 8 = .ok (.iconst 0, 1) := by decide +kernel
theorem dX6_judge_9 : decode cX6_judge 9 = .ok (.invokevirtual 59, 3) := by decide +kernel
theorem dX6_judge_12 : decode cX6_judge 12 = .ok (.ireturn, 1) := by decide +kernel
theorem dX6_judge_13 : decode cX6_judge 13 = .ok (.aload_n 0, 1) := by decide +kernel
theorem dX6_judge_14 : decode cX6_judge 14 = .ok (.getfield 43, 3) := by decide +kernel
theorem dX6_judge_17 : decode cX6_judge 17 = .ok (.iload_n 1, 1) := by decide +kernel
theorem dX6_judge_18 : decode cX6_judge 18 = .ok (.aaload, 1) := by decide +kernel
theorem dX6_judge_19 : decode cX6_judge 19 = .ok (.astore_n 2, 1) := by decide +kernel
theorem dX6_judge_20 : decode cX6_judge 20 = .ok (.aload_n 2, 1) := by decide +kernel
theorem dX6_judge_21 : decode cX6_judge 21 = .ok (.invokevirtual 269, 3) := by decide +kernel
theorem dX6_judge_24 : decode cX6_judge 24 = .ok (.ifCond .eq 9, 3) := by decide +kernel
theorem dX6_judge_27 : decode cX6_judge 27 = .ok (.aload_n 0, 1) := by decide +kernel
theorem dX6_judge_28 : decode cX6_judge 28 = .ok (.iconst 5, 1) := by decide +kernel
theorem dX6_judge_29 : decode cX6_judge 29 = .ok (.invokevirtual 59, 3) := by decide +kernel
theorem dX6_judge_32 : decode cX6_judge 32 = .ok (.ireturn, 1) := by decide +kernel
theorem dX6_judge_33 : decode cX6_judge 33 = .ok (.aload_n 0, 1) := by decide +kernel
theorem dX6_judge_34 : decode cX6_judge 34 = .ok (.getfield 31, 3) := by decide +kernel
theorem dX6_judge_37 : decode cX6_judge 37 = .ok (.aload_n 0, 1) := by decide +kernel
theorem dX6_judge_38 : decode cX6_judge 38 = .ok (.getfield 10, 3) := by decide +kernel
theorem dX6_judge_41 : decode cX6_judge 41 = .ok (.invokevirtual 151, 3) := by decide +kernel
theorem dX6_judge_44 : decode cX6_judge 44 = .ok (.iconst 0, 1) := by decide +kernel
theorem dX6_judge_45 : decode cX6_judge 45 = .ok (.istore_n 3, 1) := by decide +kernel
theorem dX6_judge_46 : decode cX6_judge 46 = .ok (.iload_n 3, 1) := by decide +kernel
theorem dX6_judge_47 : decode cX6_judge 47 = .ok (.aload_n 2, 1) := by decide +kernel
theorem dX6_judge_48 : decode cX6_judge 48 = .ok (.getfield 266, 3) := by decide +kernel
theorem dX6_judge_51 : decode cX6_judge 51 = .ok (.if_icmp .ge 73, 3) := by decide +kernel
theorem dX6_judge_54 : decode cX6_judge 54 = .ok (.aload_n 0, 1) := by decide +kernel
theorem dX6_judge_55 : decode cX6_judge 55 = .ok (.getfield 31, 3) := by decide +kernel
theorem dX6_judge_58 : decode cX6_judge 58 = .ok (.aload_n 2, 1) := by decide +kernel
theorem dX6_judge_59 : decode cX6_judge 59 = .ok (.getfield 281, 3) := by decide +kernel
theorem dX6_judge_62 : decode cX6_judge 62 = .ok (.iload_n 3, 1) := by decide +kernel
theorem dX6_judge_63 : decode cX6_judge 63 = .ok (.iaload, 1) := by decide +kernel
theorem dX6_judge_64 : decode cX6_judge 64 = .ok (.invokevirtual 290, 3) := by decide +kernel
theorem dX6_judge_67 : decode cX6_judge 67 = .ok (.ifCond .ne 7, 3) := by decide +kernel
theorem dX6_judge_70 : decode cX6_judge 70 = .ok (.iconst 1, 1) := by decide +kernel
theorem dX6_judge_71 : decode cX6_judge 71 = .ok (.iload_n 3, 1) := by decide +kernel
theorem dX6_judge_72 : decode cX6_judge 72 = .ok (.iadd, 1) := by decide +kernel
theorem dX6_judge_73 : decode cX6_judge 73 = .ok (.ireturn, 1) := by decide +kernel
theorem dX6_judge_74 : decode cX6_judge 74 = .ok (.aload_n 0, 1) := by decide +kernel
theorem dX6_judge_75 : decode cX6_judge 75 = .ok (.getfield 31, 3) := by decide +kernel
theorem dX6_judge_78 : decode cX6_judge 78 = .ok (.aload_n 2, 1) := by decide +kernel
theorem dX6_judge_79 : decode cX6_judge 79 = .ok (.getfield 281, 3) := by decide +kernel
theorem dX6_judge_82 : decode cX6_judge 82 = .ok (.iload_n 3, 1) := by decide +kernel
theorem dX6_judge_83 : decode cX6_judge 83 = .ok (.iaload, 1) := by decide +kernel
theorem dX6_judge_84 : decode cX6_judge 84 = .ok (.invokevirtual 176, 3) := by decide +kernel
theorem dX6_judge_87 : decode cX6_judge 87 = .ok (.istore 4, 2) := by decide +kernel
theorem dX6_judge_89 : decode cX6_judge 89 = .ok (.iload_n 3, 1) := by decide +kernel
theorem dX6_judge_90 : decode cX6_judge 90 = .ok (.iconst 1, 1) := by decide +kernel
theorem dX6_judge_91 : decode cX6_judge 91 = .ok (.iadd, 1) := by decide +kernel
theorem dX6_judge_92 : decode cX6_judge 92 = .ok (.aload_n 2, 1) := by decide +kernel
theorem dX6_judge_93 : decode cX6_judge 93 = .ok (.getfield 266, 3) := by decide +kernel
theorem dX6_judge_96 : decode cX6_judge 96 = .ok (.if_icmp .ge 16, 3) := by decide +kernel
theorem dX6_judge_99 : decode cX6_judge 99 = .ok (.aload_n 2, 1) := by decide +kernel
theorem dX6_judge_100 : decode cX6_judge 100 = .ok (.getfield 281, 3) := by decide +kernel
theorem dX6_judge_103 : decode cX6_judge 103 = .ok (.iload_n 3, 1) := by decide +kernel
theorem dX6_judge_104 : decode cX6_judge 104 = .ok (.iconst 1, 1) := by decide +kernel
theorem dX6_judge_105 : decode cX6_judge 105 = .ok (.iadd, 1) := by decide +kernel
theorem dX6_judge_106 : decode cX6_judge 106 = .ok (.iaload, 1) := by decide +kernel
theorem dX6_judge_107 : decode cX6_judge 107 = .ok (.iload 4, 2) := by decide +kernel
theorem dX6_judge_109 : decode cX6_judge 109 = .ok (.if_icmp .eq 9, 3) := by decide +kernel
theorem dX6_judge_112 : decode cX6_judge 112 = .ok (.iconst 1, 1) := by decide +kernel
theorem dX6_judge_113 : decode cX6_judge 113 = .ok (.iload_n 3, 1) := by decide +kernel
theorem dX6_judge_114 : decode cX6_judge 114 = .ok (.iadd, 1) := by decide +kernel
theorem dX6_judge_115 : decode cX6_judge 115 = .ok (.iconst 1, 1) := by decide +kernel
theorem dX6_judge_116 : decode cX6_judge 116 = .ok (.iadd, 1) := by decide +kernel
theorem dX6_judge_117 : decode cX6_judge 117 = .ok (.ireturn, 1) := by decide +kernel
theorem dX6_judge_118 : decode cX6_judge 118 = .ok (.iinc 3 2, 3) := by decide +kernel
theorem dX6_judge_121 : decode cX6_judge 121 = .ok (.goto (-75), 3) := by decide +kernel
theorem dX6_judge_124 : decode cX6_judge 124 = .ok (.iconst 0, 1) := by decide +kernel
theorem dX6_judge_125 : decode cX6_judge 125 = .ok (.ireturn, 1) := by decide +kernel
set_option maxHeartbeats 4000000 in
set_option maxRecDepth 100000 in
theorem c_X6_judge (l : Launch) (D : va_G) (cy : Nat → ClassId) (ad adK adV : Nat → Nat) (M : Mm) (o0 : Nat) (a1 : Int32) (res : Mm × Int32) (h : f_X6_judge M o0 a1 = some res) : Met l yX6_judge (wU yX6_judge cX6_judge 5 (some .int)) rmX6_judge (va_Pc [.ref (ad o0), .int a1] (Pre D cy shX ad nX adK adV M)) (va_Qi (fun r (M2 : Mm) => r = res.2 ∧ M2 = res.1) (Pre D cy shX ad nX adK adV) (Aw ad nX)) 0 0 (Aw ad nX) := by
  refine Met.ofW (cc := cX6_judge) (maxL := 5) (ret := (some .int)) (by decide) rfl ?_
  intro p e s m args below meth c s₁ B hml hv
  obtain ⟨hargs, hPre⟩ := hv
  have hx := B.exec
  have hb := B.bytes
  have hr := B.returns
  have hts := atoms_spec (ws := wU yX6_judge cX6_judge 5 (some .int)) B.pre
  have hq : ∀ w ∈ gW, w.before args s = true := fun w hw => hts w (List.mem_cons_of_mem _ hw)
  have hcm : ∀ w ∈ gW, w ∈ wU yX6_judge cX6_judge 5 (some .int) := fun w hw => List.mem_cons_of_mem _ hw
  have hown : s.vm.findClass RX6 = some m.cls := findClass_of_methodNamed B.named
  have hlocks := B.notSynchronized
  have hF : CallFix p m c cX6_judge 5 s args (wU yX6_judge cX6_judge 5 (some .int)) RX6 := ⟨hx, hb, hml, hown, hts⟩
  have hK := hPre.2.1
  have hZ := hPre.2.2.2
  have hw : Wd D cy shX ad nX (Aw ad nX) s.heap M s.heap [] := ⟨hPre.1, hPre.2.2.1, va_S.rf⟩
  have iw2 : ∀ w ∈ u_ws RX2 TX2 3, w ∈ wU yX6_judge cX6_judge 5 (some .int) := fun w hw => List.mem_cons_of_mem _ (iX2 w hw)
  have iw6 : ∀ w ∈ u_ws RX6 TX6 8, w ∈ wU yX6_judge cX6_judge 5 (some .int) := fun w hw => List.mem_cons_of_mem _ (iX6 w hw)
  rw [show entryFrame m args 5 = entryFrame m ([.ref (ad o0), .int a1] : List Value).toArray 5 from by rw [hargs]]
  have hl := lv_entry ([.ref (ad o0), .int a1]) (n := 5) (Nat.le_of_ble_eq_true rfl)
  rw [lg_entry_eq]
  generalize (lg_sl ([.ref (ad o0), .int a1]) ++ List.replicate (5 - (lg_sl ([.ref (ad o0), .int a1])).length) Slot.unset).toArray = ls at hl ⊢
  have hl : lv_has ls 5 [(0, .ref (ad o0)), (1, .int a1)] := hl
  have hb112 : ∀ (M : Mm) (x3 : Int32), f_X6_judge_b112 M x3 = some res → ∀ (H : Heap) (locs : List Loc) (ls : Array Slot), Wd D cy shX ad nX (Aw ad nX) s.heap M H locs → lv_has ls 5 [(3, .int x3)] → W p l e (headSpec (wU yX6_judge cX6_judge 5 (some .int)) rmX6_judge).room s m args below meth c H locs 0 0 (QI D cy shX ad nX adK adV below args s res) (F0 m 112 ls []) := by
    intro M x3 h H locs ls hw hl
    unfold f_X6_judge_b112 at h
    refine lv_iconst (v := (1 : Int32)) hx hb dX6_judge_112 (by decide) ?_
    refine lv_iload_n hx hb dX6_judge_113 rfl (lv_at hl 0 rfl) ?_
    refine lv_iadd hx hb dX6_judge_114 ?_
    refine lv_iconst (v := (1 : Int32)) hx hb dX6_judge_115 (by decide) ?_
    refine lv_iadd hx hb dX6_judge_116 ?_
    exact r_iret hx hb hr rfl hlocks hZ hK hw h dX6_judge_117
  have hb46 : ∀ (nn : Nat), ∀ (M : Mm) (x0 : Nat) (x2 : Nat) (x3 : Int32), f_X6_judge_b46 nn M x0 x2 x3 = some res → ∀ (H : Heap) (locs : List Loc) (ls : Array Slot), Wd D cy shX ad nX (Aw ad nX) s.heap M H locs → lv_has ls 5 [(0, .ref (ad x0)), (2, .ref (ad x2)), (3, .int x3)] → W p l e (headSpec (wU yX6_judge cX6_judge 5 (some .int)) rmX6_judge).room s m args below meth c H locs 0 0 (QI D cy shX ad nX adK adV below args s res) (F0 m 46 ls []) := by
    intro nn
    induction nn with
    | zero => intro M x0 x2 x3 h; simp [f_X6_judge_b46] at h
    | succ nn ih =>
      intro M x0 x2 x3 h H locs ls hw hl
      unfold f_X6_judge_b46 at h
      refine lv_iload_n hx hb dX6_judge_46 rfl (lv_at hl 2 rfl) ?_
      refine lv_aload_n hx hb dX6_judge_47 rfl (lv_at hl 1 rfl) ?_
      replace h := gd_some h
      obtain ⟨g1, h⟩ := h
      refine r_getI hx hb hts iw2 hown hK hw x2 2 g1 (by decide) rfl (by decide) rfl (hq _ qw327) (fun _ h9 => h9) dX6_judge_48 ?_
      refine lv_icmp_ge (tgt := 124) hx hb dX6_judge_51 (by decide) (fun c2 => ?_) (fun c2 => ?_)
      · replace h := if_some_t c2 h
        refine lv_iconst (v := (0 : Int32)) hx hb dX6_judge_124 (by decide) ?_
        exact r_iret hx hb hr rfl hlocks hZ hK hw h dX6_judge_125
      · replace h := if_some_f c2 h
        refine lv_aload_n hx hb dX6_judge_54 rfl (lv_at hl 0 rfl) ?_
        replace h := gd_some h
        obtain ⟨g3, h⟩ := h
        replace h := bd_some h
        obtain ⟨q4, eq4, h⟩ := h
        refine r_getR hx hb hts iw6 hown hK hw x0 4 g3 (by decide) rfl (by decide) rfl (hq _ qw339) (fun _ h9 => h9) dX6_judge_55 eq4 ?_
        refine lv_aload_n hx hb dX6_judge_58 rfl (lv_at hl 1 rfl) ?_
        replace h := bd_some h
        obtain ⟨q5, eq5, h⟩ := h
        refine r_getR hx hb hts iw2 hown hK hw x2 0 g1 (by decide) rfl (by decide) rfl (hq _ qw323) (fun _ h9 => h9) dX6_judge_59 eq5 ?_
        refine lv_iload_n hx hb dX6_judge_62 rfl (lv_at hl 2 rfl) ?_
        replace h := gd_some h
        obtain ⟨g6, h⟩ := h
        refine r_iald hx hb hK hw q5 g6 dX6_judge_63 ?_
        replace h := gd_some h
        obtain ⟨g8, h⟩ := h
        replace h := bd_some h
        obtain ⟨r7, er7, h⟩ := h
        refine r_callVi (As := [.int (M.1 q5 x3.toNatClampNeg)]) (rest := []) hF (c_X1_canBeWonBy l D cy ad adK adV M q4 (M.1 q5 x3.toNatClampNeg) r7 er7) (gW_goodV hcm qw852 qw849 qw850 qw851 qw61) hdX1_canBeWonBy rfl ⟨Nat.le_of_ble_eq_true rfl, Nat.le_of_ble_eq_true rfl⟩ rfl rfl hZ hK hw g8 (by decide) rfl rfl hl.1 rfl (Nat.le_of_ble_eq_true rfl) ⟨Nat.zero_le _, Nat.zero_le _⟩ dX6_judge_64 (fun H locs hw => ?_)
        refine lv_if_ne (tgt := 74) hx hb dX6_judge_67 (by decide) (fun c9 => ?_) (fun c9 => ?_)
        · replace h := if_some_f c9 h
          refine lv_aload_n hx hb dX6_judge_74 rfl (lv_at hl 0 rfl) ?_
          replace h := bd_some h
          obtain ⟨q10, eq10, h⟩ := h
          refine r_getR hx hb hts iw6 hown hK hw x0 4 g3 (by decide) rfl (by decide) rfl (hq _ qw339) (fun _ h9 => h9) dX6_judge_75 eq10 ?_
          refine lv_aload_n hx hb dX6_judge_78 rfl (lv_at hl 1 rfl) ?_
          replace h := bd_some h
          obtain ⟨q11, eq11, h⟩ := h
          refine r_getR hx hb hts iw2 hown hK hw x2 0 g1 (by decide) rfl (by decide) rfl (hq _ qw323) (fun _ h9 => h9) dX6_judge_79 eq11 ?_
          refine lv_iload_n hx hb dX6_judge_82 rfl (lv_at hl 2 rfl) ?_
          replace h := gd_some h
          obtain ⟨g12, h⟩ := h
          refine r_iald hx hb hK hw q11 g12 dX6_judge_83 ?_
          replace h := gd_some h
          obtain ⟨g14, h⟩ := h
          replace h := bd_some h
          obtain ⟨r13, er13, h⟩ := h
          refine r_callVi (As := [.int (r7.1.1 q11 x3.toNatClampNeg)]) (rest := []) hF (c_X1_playWonBy l D cy ad adK adV r7.1 q10 (r7.1.1 q11 x3.toNatClampNeg) r13 er13) (gW_goodV hcm qw622 qw619 qw620 qw621 qw61) hdX1_playWonBy rfl ⟨Nat.le_of_ble_eq_true rfl, Nat.le_of_ble_eq_true rfl⟩ rfl rfl hZ hK hw g14 (by decide) rfl rfl hl.1 rfl (Nat.le_of_ble_eq_true rfl) ⟨Nat.zero_le _, Nat.zero_le _⟩ dX6_judge_84 (fun H locs hw => ?_)
          refine lv_istore (lv' := [(4, .int r13.2), (0, .ref (ad x0)), (2, .ref (ad x2)), (3, .int x3)]) hx hb dX6_judge_87 hl (by decide) rfl (fun ls hl => ?_)
          refine lv_iload_n hx hb dX6_judge_89 rfl (lv_at hl 3 rfl) ?_
          refine lv_iconst (v := (1 : Int32)) hx hb dX6_judge_90 (by decide) ?_
          refine lv_iadd hx hb dX6_judge_91 ?_
          refine lv_aload_n hx hb dX6_judge_92 rfl (lv_at hl 2 rfl) ?_
          refine r_getI hx hb hts iw2 hown hK hw x2 2 g1 (by decide) rfl (by decide) rfl (hq _ qw327) (fun _ h9 => h9) dX6_judge_93 ?_
          refine lv_icmp_ge (tgt := 112) hx hb dX6_judge_96 (by decide) (fun c15 => ?_) (fun c15 => ?_)
          · replace h := if_some_t c15 h
            exact hb112 _ _ h _ _ _ hw (lv_sub hl [3] rfl)
          · replace h := if_some_f c15 h
            refine lv_aload_n hx hb dX6_judge_99 rfl (lv_at hl 2 rfl) ?_
            replace h := bd_some h
            obtain ⟨q16, eq16, h⟩ := h
            refine r_getR hx hb hts iw2 hown hK hw x2 0 g1 (by decide) rfl (by decide) rfl (hq _ qw323) (fun _ h9 => h9) dX6_judge_100 eq16 ?_
            refine lv_iload_n hx hb dX6_judge_103 rfl (lv_at hl 3 rfl) ?_
            refine lv_iconst (v := (1 : Int32)) hx hb dX6_judge_104 (by decide) ?_
            refine lv_iadd hx hb dX6_judge_105 ?_
            replace h := gd_some h
            obtain ⟨g17, h⟩ := h
            refine r_iald hx hb hK hw q16 g17 dX6_judge_106 ?_
            refine lv_iload hx hb dX6_judge_107 (lv_at hl 0 rfl) ?_
            refine lv_icmp_eq (tgt := 118) hx hb dX6_judge_109 (by decide) (fun c18 => ?_) (fun c18 => ?_)
            · replace h := if_some_t c18 h
              refine lv_iinc (v := x3 + (2 : Int32)) (lv' := [(3, .int (x3 + (2 : Int32))), (4, .int r13.2), (0, .ref (ad x0)), (2, .ref (ad x2))]) hx hb dX6_judge_118 hl (k := 3) rfl (congrArg (fun z => x3 + z) (by decide)) (by decide) rfl (fun ls hl => ?_)
              refine lv_goto (tgt := 46) hx hb dX6_judge_121 (by decide) ?_
              exact ih _ _ _ _ h _ _ _ hw (lv_sub hl [2, 3, 0] rfl)
            · replace h := if_some_f c18 h
              exact hb112 _ _ h _ _ _ hw (lv_sub hl [3] rfl)
        · replace h := if_some_t c9 h
          refine lv_iconst (v := (1 : Int32)) hx hb dX6_judge_70 (by decide) ?_
          refine lv_iload_n hx hb dX6_judge_71 rfl (lv_at hl 2 rfl) ?_
          refine lv_iadd hx hb dX6_judge_72 ?_
          exact r_iret hx hb hr rfl hlocks hZ hK hw h dX6_judge_73
  unfold f_X6_judge at h
  refine lv_iload_n hx hb dX6_judge_0 rfl (lv_at hl 1 rfl) ?_
  replace h := bd_some h
  obtain ⟨r19, er19, h⟩ := h
  refine r_callSi (As := [.int a1]) (rest := []) hF (c_X6_isSheet l D cy ad adK adV M a1 r19 er19) (gW_goodS hcm qw819 qw817 qw818 qw60) hdX6_isSheet ⟨Nat.le_of_ble_eq_true rfl, Nat.le_of_ble_eq_true rfl⟩ rfl rfl hZ hK hw rfl hl.1 rfl (Nat.le_of_ble_eq_true rfl) ⟨Nat.zero_le _, Nat.zero_le _⟩ dX6_judge_1 (fun H locs hw => ?_)
  refine lv_if_ne (tgt := 13) hx hb dX6_judge_4 (by decide) (fun c20 => ?_) (fun c20 => ?_)
  · replace h := if_some_f c20 h
    refine lv_aload_n hx hb dX6_judge_13 rfl (lv_at hl 0 rfl) ?_
    replace h := gd_some h
    obtain ⟨g21, h⟩ := h
    replace h := bd_some h
    obtain ⟨q22, eq22, h⟩ := h
    refine r_getR hx hb hts iw6 hown hK hw o0 6 g21 (by decide) rfl (by decide) rfl (hq _ qw341) (fun _ h9 => h9) dX6_judge_14 eq22 ?_
    refine lv_iload_n hx hb dX6_judge_17 rfl (lv_at hl 1 rfl) ?_
    replace h := gd_some h
    obtain ⟨g23, h⟩ := h
    replace h := bd_some h
    obtain ⟨q24, eq24, h⟩ := h
    refine r_aald hx hb hK hw q22 4 (by decide) rfl g23 dX6_judge_18 eq24 ?_
    refine lv_astore_n (lv' := [(2, .ref (ad q24)), (0, .ref (ad o0)), (1, .int a1)]) hx hb dX6_judge_19 rfl hl (by decide) rfl (fun ls hl => ?_)
    refine lv_aload_n hx hb dX6_judge_20 rfl (lv_at hl 0 rfl) ?_
    replace h := gd_some h
    obtain ⟨g26, h⟩ := h
    replace h := bd_some h
    obtain ⟨r25, er25, h⟩ := h
    refine r_callVi (As := []) (rest := []) hF (c_X2_isMissing l D cy ad adK adV r19.1 q24 r25 er25) (gW_goodV hcm qw831 qw828 qw829 qw830 qw66) hdX2_isMissing rfl ⟨Nat.le_of_ble_eq_true rfl, Nat.le_of_ble_eq_true rfl⟩ rfl rfl hZ hK hw g26 (by decide) rfl rfl hl.1 rfl (Nat.le_of_ble_eq_true rfl) ⟨Nat.zero_le _, Nat.zero_le _⟩ dX6_judge_21 (fun H locs hw => ?_)
    refine lv_if_eq (tgt := 33) hx hb dX6_judge_24 (by decide) (fun c27 => ?_) (fun c27 => ?_)
    · replace h := if_some_t c27 h
      refine lv_aload_n hx hb dX6_judge_33 rfl (lv_at hl 1 rfl) ?_
      replace h := bd_some h
      obtain ⟨q28, eq28, h⟩ := h
      refine r_getR hx hb hts iw6 hown hK hw o0 4 g21 (by decide) rfl (by decide) rfl (hq _ qw339) (fun _ h9 => h9) dX6_judge_34 eq28 ?_
      refine lv_aload_n hx hb dX6_judge_37 rfl (lv_at hl 1 rfl) ?_
      replace h := bd_some h
      obtain ⟨q29, eq29, h⟩ := h
      refine r_getR hx hb hts iw6 hown hK hw o0 0 g21 (by decide) rfl (by decide) rfl (hq _ qw335) (fun _ h9 => h9) dX6_judge_38 eq29 ?_
      replace h := gd_some h
      obtain ⟨g31, h⟩ := h
      replace h := bd_some h
      obtain ⟨r30, er30, h⟩ := h
      refine r_callVv (As := [.ref (ad q29)]) (rest := []) hF (c_X1_become l D cy ad adK adV r25.1 q28 q29 r30 er30) (gW_goodV hcm qw457 qw454 qw455 qw456 qw61) hdX1_become rfl ⟨Nat.le_of_ble_eq_true rfl, Nat.le_of_ble_eq_true rfl⟩ rfl rfl hZ hK hw g31 (by decide) rfl rfl hl.1 rfl (Nat.le_of_ble_eq_true rfl) ⟨Nat.zero_le _, Nat.zero_le _⟩ dX6_judge_41 (fun H locs hw => ?_)
      refine lv_iconst (v := (0 : Int32)) hx hb dX6_judge_44 (by decide) ?_
      refine lv_istore_n (lv' := [(3, .int (0 : Int32)), (2, .ref (ad q24)), (0, .ref (ad o0)), (1, .int a1)]) hx hb dX6_judge_45 rfl hl (by decide) rfl (fun ls hl => ?_)
      exact hb46 1000 _ _ _ _ h _ _ _ hw (lv_sub hl [2, 1, 0] rfl)
    · replace h := if_some_f c27 h
      refine lv_aload_n hx hb dX6_judge_27 rfl (lv_at hl 1 rfl) ?_
      refine lv_iconst (v := (5 : Int32)) hx hb dX6_judge_28 (by decide) ?_
      replace h := bd_some h
      obtain ⟨r32, er32, h⟩ := h
      refine r_callVi (As := [.int (5 : Int32)]) (rest := []) hF (c_X6_finding l D cy ad adK adV r25.1 o0 (5 : Int32) r32 er32) (gW_goodV hcm qw373 qw370 qw372 qw0 qw60) hdX6_finding rfl ⟨Nat.le_of_ble_eq_true rfl, Nat.le_of_ble_eq_true rfl⟩ rfl rfl hZ hK hw g21 (by decide) rfl rfl hl.1 rfl (Nat.le_of_ble_eq_true rfl) ⟨Nat.zero_le _, Nat.zero_le _⟩ dX6_judge_29 (fun H locs hw => ?_)
      exact r_iret hx hb hr rfl hlocks hZ hK hw h dX6_judge_32
  · replace h := if_some_t c20 h
    refine lv_aload_n hx hb dX6_judge_7 rfl (lv_at hl 0 rfl) ?_
    refine lv_iconst (v := (0 : Int32)) hx hb dX6_judge_8 (by decide) ?_
    replace h := gd_some h
    obtain ⟨g34, h⟩ := h
    replace h := bd_some h
    obtain ⟨r33, er33, h⟩ := h
    refine r_callVi (As := [.int (0 : Int32)]) (rest := []) hF (c_X6_finding l D cy ad adK adV r19.1 o0 (0 : Int32) r33 er33) (gW_goodV hcm qw373 qw370 qw372 qw0 qw60) hdX6_finding rfl ⟨Nat.le_of_ble_eq_true rfl, Nat.le_of_ble_eq_true rfl⟩ rfl rfl hZ hK hw g34 (by decide) rfl rfl hl.1 rfl (Nat.le_of_ble_eq_true rfl) ⟨Nat.zero_le _, Nat.zero_le _⟩ dX6_judge_9 (fun H locs hw => ?_)
    exact r_iret hx hb hr rfl hlocks hZ hK hw h dX6_judge_12
theorem dX6_image_0 : decode cX6_image 0 = .ok (.aload_n 0, 1) := by decide +kernel
theorem dX6_image_1 : decode cX6_image 1 = .ok (.getfield 16, 3) := by decide +kernel
theorem dX6_image_4 : decode cX6_image 4 = .ok (.aload_n 0, 1) := by decide +kernel
theorem dX6_image_5 : decode cX6_image 5 = .ok (.getfield 10, 3) := by decide +kernel
theorem dX6_image_8 : decode cX6_image 8 = .ok (.invokevirtual 151, 3) := by decide +kernel
theorem dX6_image_11 : decode cX6_image 11 = .ok (.aload_n 0, 1) := by decide +kernel
theorem dX6_image_12 : decode cX6_image 12 = .ok (.iconst 1, 1) := by decide +kernel
theorem dX6_image_13 : decode cX6_image 13 = .ok (.putfield 19, 3) := by decide +kernel
theorem dX6_image_16 : decode cX6_image 16 = .ok (.iconst 1, 1) := by decide +kernel
theorem dX6_image_17 : decode cX6_image 17 = .ok (.ireturn, 1) := by decide +kernel
set_option maxHeartbeats 4000000 in
set_option maxRecDepth 100000 in
theorem c_X6_image (l : Launch) (D : va_G) (cy : Nat → ClassId) (ad adK adV : Nat → Nat) (M : Mm) (o0 : Nat) (res : Mm × Int32) (h : f_X6_image M o0 = some res) : Met l yX6_image (wU yX6_image cX6_image 1 (some .int)) rmX6_image (va_Pc [.ref (ad o0)] (Pre D cy shX ad nX adK adV M)) (va_Qi (fun r (M2 : Mm) => r = res.2 ∧ M2 = res.1) (Pre D cy shX ad nX adK adV) (Aw ad nX)) 0 0 (Aw ad nX) := by
  refine Met.ofW (cc := cX6_image) (maxL := 1) (ret := (some .int)) (by decide) rfl ?_
  intro p e s m args below meth c s₁ B hml hv
  obtain ⟨hargs, hPre⟩ := hv
  have hx := B.exec
  have hb := B.bytes
  have hr := B.returns
  have hts := atoms_spec (ws := wU yX6_image cX6_image 1 (some .int)) B.pre
  have hq : ∀ w ∈ gW, w.before args s = true := fun w hw => hts w (List.mem_cons_of_mem _ hw)
  have hcm : ∀ w ∈ gW, w ∈ wU yX6_image cX6_image 1 (some .int) := fun w hw => List.mem_cons_of_mem _ hw
  have hown : s.vm.findClass RX6 = some m.cls := findClass_of_methodNamed B.named
  have hlocks := B.notSynchronized
  have hF : CallFix p m c cX6_image 1 s args (wU yX6_image cX6_image 1 (some .int)) RX6 := ⟨hx, hb, hml, hown, hts⟩
  have hK := hPre.2.1
  have hZ := hPre.2.2.2
  have hw : Wd D cy shX ad nX (Aw ad nX) s.heap M s.heap [] := ⟨hPre.1, hPre.2.2.1, va_S.rf⟩
  have iw6 : ∀ w ∈ u_ws RX6 TX6 8, w ∈ wU yX6_image cX6_image 1 (some .int) := fun w hw => List.mem_cons_of_mem _ (iX6 w hw)
  rw [show entryFrame m args 1 = entryFrame m ([.ref (ad o0)] : List Value).toArray 1 from by rw [hargs]]
  have hl := lv_entry ([.ref (ad o0)]) (n := 1) (Nat.le_of_ble_eq_true rfl)
  rw [lg_entry_eq]
  generalize (lg_sl ([.ref (ad o0)]) ++ List.replicate (1 - (lg_sl ([.ref (ad o0)])).length) Slot.unset).toArray = ls at hl ⊢
  have hl : lv_has ls 1 [(0, .ref (ad o0))] := hl
  unfold f_X6_image at h
  refine lv_aload_n hx hb dX6_image_0 rfl (lv_at hl 0 rfl) ?_
  replace h := gd_some h
  obtain ⟨g1, h⟩ := h
  replace h := bd_some h
  obtain ⟨q2, eq2, h⟩ := h
  refine r_getR hx hb hts iw6 hown hK hw o0 1 g1 (by decide) rfl (by decide) rfl (hq _ qw336) (fun _ h9 => h9) dX6_image_1 eq2 ?_
  refine lv_aload_n hx hb dX6_image_4 rfl (lv_at hl 0 rfl) ?_
  replace h := bd_some h
  obtain ⟨q3, eq3, h⟩ := h
  refine r_getR hx hb hts iw6 hown hK hw o0 0 g1 (by decide) rfl (by decide) rfl (hq _ qw335) (fun _ h9 => h9) dX6_image_5 eq3 ?_
  replace h := gd_some h
  obtain ⟨g5, h⟩ := h
  replace h := bd_some h
  obtain ⟨r4, er4, h⟩ := h
  refine r_callVv (As := [.ref (ad q3)]) (rest := []) hF (c_X1_become l D cy ad adK adV M q2 q3 r4 er4) (gW_goodV hcm qw457 qw454 qw455 qw456 qw61) hdX1_become rfl ⟨Nat.le_of_ble_eq_true rfl, Nat.le_of_ble_eq_true rfl⟩ rfl rfl hZ hK hw g5 (by decide) rfl rfl hl.1 rfl (Nat.le_of_ble_eq_true rfl) ⟨Nat.zero_le _, Nat.zero_le _⟩ dX6_image_8 (fun H locs hw => ?_)
  refine lv_aload_n hx hb dX6_image_11 rfl (lv_at hl 0 rfl) ?_
  refine lv_iconst (v := (1 : Int32)) hx hb dX6_image_12 (by decide) ?_
  refine r_putI hx hb hts iw6 tyX6 tyX6_ok nmX6 hown hK hw o0 2 g1 (by decide) rfl (by decide) rfl (hq _ qw337) (fun _ h9 => h9) rfl rfl rfl dX6_image_13 (fun H locs hw => ?_)
  replace h := lt_some h
  obtain ⟨M6, eM6, h⟩ := h
  rw [← eM6] at hw
  refine lv_iconst (v := (1 : Int32)) hx hb dX6_image_16 (by decide) ?_
  exact r_iret hx hb hr rfl hlocks hZ hK hw h dX6_image_17

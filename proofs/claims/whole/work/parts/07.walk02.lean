theorem dX1_settle_0 : decode cX1_settle 0 = .ok (.aload_n 0, 1) := by decide +kernel
theorem dX1_settle_1 : decode cX1_settle 1 = .ok (.getfield 19, 3) := by decide +kernel
theorem dX1_settle_4 : decode cX1_settle 4 = .ok (.aload_n 0, 1) := by decide +kernel
theorem dX1_settle_5 : decode cX1_settle 5 = .ok (.getfield 34, 3) := by decide +kernel
theorem dX1_settle_8 : decode cX1_settle 8 = .ok (.aaload, 1) := by decide +kernel
theorem dX1_settle_9 : decode cX1_settle 9 = .ok (.astore 4, 2) := by decide +kernel
theorem dX1_settle_11 : decode cX1_settle 11 = .ok (.aload_n 0, 1) := by decide +kernel
theorem dX1_settle_12 : decode cX1_settle 12 = .ok (.getfield 11, 3) := by decide +kernel
theorem dX1_settle_15 : decode cX1_settle 15 = .ok (.aload 4, 2) := by decide +kernel
theorem dX1_settle_17 : decode cX1_settle 17 = .ok (.getfield 79, 3) := by decide +kernel
theorem dX1_settle_20 : decode cX1_settle 20 = .ok (.aaload, 1) := by decide +kernel
theorem dX1_settle_21 : decode cX1_settle 21 = .ok (.astore 5, 2) := by decide +kernel
theorem dX1_settle_23 : decode cX1_settle 23 = .ok (.aload_n 0, 1) := by decide +kernel
theorem dX1_settle_24 : decode cX1_settle 24 = .ok (.getfield 11, 3) := by decide +kernel
theorem dX1_settle_27 : decode cX1_settle 27 = .ok (.aload 4, 2) := by decide +kernel
theorem dX1_settle_29 : decode cX1_settle 29 = .ok (.getfield 82, 3) := by decide +kernel
theorem dX1_settle_32 : decode cX1_settle 32 = .ok (.aaload, 1) := by decide +kernel
theorem dX1_settle_33 : decode cX1_settle 33 = .ok (.astore 6, 2) := by decide +kernel
theorem dX1_settle_35 : decode cX1_settle 35 = .ok (.aload_n 0, 1) := by decide +kernel
theorem dX1_settle_36 : decode cX1_settle 36 = .ok (.iload_n 1, 1) := by decide +kernel
theorem dX1_settle_37 : decode cX1_settle 37 = .ok (.invokevirtual 124, 3) := by decide +kernel
theorem dX1_settle_40 : decode cX1_settle 40 = .ok (.istore 7, 2) := by decide +kernel
theorem dX1_settle_42 : decode cX1_settle 42 = .ok (.aload 4, 2) := by decide +kernel
theorem dX1_settle_44 : decode cX1_settle 44 = .ok (.iload_n 1, 1) := by decide +kernel
theorem dX1_settle_45 : decode cX1_settle 45 = .ok (.putfield 127, 3) := by decide +kernel
theorem dX1_settle_48 : decode cX1_settle 48 = .ok (.aload 4, 2) := by decide +kernel
theorem dX1_settle_50 : decode cX1_settle 50 = .ok (.iload 7, 2) := by decide +kernel
theorem dX1_settle_52 : decode cX1_settle 52 = .ok (.putfield 92, 3) := by decide +kernel
theorem dX1_settle_55 : decode cX1_settle 55 = .ok (.aload 4, 2) := by decide +kernel
theorem dX1_settle_57 : decode cX1_settle 57 = .ok (.aload 5, 2) := by decide +kernel
theorem dX1_settle_59 : decode cX1_settle 59 = .ok (.getfield 95, 3) := by decide +kernel
theorem dX1_settle_62 : decode cX1_settle 62 = .ok (.putfield 130, 3) := by decide +kernel
theorem dX1_settle_65 : decode cX1_settle 65 = .ok (.aload 4, 2) := by decide +kernel
theorem dX1_settle_67 : decode cX1_settle 67 = .ok (.aload 6, 2) := by decide +kernel
theorem dX1_settle_69 : decode cX1_settle 69 = .ok (.getfield 95, 3) := by decide +kernel
theorem dX1_settle_72 : decode cX1_settle 72 = .ok (.putfield 133, 3) := by decide +kernel
theorem dX1_settle_75 : decode cX1_settle 75 = .ok (.aload 4, 2) := by decide +kernel
theorem dX1_settle_77 : decode cX1_settle 77 = .ok (.aload 5, 2) := by decide +kernel
theorem dX1_settle_79 : decode cX1_settle 79 = .ok (.getfield 111, 3) := by decide +kernel
theorem dX1_settle_82 : decode cX1_settle 82 = .ok (.putfield 136, 3) := by decide +kernel
theorem dX1_settle_85 : decode cX1_settle 85 = .ok (.aload 4, 2) := by decide +kernel
theorem dX1_settle_87 : decode cX1_settle 87 = .ok (.aload 6, 2) := by decide +kernel
theorem dX1_settle_89 : decode cX1_settle 89 = .ok (.getfield 111, 3) := by decide +kernel
theorem dX1_settle_92 : decode cX1_settle 92 = .ok (.putfield 139, 3) := by decide +kernel
theorem dX1_settle_95 : decode cX1_settle 95 = .ok (.aload 5, 2) := by decide +kernel
theorem dX1_settle_97 : decode cX1_settle 97 = .ok (.iload 7, 2) := by decide +kernel
theorem dX1_settle_99 : decode cX1_settle 99 = .ok (.aload 4, 2) := by decide +kernel
theorem dX1_settle_101 : decode cX1_settle 101 = .ok (.getfield 79, 3) := by decide +kernel
theorem dX1_settle_104 : decode cX1_settle 104 = .ok (.if_icmp .ne 7, 3) := by decide +kernel
theorem dX1_settle_107 : decode cX1_settle 107 = .ok (.iconst 1, 1) := by decide +kernel
theorem dX1_settle_108 : decode cX1_settle 108 = .ok (.goto 4, 3) := by decide +kernel
theorem dX1_settle_111 : decode cX1_settle 111 = .ok (.iconst 0, 1) := by decide +kernel
theorem dX1_settle_112 : decode cX1_settle 112 = .ok (.aload 4, 2) := by decide +kernel
theorem dX1_settle_114 : decode cX1_settle 114 = .ok (.getfield 85, 3) := by decide +kernel
theorem dX1_settle_117 : decode cX1_settle 117 = .ok (.iload_n 2, 1) := by decide +kernel
theorem dX1_settle_118 : decode cX1_settle 118 = .ok (.invokevirtual 142, 3) := by decide +kernel
theorem dX1_settle_121 : decode cX1_settle 121 = .ok (.aload 6, 2) := by decide +kernel
theorem dX1_settle_123 : decode cX1_settle 123 = .ok (.iload 7, 2) := by decide +kernel
theorem dX1_settle_125 : decode cX1_settle 125 = .ok (.aload 4, 2) := by decide +kernel
theorem dX1_settle_127 : decode cX1_settle 127 = .ok (.getfield 82, 3) := by decide +kernel
theorem dX1_settle_130 : decode cX1_settle 130 = .ok (.if_icmp .ne 7, 3) := by decide +kernel
theorem dX1_settle_133 : decode cX1_settle 133 = .ok (.iconst 1, 1) := by decide +kernel
theorem dX1_settle_134 : decode cX1_settle 134 = .ok (.goto 4, 3) := by decide +kernel
theorem dX1_settle_137 : decode cX1_settle 137 = .ok (.iconst 0, 1) := by decide +kernel
theorem dX1_settle_138 : decode cX1_settle 138 = .ok (.aload 4, 2) := by decide +kernel
theorem dX1_settle_140 : decode cX1_settle 140 = .ok (.getfield 85, 3) := by decide +kernel
theorem dX1_settle_143 : decode cX1_settle 143 = .ok (.iload_n 3, 1) := by decide +kernel
theorem dX1_settle_144 : decode cX1_settle 144 = .ok (.invokevirtual 142, 3) := by decide +kernel
theorem dX1_settle_147 : decode cX1_settle 147 = .ok (.aload_n 0, 1) := by decide +kernel
theorem dX1_settle_148 : decode cX1_settle 148 = .ok (.dup, 1) := by decide +kernel
theorem dX1_settle_149 : decode cX1_settle 149 = .ok (.getfield 34, 3) := by decide +kernel
theorem dX1_settle_152 : decode cX1_settle 152 = .ok (.iconst 1, 1) := by decide +kernel
theorem dX1_settle_153 : decode cX1_settle 153 = .ok (.iadd, 1) := by decide +kernel
theorem dX1_settle_154 : decode cX1_settle 154 = .ok (.putfield 34, 3) := by decide +kernel
theorem dX1_settle_157 : decode cX1_settle 157 = .ok (.iload 7, 2) := by decide +kernel
theorem dX1_settle_159 : decode cX1_settle 159 = .ok (.ireturn, 1) := by decide +kernel
set_option maxHeartbeats 4000000 in
set_option maxRecDepth 100000 in
theorem c_X1_settle (l : Launch) (D : va_G) (cy : Nat → ClassId) (ad adK adV : Nat → Nat) (M : Mm) (o0 : Nat) (a1 : Int32) (a2 : Int32) (a3 : Int32) (res : Mm × Int32) (h : f_X1_settle M o0 a1 a2 a3 = some res) : Met l yX1_settle (wU yX1_settle cX1_settle 8 (some .int)) rmX1_settle (va_Pc [.ref (ad o0), .int a1, .int a2, .int a3] (Pre D cy shX ad nX adK adV M)) (va_Qi (fun r (M2 : Mm) => r = res.2 ∧ M2 = res.1) (Pre D cy shX ad nX adK adV) (Aw ad nX)) 0 0 (Aw ad nX) := by
  refine Met.ofW (cc := cX1_settle) (maxL := 8) (ret := (some .int)) (by decide) rfl ?_
  intro p e s m args below meth c s₁ B hml hv
  obtain ⟨hargs, hPre⟩ := hv
  have hx := B.exec
  have hb := B.bytes
  have hr := B.returns
  have hts := atoms_spec (ws := wU yX1_settle cX1_settle 8 (some .int)) B.pre
  have hq : ∀ w ∈ gW, w.before args s = true := fun w hw => hts w (List.mem_cons_of_mem _ hw)
  have hcm : ∀ w ∈ gW, w ∈ wU yX1_settle cX1_settle 8 (some .int) := fun w hw => List.mem_cons_of_mem _ hw
  have hown : s.vm.findClass RX1 = some m.cls := findClass_of_methodNamed B.named
  have hlocks := B.notSynchronized
  have hF : CallFix p m c cX1_settle 8 s args (wU yX1_settle cX1_settle 8 (some .int)) RX1 := ⟨hx, hb, hml, hown, hts⟩
  have hK := hPre.2.1
  have hZ := hPre.2.2.2
  have hw : Wd D cy shX ad nX (Aw ad nX) s.heap M s.heap [] := ⟨hPre.1, hPre.2.2.1, va_S.rf⟩
  have iw0 : ∀ w ∈ u_ws RX0 TX0 9, w ∈ wU yX1_settle cX1_settle 8 (some .int) := fun w hw => List.mem_cons_of_mem _ (iX0 w hw)
  have iw1 : ∀ w ∈ u_ws RX1 TX1 11, w ∈ wU yX1_settle cX1_settle 8 (some .int) := fun w hw => List.mem_cons_of_mem _ (iX1 w hw)
  have iw3 : ∀ w ∈ u_ws RX3 TX3 6, w ∈ wU yX1_settle cX1_settle 8 (some .int) := fun w hw => List.mem_cons_of_mem _ (iX3 w hw)
  rw [show entryFrame m args 8 = entryFrame m ([.ref (ad o0), .int a1, .int a2, .int a3] : List Value).toArray 8 from by rw [hargs]]
  have hl := lv_entry ([.ref (ad o0), .int a1, .int a2, .int a3]) (n := 8) (Nat.le_of_ble_eq_true rfl)
  rw [lg_entry_eq]
  generalize (lg_sl ([.ref (ad o0), .int a1, .int a2, .int a3]) ++ List.replicate (8 - (lg_sl ([.ref (ad o0), .int a1, .int a2, .int a3])).length) Slot.unset).toArray = ls at hl ⊢
  have hl : lv_has ls 8 [(0, .ref (ad o0)), (1, .int a1), (2, .int a2), (3, .int a3)] := hl
  have hb138 : ∀ (M : Mm) (x0 : Nat) (x3 : Int32) (x4 : Nat) (x7 : Int32) (t0 : Nat) (t1 : Int32), f_X1_settle_b138 M x0 x3 x4 x7 t0 t1 = some res → ∀ (H : Heap) (locs : List Loc) (ls : Array Slot), Wd D cy shX ad nX (Aw ad nX) s.heap M H locs → lv_has ls 8 [(0, .ref (ad x0)), (3, .int x3), (4, .ref (ad x4)), (7, .int x7)] → W p l e (headSpec (wU yX1_settle cX1_settle 8 (some .int)) rmX1_settle).room s m args below meth c H locs 0 0 (QI D cy shX ad nX adK adV below args s res) (F0 m 138 ls [.int t1, .ref (ad t0)]) := by
    intro M x0 x3 x4 x7 t0 t1 h H locs ls hw hl
    unfold f_X1_settle_b138 at h
    refine lv_aload hx hb dX1_settle_138 (lv_at hl 2 rfl) ?_
    replace h := gd_some h
    obtain ⟨g1, h⟩ := h
    refine r_getI hx hb hts iw0 hown hK hw x4 2 g1 (by decide) rfl (by decide) rfl (hq _ qw145) (fun _ h9 => h9) dX1_settle_140 ?_
    refine lv_iload_n hx hb dX1_settle_143 rfl (lv_at hl 1 rfl) ?_
    replace h := gd_some h
    obtain ⟨g3, h⟩ := h
    replace h := bd_some h
    obtain ⟨r2, er2, h⟩ := h
    refine r_callVv (As := [.int t1, .int (M.1 x4 2), .int x3]) (rest := []) hF (c_X3_remember l D cy ad adK adV M t0 t1 (M.1 x4 2) x3 r2 er2) (gW_goodV hcm qw635 qw632 qw633 qw634 qw62) hdX3_remember rfl ⟨Nat.le_of_ble_eq_true rfl, Nat.le_of_ble_eq_true rfl⟩ rfl rfl hZ hK hw g3 (by decide) rfl rfl hl.1 rfl (Nat.le_of_ble_eq_true rfl) ⟨Nat.zero_le _, Nat.zero_le _⟩ dX1_settle_144 (fun H locs hw => ?_)
    refine lv_aload_n hx hb dX1_settle_147 rfl (lv_at hl 0 rfl) ?_
    refine lv_dup hx hb dX1_settle_148 rfl ?_
    replace h := gd_some h
    obtain ⟨g4, h⟩ := h
    refine r_getI hx hb hts iw1 hown hK hw x0 5 g4 (by decide) rfl (by decide) rfl (hq _ qw197) (fun _ h9 => h9) dX1_settle_149 ?_
    refine lv_iconst (v := (1 : Int32)) hx hb dX1_settle_152 (by decide) ?_
    refine lv_iadd hx hb dX1_settle_153 ?_
    refine r_putI hx hb hts iw1 tyX1 tyX1_ok nmX1 hown hK hw x0 5 g4 (by decide) rfl (by decide) rfl (hq _ qw197) (fun _ h9 => h9) rfl rfl rfl dX1_settle_154 (fun H locs hw => ?_)
    replace h := lt_some h
    obtain ⟨M5, eM5, h⟩ := h
    rw [← eM5] at hw
    refine lv_iload hx hb dX1_settle_157 (lv_at hl 3 rfl) ?_
    exact r_iret hx hb hr rfl hlocks hZ hK hw h dX1_settle_159
  have hb112 : ∀ (M : Mm) (x0 : Nat) (x2 : Int32) (x3 : Int32) (x4 : Nat) (x6 : Nat) (x7 : Int32) (t0 : Nat) (t1 : Int32), f_X1_settle_b112 M x0 x2 x3 x4 x6 x7 t0 t1 = some res → ∀ (H : Heap) (locs : List Loc) (ls : Array Slot), Wd D cy shX ad nX (Aw ad nX) s.heap M H locs → lv_has ls 8 [(0, .ref (ad x0)), (2, .int x2), (3, .int x3), (4, .ref (ad x4)), (6, .ref (ad x6)), (7, .int x7)] → W p l e (headSpec (wU yX1_settle cX1_settle 8 (some .int)) rmX1_settle).room s m args below meth c H locs 0 0 (QI D cy shX ad nX adK adV below args s res) (F0 m 112 ls [.int t1, .ref (ad t0)]) := by
    intro M x0 x2 x3 x4 x6 x7 t0 t1 h H locs ls hw hl
    unfold f_X1_settle_b112 at h
    refine lv_aload hx hb dX1_settle_112 (lv_at hl 3 rfl) ?_
    replace h := gd_some h
    obtain ⟨g6, h⟩ := h
    refine r_getI hx hb hts iw0 hown hK hw x4 2 g6 (by decide) rfl (by decide) rfl (hq _ qw145) (fun _ h9 => h9) dX1_settle_114 ?_
    refine lv_iload_n hx hb dX1_settle_117 rfl (lv_at hl 1 rfl) ?_
    replace h := gd_some h
    obtain ⟨g8, h⟩ := h
    replace h := bd_some h
    obtain ⟨r7, er7, h⟩ := h
    refine r_callVv (As := [.int t1, .int (M.1 x4 2), .int x2]) (rest := []) hF (c_X3_remember l D cy ad adK adV M t0 t1 (M.1 x4 2) x2 r7 er7) (gW_goodV hcm qw635 qw632 qw633 qw634 qw62) hdX3_remember rfl ⟨Nat.le_of_ble_eq_true rfl, Nat.le_of_ble_eq_true rfl⟩ rfl rfl hZ hK hw g8 (by decide) rfl rfl hl.1 rfl (Nat.le_of_ble_eq_true rfl) ⟨Nat.zero_le _, Nat.zero_le _⟩ dX1_settle_118 (fun H locs hw => ?_)
    refine lv_aload hx hb dX1_settle_121 (lv_at hl 4 rfl) ?_
    refine lv_iload hx hb dX1_settle_123 (lv_at hl 5 rfl) ?_
    refine lv_aload hx hb dX1_settle_125 (lv_at hl 3 rfl) ?_
    refine r_getI hx hb hts iw0 hown hK hw x4 1 g6 (by decide) rfl (by decide) rfl (hq _ qw141) (fun _ h9 => h9) dX1_settle_127 ?_
    refine lv_icmp_ne (tgt := 137) hx hb dX1_settle_130 (by decide) (fun c9 => ?_) (fun c9 => ?_)
    · replace h := if_some_f c9 h
      refine lv_iconst (v := (0 : Int32)) hx hb dX1_settle_137 (by decide) ?_
      exact hb138 _ _ _ _ _ _ _ h _ _ _ hw (lv_sub hl [0, 2, 3, 5] rfl)
    · replace h := if_some_t c9 h
      refine lv_iconst (v := (1 : Int32)) hx hb dX1_settle_133 (by decide) ?_
      refine lv_goto (tgt := 138) hx hb dX1_settle_134 (by decide) ?_
      exact hb138 _ _ _ _ _ _ _ h _ _ _ hw (lv_sub hl [0, 2, 3, 5] rfl)
  unfold f_X1_settle at h
  refine lv_aload_n hx hb dX1_settle_0 rfl (lv_at hl 0 rfl) ?_
  replace h := gd_some h
  obtain ⟨g10, h⟩ := h
  replace h := bd_some h
  obtain ⟨q11, eq11, h⟩ := h
  refine r_getR hx hb hts iw1 hown hK hw o0 1 g10 (by decide) rfl (by decide) rfl (hq _ qw184) (fun _ h9 => h9) dX1_settle_1 eq11 ?_
  refine lv_aload_n hx hb dX1_settle_4 rfl (lv_at hl 0 rfl) ?_
  refine r_getI hx hb hts iw1 hown hK hw o0 5 g10 (by decide) rfl (by decide) rfl (hq _ qw197) (fun _ h9 => h9) dX1_settle_5 ?_
  replace h := gd_some h
  obtain ⟨g12, h⟩ := h
  replace h := bd_some h
  obtain ⟨q13, eq13, h⟩ := h
  refine r_aald hx hb hK hw q11 3 (by decide) rfl g12 dX1_settle_8 eq13 ?_
  refine lv_astore (lv' := [(4, .ref (ad q13)), (0, .ref (ad o0)), (1, .int a1), (2, .int a2), (3, .int a3)]) hx hb dX1_settle_9 hl (by decide) rfl (fun ls hl => ?_)
  refine lv_aload_n hx hb dX1_settle_11 rfl (lv_at hl 1 rfl) ?_
  replace h := bd_some h
  obtain ⟨q14, eq14, h⟩ := h
  refine r_getR hx hb hts iw1 hown hK hw o0 0 g10 (by decide) rfl (by decide) rfl (hq _ qw181) (fun _ h9 => h9) dX1_settle_12 eq14 ?_
  refine lv_aload hx hb dX1_settle_15 (lv_at hl 0 rfl) ?_
  replace h := gd_some h
  obtain ⟨g15, h⟩ := h
  refine r_getI hx hb hts iw0 hown hK hw q13 0 g15 (by decide) rfl (by decide) rfl (hq _ qw137) (fun _ h9 => h9) dX1_settle_17 ?_
  replace h := gd_some h
  obtain ⟨g16, h⟩ := h
  replace h := bd_some h
  obtain ⟨q17, eq17, h⟩ := h
  refine r_aald hx hb hK hw q14 2 (by decide) rfl g16 dX1_settle_20 eq17 ?_
  refine lv_astore (lv' := [(5, .ref (ad q17)), (4, .ref (ad q13)), (0, .ref (ad o0)), (1, .int a1), (2, .int a2), (3, .int a3)]) hx hb dX1_settle_21 hl (by decide) rfl (fun ls hl => ?_)
  refine lv_aload_n hx hb dX1_settle_23 rfl (lv_at hl 2 rfl) ?_
  replace h := bd_some h
  obtain ⟨q18, eq18, h⟩ := h
  refine r_getR hx hb hts iw1 hown hK hw o0 0 g10 (by decide) rfl (by decide) rfl (hq _ qw181) (fun _ h9 => h9) dX1_settle_24 eq18 ?_
  refine lv_aload hx hb dX1_settle_27 (lv_at hl 1 rfl) ?_
  refine r_getI hx hb hts iw0 hown hK hw q13 1 g15 (by decide) rfl (by decide) rfl (hq _ qw141) (fun _ h9 => h9) dX1_settle_29 ?_
  replace h := gd_some h
  obtain ⟨g19, h⟩ := h
  replace h := bd_some h
  obtain ⟨q20, eq20, h⟩ := h
  refine r_aald hx hb hK hw q18 2 (by decide) rfl g19 dX1_settle_32 eq20 ?_
  refine lv_astore (lv' := [(6, .ref (ad q20)), (5, .ref (ad q17)), (4, .ref (ad q13)), (0, .ref (ad o0)), (1, .int a1), (2, .int a2), (3, .int a3)]) hx hb dX1_settle_33 hl (by decide) rfl (fun ls hl => ?_)
  refine lv_aload_n hx hb dX1_settle_35 rfl (lv_at hl 3 rfl) ?_
  refine lv_iload_n hx hb dX1_settle_36 rfl (lv_at hl 4 rfl) ?_
  replace h := bd_some h
  obtain ⟨r21, er21, h⟩ := h
  refine r_callVi (As := [.int a1]) (rest := []) hF (c_X1_givenIfWonBy l D cy ad adK adV M o0 a1 r21 er21) (gW_goodV hcm qw631 qw628 qw629 qw630 qw61) hdX1_givenIfWonBy rfl ⟨Nat.le_of_ble_eq_true rfl, Nat.le_of_ble_eq_true rfl⟩ rfl rfl hZ hK hw g10 (by decide) rfl rfl hl.1 rfl (Nat.le_of_ble_eq_true rfl) ⟨Nat.zero_le _, Nat.zero_le _⟩ dX1_settle_37 (fun H locs hw => ?_)
  refine lv_istore (lv' := [(7, .int r21.2), (6, .ref (ad q20)), (5, .ref (ad q17)), (4, .ref (ad q13)), (0, .ref (ad o0)), (1, .int a1), (2, .int a2), (3, .int a3)]) hx hb dX1_settle_40 hl (by decide) rfl (fun ls hl => ?_)
  refine lv_aload hx hb dX1_settle_42 (lv_at hl 3 rfl) ?_
  refine lv_iload_n hx hb dX1_settle_44 rfl (lv_at hl 5 rfl) ?_
  refine r_putI hx hb hts iw0 tyX0 tyX0_ok nmX0 hown hK hw q13 3 g15 (by decide) rfl (by decide) rfl (hq _ qw149) (fun _ h9 => h9) rfl rfl rfl dX1_settle_45 (fun H locs hw => ?_)
  replace h := lt_some h
  obtain ⟨M22, eM22, h⟩ := h
  rw [← eM22] at hw
  refine lv_aload hx hb dX1_settle_48 (lv_at hl 3 rfl) ?_
  refine lv_iload hx hb dX1_settle_50 (lv_at hl 0 rfl) ?_
  refine r_putI hx hb hts iw0 tyX0 tyX0_ok nmX0 hown hK hw q13 4 g15 (by decide) rfl (by decide) rfl (hq _ qw153) (fun _ h9 => h9) rfl rfl rfl dX1_settle_52 (fun H locs hw => ?_)
  replace h := lt_some h
  obtain ⟨M23, eM23, h⟩ := h
  rw [← eM23] at hw
  refine lv_aload hx hb dX1_settle_55 (lv_at hl 3 rfl) ?_
  refine lv_aload hx hb dX1_settle_57 (lv_at hl 2 rfl) ?_
  replace h := gd_some h
  obtain ⟨g24, h⟩ := h
  refine r_getI hx hb hts iw3 hown hK hw q17 4 g24 (by decide) rfl (by decide) rfl (hq _ qw111) (fun _ h9 => h9) dX1_settle_59 ?_
  refine r_putI hx hb hts iw0 tyX0 tyX0_ok nmX0 hown hK hw q13 5 g15 (by decide) rfl (by decide) rfl (hq _ qw155) (fun _ h9 => h9) rfl rfl rfl dX1_settle_62 (fun H locs hw => ?_)
  replace h := lt_some h
  obtain ⟨M25, eM25, h⟩ := h
  rw [← eM25] at hw
  refine lv_aload hx hb dX1_settle_65 (lv_at hl 3 rfl) ?_
  refine lv_aload hx hb dX1_settle_67 (lv_at hl 1 rfl) ?_
  replace h := gd_some h
  obtain ⟨g26, h⟩ := h
  refine r_getI hx hb hts iw3 hown hK hw q20 4 g26 (by decide) rfl (by decide) rfl (hq _ qw111) (fun _ h9 => h9) dX1_settle_69 ?_
  refine r_putI hx hb hts iw0 tyX0 tyX0_ok nmX0 hown hK hw q13 6 g15 (by decide) rfl (by decide) rfl (hq _ qw157) (fun _ h9 => h9) rfl rfl rfl dX1_settle_72 (fun H locs hw => ?_)
  replace h := lt_some h
  obtain ⟨M27, eM27, h⟩ := h
  rw [← eM27] at hw
  refine lv_aload hx hb dX1_settle_75 (lv_at hl 3 rfl) ?_
  refine lv_aload hx hb dX1_settle_77 (lv_at hl 2 rfl) ?_
  refine r_getI hx hb hts iw3 hown hK hw q17 5 g24 (by decide) rfl (by decide) rfl (hq _ qw114) (fun _ h9 => h9) dX1_settle_79 ?_
  replace h := gd_some h
  obtain ⟨z28, h⟩ := h
  refine r_putI hx hb hts iw0 tyX0 tyX0_ok nmX0 hown hK hw q13 7 g15 (by decide) rfl (by decide) rfl (hq _ qw159) (fun _ h9 => h9) rfl (nar_bz z28) (fit_bz z28) dX1_settle_82 (fun H locs hw => ?_)
  replace h := lt_some h
  obtain ⟨M29, eM29, h⟩ := h
  rw [← eM29] at hw
  refine lv_aload hx hb dX1_settle_85 (lv_at hl 3 rfl) ?_
  refine lv_aload hx hb dX1_settle_87 (lv_at hl 1 rfl) ?_
  refine r_getI hx hb hts iw3 hown hK hw q20 5 g26 (by decide) rfl (by decide) rfl (hq _ qw114) (fun _ h9 => h9) dX1_settle_89 ?_
  replace h := gd_some h
  obtain ⟨z30, h⟩ := h
  refine r_putI hx hb hts iw0 tyX0 tyX0_ok nmX0 hown hK hw q13 8 g15 (by decide) rfl (by decide) rfl (hq _ qw161) (fun _ h9 => h9) rfl (nar_bz z30) (fit_bz z30) dX1_settle_92 (fun H locs hw => ?_)
  replace h := lt_some h
  obtain ⟨M31, eM31, h⟩ := h
  rw [← eM31] at hw
  refine lv_aload hx hb dX1_settle_95 (lv_at hl 2 rfl) ?_
  refine lv_iload hx hb dX1_settle_97 (lv_at hl 0 rfl) ?_
  refine lv_aload hx hb dX1_settle_99 (lv_at hl 3 rfl) ?_
  refine r_getI hx hb hts iw0 hown hK hw q13 0 g15 (by decide) rfl (by decide) rfl (hq _ qw137) (fun _ h9 => h9) dX1_settle_101 ?_
  refine lv_icmp_ne (tgt := 111) hx hb dX1_settle_104 (by decide) (fun c32 => ?_) (fun c32 => ?_)
  · replace h := if_some_f c32 h
    refine lv_iconst (v := (0 : Int32)) hx hb dX1_settle_111 (by decide) ?_
    exact hb112 _ _ _ _ _ _ _ _ _ h _ _ _ hw (lv_sub hl [4, 6, 7, 3, 1, 0] rfl)
  · replace h := if_some_t c32 h
    refine lv_iconst (v := (1 : Int32)) hx hb dX1_settle_107 (by decide) ?_
    refine lv_goto (tgt := 112) hx hb dX1_settle_108 (by decide) ?_
    exact hb112 _ _ _ _ _ _ _ _ _ h _ _ _ hw (lv_sub hl [4, 6, 7, 3, 1, 0] rfl)
theorem dX1_takeBack_0 : decode cX1_takeBack 0 = .ok (.aload_n 0, 1) := by decide +kernel
theorem dX1_takeBack_1 : decode cX1_takeBack 1 = .ok (.getfield 34, 3) := by decide +kernel
theorem dX1_takeBack_4 : decode cX1_takeBack 4 = .ok (.ifCond .ne 4, 3) := by decide +kernel
theorem dX1_takeBack_7 : decode cX1_takeBack 7 = .ok (.return_, 1) := by decide +kernel
theorem dX1_takeBack_8 : decode cX1_takeBack 8 = .ok (.aload_n 0, 1) := by decide +kernel
theorem dX1_takeBack_9 : decode cX1_takeBack 9 = .ok (.dup, 1) := by decide +kernel
theorem dX1_takeBack_10 : decode cX1_takeBack 10 = .ok (.getfield 34, 3) := by decide +kernel
theorem dX1_takeBack_13 : decode cX1_takeBack 13 = .ok (.iconst 1, 1) := by decide +kernel
theorem dX1_takeBack_14 : decode cX1_takeBack 14 = .ok (.isub, 1) := by decide +kernel
theorem dX1_takeBack_15 : decode cX1_takeBack 15 = .ok (.putfield 34, 3) := by decide +kernel
theorem dX1_takeBack_18 : decode cX1_takeBack 18 = .ok (.aload_n 0, 1) := by decide +kernel
theorem dX1_takeBack_19 : decode cX1_takeBack 19 = .ok (.getfield 19, 3) := by decide +kernel
theorem dX1_takeBack_22 : decode cX1_takeBack 22 = .ok (.aload_n 0, 1) := by decide +kernel
theorem dX1_takeBack_23 : decode cX1_takeBack 23 = .ok (.getfield 34, 3) := by decide +kernel
theorem dX1_takeBack_26 : decode cX1_takeBack 26 = .ok (.aaload, 1) := by decide +kernel
theorem dX1_takeBack_27 : decode cX1_takeBack 27 = .ok (.astore_n 1, 1) := by decide +kernel
theorem dX1_takeBack_28 : decode cX1_takeBack 28 = .ok (.aload_n 0, 1) := by decide +kernel
theorem dX1_takeBack_29 : decode cX1_takeBack 29 = .ok (.getfield 11, 3) := by decide +kernel
theorem dX1_takeBack_32 : decode cX1_takeBack 32 = .ok (.aload_n 1, 1) := by decide +kernel
theorem dX1_takeBack_33 : decode cX1_takeBack 33 = .ok (.getfield 92, 3) := by decide +kernel
theorem dX1_takeBack_36 : decode cX1_takeBack 36 = .ok (.aaload, 1) := by decide +kernel
theorem dX1_takeBack_37 : decode cX1_takeBack 37 = .ok (.dup, 1) := by decide +kernel
theorem dX1_takeBack_38 : decode cX1_takeBack 38 = .ok (.getfield 121, 3) := by decide +kernel
theorem dX1_takeBack_41 : decode cX1_takeBack 41 = .ok (.aload_n 1, 1) := by decide +kernel
theorem dX1_takeBack_42 : decode cX1_takeBack 42 = .ok (.getfield 85, 3) := by decide +kernel
theorem dX1_takeBack_45 : decode cX1_takeBack 45 = .ok (.isub, 1) := by decide +kernel
theorem dX1_takeBack_46 : decode cX1_takeBack 46 = .ok (.putfield 121, 3) := by decide +kernel
theorem dX1_takeBack_49 : decode cX1_takeBack 49 = .ok (.aload_n 0, 1) := by decide +kernel
theorem dX1_takeBack_50 : decode cX1_takeBack 50 = .ok (.getfield 11, 3) := by decide +kernel
theorem dX1_takeBack_53 : decode cX1_takeBack 53 = .ok (.aload_n 1, 1) := by decide +kernel
theorem dX1_takeBack_54 : decode cX1_takeBack 54 = .ok (.getfield 79, 3) := by decide +kernel
theorem dX1_takeBack_57 : decode cX1_takeBack 57 = .ok (.aaload, 1) := by decide +kernel
theorem dX1_takeBack_58 : decode cX1_takeBack 58 = .ok (.aload_n 1, 1) := by decide +kernel
theorem dX1_takeBack_59 : decode cX1_takeBack 59 = .ok (.getfield 130, 3) := by decide +kernel
theorem dX1_takeBack_62 : decode cX1_takeBack 62 = .ok (.putfield 95, 3) := by decide +kernel
theorem dX1_takeBack_65 : decode cX1_takeBack 65 = .ok (.aload_n 0, 1) := by decide +kernel
theorem dX1_takeBack_66 : decode cX1_takeBack 66 = .ok (.getfield 11, 3) := by decide +kernel
theorem dX1_takeBack_69 : decode cX1_takeBack 69 = .ok (.aload_n 1, 1) := by decide +kernel
theorem dX1_takeBack_70 : decode cX1_takeBack 70 = .ok (.getfield 79, 3) := by decide +kernel
theorem dX1_takeBack_73 : decode cX1_takeBack 73 = .ok (.aaload, 1) := by decide +kernel
theorem dX1_takeBack_74 : decode cX1_takeBack 74 = .ok (.aload_n 1, 1) := by decide +kernel
theorem dX1_takeBack_75 : decode cX1_takeBack 75 = .ok (.getfield 136, 3) := by decide +kernel
theorem dX1_takeBack_78 : decode cX1_takeBack 78 = .ok (.putfield 111, 3) := by decide +kernel
theorem dX1_takeBack_81 : decode cX1_takeBack 81 = .ok (.aload_n 0, 1) := by decide +kernel
theorem dX1_takeBack_82 : decode cX1_takeBack 82 = .ok (.getfield 11, 3) := by decide +kernel
theorem dX1_takeBack_85 : decode cX1_takeBack 85 = .ok (.aload_n 1, 1) := by decide +kernel
theorem dX1_takeBack_86 : decode cX1_takeBack 86 = .ok (.getfield 82, 3) := by decide +kernel
theorem dX1_takeBack_89 : decode cX1_takeBack 89 = .ok (.aaload, 1) := by decide +kernel
theorem dX1_takeBack_90 : decode cX1_takeBack 90 = .ok (.aload_n 1, 1) := by decide +kernel
theorem dX1_takeBack_91 : decode cX1_takeBack 91 = .ok (.getfield 133, 3) := by decide +kernel
theorem dX1_takeBack_94 : decode cX1_takeBack 94 = .ok (.putfield 95, 3) := by decide +kernel
theorem dX1_takeBack_97 : decode cX1_takeBack 97 = .ok (.aload_n 0, 1) := by decide +kernel
theorem dX1_takeBack_98 : decode cX1_takeBack 98 = .ok (.getfield 11, 3) := by decide +kernel
theorem dX1_takeBack_101 : decode cX1_takeBack 101 = .ok (.aload_n 1, 1) := by decide +kernel
theorem dX1_takeBack_102 : decode cX1_takeBack 102 = .ok (.getfield 82, 3) := by decide +kernel
theorem dX1_takeBack_105 : decode cX1_takeBack 105 = .ok (.aaload, 1) := by decide +kernel
theorem dX1_takeBack_106 : decode cX1_takeBack 106 = .ok (.aload_n 1, 1) := by decide +kernel
theorem dX1_takeBack_107 : decode cX1_takeBack 107 = .ok (.getfield 139, 3) := by decide +kernel
theorem dX1_takeBack_110 : decode cX1_takeBack 110 = .ok (.putfield 111, 3) := by decide +kernel
theorem dX1_takeBack_113 : decode cX1_takeBack 113 = .ok (.return_, 1) := by decide +kernel
set_option maxHeartbeats 4000000 in
set_option maxRecDepth 100000 in
theorem c_X1_takeBack (l : Launch) (D : va_G) (cy : Nat → ClassId) (ad adK adV : Nat → Nat) (M : Mm) (o0 : Nat) (res : Mm × Unit) (h : f_X1_takeBack M o0 = some res) : Met l yX1_takeBack (wU yX1_takeBack cX1_takeBack 2 none) rmX1_takeBack (va_Pc [.ref (ad o0)] (Pre D cy shX ad nX adK adV M)) (va_Qv (fun (M2 : Mm) => M2 = res.1) (Pre D cy shX ad nX adK adV) (Aw ad nX)) 0 0 (Aw ad nX) := by
  refine Met.ofW (cc := cX1_takeBack) (maxL := 2) (ret := none) (by decide) rfl ?_
  intro p e s m args below meth c s₁ B hml hv
  obtain ⟨hargs, hPre⟩ := hv
  have hx := B.exec
  have hb := B.bytes
  have hr := B.returns
  have hts := atoms_spec (ws := wU yX1_takeBack cX1_takeBack 2 none) B.pre
  have hq : ∀ w ∈ gW, w.before args s = true := fun w hw => hts w (List.mem_cons_of_mem _ hw)
  have hcm : ∀ w ∈ gW, w ∈ wU yX1_takeBack cX1_takeBack 2 none := fun w hw => List.mem_cons_of_mem _ hw
  have hown : s.vm.findClass RX1 = some m.cls := findClass_of_methodNamed B.named
  have hlocks := B.notSynchronized
  have hF : CallFix p m c cX1_takeBack 2 s args (wU yX1_takeBack cX1_takeBack 2 none) RX1 := ⟨hx, hb, hml, hown, hts⟩
  have hK := hPre.2.1
  have hZ := hPre.2.2.2
  have hw : Wd D cy shX ad nX (Aw ad nX) s.heap M s.heap [] := ⟨hPre.1, hPre.2.2.1, va_S.rf⟩
  have iw0 : ∀ w ∈ u_ws RX0 TX0 9, w ∈ wU yX1_takeBack cX1_takeBack 2 none := fun w hw => List.mem_cons_of_mem _ (iX0 w hw)
  have iw1 : ∀ w ∈ u_ws RX1 TX1 11, w ∈ wU yX1_takeBack cX1_takeBack 2 none := fun w hw => List.mem_cons_of_mem _ (iX1 w hw)
  have iw3 : ∀ w ∈ u_ws RX3 TX3 6, w ∈ wU yX1_takeBack cX1_takeBack 2 none := fun w hw => List.mem_cons_of_mem _ (iX3 w hw)
  rw [show entryFrame m args 2 = entryFrame m ([.ref (ad o0)] : List Value).toArray 2 from by rw [hargs]]
  have hl := lv_entry ([.ref (ad o0)]) (n := 2) (Nat.le_of_ble_eq_true rfl)
  rw [lg_entry_eq]
  generalize (lg_sl ([.ref (ad o0)]) ++ List.replicate (2 - (lg_sl ([.ref (ad o0)])).length) Slot.unset).toArray = ls at hl ⊢
  have hl : lv_has ls 2 [(0, .ref (ad o0))] := hl
  unfold f_X1_takeBack at h
  refine lv_aload_n hx hb dX1_takeBack_0 rfl (lv_at hl 0 rfl) ?_
  replace h := gd_some h
  obtain ⟨g1, h⟩ := h
  refine r_getI hx hb hts iw1 hown hK hw o0 5 g1 (by decide) rfl (by decide) rfl (hq _ qw197) (fun _ h9 => h9) dX1_takeBack_1 ?_
  refine lv_if_ne (tgt := 8) hx hb dX1_takeBack_4 (by decide) (fun c2 => ?_) (fun c2 => ?_)
  · replace h := if_some_f c2 h
    refine lv_aload_n hx hb dX1_takeBack_8 rfl (lv_at hl 0 rfl) ?_
    refine lv_dup hx hb dX1_takeBack_9 rfl ?_
    refine r_getI hx hb hts iw1 hown hK hw o0 5 g1 (by decide) rfl (by decide) rfl (hq _ qw197) (fun _ h9 => h9) dX1_takeBack_10 ?_
    refine lv_iconst (v := (1 : Int32)) hx hb dX1_takeBack_13 (by decide) ?_
    refine lv_isub hx hb dX1_takeBack_14 ?_
    refine r_putI hx hb hts iw1 tyX1 tyX1_ok nmX1 hown hK hw o0 5 g1 (by decide) rfl (by decide) rfl (hq _ qw197) (fun _ h9 => h9) rfl rfl rfl dX1_takeBack_15 (fun H locs hw => ?_)
    replace h := lt_some h
    obtain ⟨M3, eM3, h⟩ := h
    rw [← eM3] at hw
    refine lv_aload_n hx hb dX1_takeBack_18 rfl (lv_at hl 0 rfl) ?_
    replace h := bd_some h
    obtain ⟨q4, eq4, h⟩ := h
    refine r_getR hx hb hts iw1 hown hK hw o0 1 g1 (by decide) rfl (by decide) rfl (hq _ qw184) (fun _ h9 => h9) dX1_takeBack_19 eq4 ?_
    refine lv_aload_n hx hb dX1_takeBack_22 rfl (lv_at hl 0 rfl) ?_
    refine r_getI hx hb hts iw1 hown hK hw o0 5 g1 (by decide) rfl (by decide) rfl (hq _ qw197) (fun _ h9 => h9) dX1_takeBack_23 ?_
    replace h := gd_some h
    obtain ⟨g5, h⟩ := h
    replace h := bd_some h
    obtain ⟨q6, eq6, h⟩ := h
    refine r_aald hx hb hK hw q4 3 (by decide) rfl g5 dX1_takeBack_26 eq6 ?_
    refine lv_astore_n (lv' := [(1, .ref (ad q6)), (0, .ref (ad o0))]) hx hb dX1_takeBack_27 rfl hl (by decide) rfl (fun ls hl => ?_)
    refine lv_aload_n hx hb dX1_takeBack_28 rfl (lv_at hl 1 rfl) ?_
    replace h := bd_some h
    obtain ⟨q7, eq7, h⟩ := h
    refine r_getR hx hb hts iw1 hown hK hw o0 0 g1 (by decide) rfl (by decide) rfl (hq _ qw181) (fun _ h9 => h9) dX1_takeBack_29 eq7 ?_
    refine lv_aload_n hx hb dX1_takeBack_32 rfl (lv_at hl 0 rfl) ?_
    replace h := gd_some h
    obtain ⟨g8, h⟩ := h
    refine r_getI hx hb hts iw0 hown hK hw q6 4 g8 (by decide) rfl (by decide) rfl (hq _ qw153) (fun _ h9 => h9) dX1_takeBack_33 ?_
    replace h := gd_some h
    obtain ⟨g9, h⟩ := h
    replace h := bd_some h
    obtain ⟨q10, eq10, h⟩ := h
    refine r_aald hx hb hK hw q7 2 (by decide) rfl g9 dX1_takeBack_36 eq10 ?_
    refine lv_dup hx hb dX1_takeBack_37 rfl ?_
    replace h := gd_some h
    obtain ⟨g11, h⟩ := h
    refine r_getI hx hb hts iw3 hown hK hw q10 3 g11 (by decide) rfl (by decide) rfl (hq _ qw109) (fun _ h9 => h9) dX1_takeBack_38 ?_
    refine lv_aload_n hx hb dX1_takeBack_41 rfl (lv_at hl 0 rfl) ?_
    refine r_getI hx hb hts iw0 hown hK hw q6 2 g8 (by decide) rfl (by decide) rfl (hq _ qw145) (fun _ h9 => h9) dX1_takeBack_42 ?_
    refine lv_isub hx hb dX1_takeBack_45 ?_
    refine r_putI hx hb hts iw3 tyX3 tyX3_ok nmX3 hown hK hw q10 3 g11 (by decide) rfl (by decide) rfl (hq _ qw109) (fun _ h9 => h9) rfl rfl rfl dX1_takeBack_46 (fun H locs hw => ?_)
    replace h := lt_some h
    obtain ⟨M12, eM12, h⟩ := h
    rw [← eM12] at hw
    refine lv_aload_n hx hb dX1_takeBack_49 rfl (lv_at hl 1 rfl) ?_
    replace h := bd_some h
    obtain ⟨q13, eq13, h⟩ := h
    refine r_getR hx hb hts iw1 hown hK hw o0 0 g1 (by decide) rfl (by decide) rfl (hq _ qw181) (fun _ h9 => h9) dX1_takeBack_50 eq13 ?_
    refine lv_aload_n hx hb dX1_takeBack_53 rfl (lv_at hl 0 rfl) ?_
    refine r_getI hx hb hts iw0 hown hK hw q6 0 g8 (by decide) rfl (by decide) rfl (hq _ qw137) (fun _ h9 => h9) dX1_takeBack_54 ?_
    replace h := gd_some h
    obtain ⟨g14, h⟩ := h
    replace h := bd_some h
    obtain ⟨q15, eq15, h⟩ := h
    refine r_aald hx hb hK hw q13 2 (by decide) rfl g14 dX1_takeBack_57 eq15 ?_
    refine lv_aload_n hx hb dX1_takeBack_58 rfl (lv_at hl 0 rfl) ?_
    refine r_getI hx hb hts iw0 hown hK hw q6 5 g8 (by decide) rfl (by decide) rfl (hq _ qw155) (fun _ h9 => h9) dX1_takeBack_59 ?_
    replace h := gd_some h
    obtain ⟨g16, h⟩ := h
    refine r_putI hx hb hts iw3 tyX3 tyX3_ok nmX3 hown hK hw q15 4 g16 (by decide) rfl (by decide) rfl (hq _ qw111) (fun _ h9 => h9) rfl rfl rfl dX1_takeBack_62 (fun H locs hw => ?_)
    replace h := lt_some h
    obtain ⟨M17, eM17, h⟩ := h
    rw [← eM17] at hw
    refine lv_aload_n hx hb dX1_takeBack_65 rfl (lv_at hl 1 rfl) ?_
    replace h := bd_some h
    obtain ⟨q18, eq18, h⟩ := h
    refine r_getR hx hb hts iw1 hown hK hw o0 0 g1 (by decide) rfl (by decide) rfl (hq _ qw181) (fun _ h9 => h9) dX1_takeBack_66 eq18 ?_
    refine lv_aload_n hx hb dX1_takeBack_69 rfl (lv_at hl 0 rfl) ?_
    refine r_getI hx hb hts iw0 hown hK hw q6 0 g8 (by decide) rfl (by decide) rfl (hq _ qw137) (fun _ h9 => h9) dX1_takeBack_70 ?_
    replace h := gd_some h
    obtain ⟨g19, h⟩ := h
    replace h := bd_some h
    obtain ⟨q20, eq20, h⟩ := h
    refine r_aald hx hb hK hw q18 2 (by decide) rfl g19 dX1_takeBack_73 eq20 ?_
    refine lv_aload_n hx hb dX1_takeBack_74 rfl (lv_at hl 0 rfl) ?_
    refine r_getI hx hb hts iw0 hown hK hw q6 7 g8 (by decide) rfl (by decide) rfl (hq _ qw159) (fun _ h9 => h9) dX1_takeBack_75 ?_
    replace h := gd_some h
    obtain ⟨g21, h⟩ := h
    replace h := gd_some h
    obtain ⟨z22, h⟩ := h
    refine r_putI hx hb hts iw3 tyX3 tyX3_ok nmX3 hown hK hw q20 5 g21 (by decide) rfl (by decide) rfl (hq _ qw114) (fun _ h9 => h9) rfl (nar_bz z22) (fit_bz z22) dX1_takeBack_78 (fun H locs hw => ?_)
    replace h := lt_some h
    obtain ⟨M23, eM23, h⟩ := h
    rw [← eM23] at hw
    refine lv_aload_n hx hb dX1_takeBack_81 rfl (lv_at hl 1 rfl) ?_
    replace h := bd_some h
    obtain ⟨q24, eq24, h⟩ := h
    refine r_getR hx hb hts iw1 hown hK hw o0 0 g1 (by decide) rfl (by decide) rfl (hq _ qw181) (fun _ h9 => h9) dX1_takeBack_82 eq24 ?_
    refine lv_aload_n hx hb dX1_takeBack_85 rfl (lv_at hl 0 rfl) ?_
    refine r_getI hx hb hts iw0 hown hK hw q6 1 g8 (by decide) rfl (by decide) rfl (hq _ qw141) (fun _ h9 => h9) dX1_takeBack_86 ?_
    replace h := gd_some h
    obtain ⟨g25, h⟩ := h
    replace h := bd_some h
    obtain ⟨q26, eq26, h⟩ := h
    refine r_aald hx hb hK hw q24 2 (by decide) rfl g25 dX1_takeBack_89 eq26 ?_
    refine lv_aload_n hx hb dX1_takeBack_90 rfl (lv_at hl 0 rfl) ?_
    refine r_getI hx hb hts iw0 hown hK hw q6 6 g8 (by decide) rfl (by decide) rfl (hq _ qw157) (fun _ h9 => h9) dX1_takeBack_91 ?_
    replace h := gd_some h
    obtain ⟨g27, h⟩ := h
    refine r_putI hx hb hts iw3 tyX3 tyX3_ok nmX3 hown hK hw q26 4 g27 (by decide) rfl (by decide) rfl (hq _ qw111) (fun _ h9 => h9) rfl rfl rfl dX1_takeBack_94 (fun H locs hw => ?_)
    replace h := lt_some h
    obtain ⟨M28, eM28, h⟩ := h
    rw [← eM28] at hw
    refine lv_aload_n hx hb dX1_takeBack_97 rfl (lv_at hl 1 rfl) ?_
    replace h := bd_some h
    obtain ⟨q29, eq29, h⟩ := h
    refine r_getR hx hb hts iw1 hown hK hw o0 0 g1 (by decide) rfl (by decide) rfl (hq _ qw181) (fun _ h9 => h9) dX1_takeBack_98 eq29 ?_
    refine lv_aload_n hx hb dX1_takeBack_101 rfl (lv_at hl 0 rfl) ?_
    refine r_getI hx hb hts iw0 hown hK hw q6 1 g8 (by decide) rfl (by decide) rfl (hq _ qw141) (fun _ h9 => h9) dX1_takeBack_102 ?_
    replace h := gd_some h
    obtain ⟨g30, h⟩ := h
    replace h := bd_some h
    obtain ⟨q31, eq31, h⟩ := h
    refine r_aald hx hb hK hw q29 2 (by decide) rfl g30 dX1_takeBack_105 eq31 ?_
    refine lv_aload_n hx hb dX1_takeBack_106 rfl (lv_at hl 0 rfl) ?_
    refine r_getI hx hb hts iw0 hown hK hw q6 8 g8 (by decide) rfl (by decide) rfl (hq _ qw161) (fun _ h9 => h9) dX1_takeBack_107 ?_
    replace h := gd_some h
    obtain ⟨g32, h⟩ := h
    replace h := gd_some h
    obtain ⟨z33, h⟩ := h
    refine r_putI hx hb hts iw3 tyX3 tyX3_ok nmX3 hown hK hw q31 5 g32 (by decide) rfl (by decide) rfl (hq _ qw114) (fun _ h9 => h9) rfl (nar_bz z33) (fit_bz z33) dX1_takeBack_110 (fun H locs hw => ?_)
    replace h := lt_some h
    obtain ⟨M34, eM34, h⟩ := h
    rw [← eM34] at hw
    exact r_vret hx hb hr hlocks hZ hK hw h dX1_takeBack_113
  · replace h := if_some_t c2 h
    exact r_vret hx hb hr hlocks hZ hK hw h dX1_takeBack_7
theorem dX1_canBeWonBy_0 : decode cX1_canBeWonBy 0 = .ok (.aload_n 0, 1) := by decide +kernel
theorem dX1_canBeWonBy_1 : decode cX1_canBeWonBy 1 = .ok (.invokevirtual 146, 3) := by decide +kernel
theorem dX1_canBeWonBy_4 : decode cX1_canBeWonBy 4 = .ok (.ifCond .ne 23, 3) := by decide +kernel
theorem dX1_canBeWonBy_7 : decode cX1_canBeWonBy 7 = .ok (.aload_n 0, 1) := by decide +kernel
theorem dX1_canBeWonBy_8 : decode cX1_canBeWonBy 8 = .ok (.getfield 19, 3) := by decide +kernel
theorem dX1_canBeWonBy_11 : decode cX1_canBeWonBy 11 = .ok (.aload_n 0, 1) := by decide +kernel
theorem dX1_canBeWonBy_12 : decode cX1_canBeWonBy 12 = .ok (.getfield 34, 3) := by decide +kernel
theorem dX1_canBeWonBy_15 : decode cX1_canBeWonBy 15 = .ok (.aaload, 1) := by decide +kernel
theorem dX1_canBeWonBy_16 : decode cX1_canBeWonBy 16 = .ok (.iload_n 1, 1) := by decide +kernel
theorem dX1_canBeWonBy_17 : decode cX1_canBeWonBy 17 = .ok (.invokevirtual 88, 3) := by decide +kernel
theorem dX1_canBeWonBy_20 : decode cX1_canBeWonBy 20 = .ok (.ifCond .eq 7, 3) := by decide +kernel
theorem dX1_canBeWonBy_23 : decode cX1_canBeWonBy 23 = .ok (.iconst 1, 1) := by decide +kernel
theorem dX1_canBeWonBy_24 : decode cX1_canBeWonBy 24 = .ok (.goto 4, 3) := by decide +kernel
theorem dX1_canBeWonBy_27 : decode cX1_canBeWonBy 27 = .ok (.iconst 0, 1) := by decide +kernel
theorem dX1_canBeWonBy_28 : decode cX1_canBeWonBy 28 = .ok (.ireturn, 1) := by decide +kernel
set_option maxHeartbeats 4000000 in
set_option maxRecDepth 100000 in
theorem c_X1_canBeWonBy (l : Launch) (D : va_G) (cy : Nat → ClassId) (ad adK adV : Nat → Nat) (M : Mm) (o0 : Nat) (a1 : Int32) (res : Mm × Int32) (h : f_X1_canBeWonBy M o0 a1 = some res) : Met l yX1_canBeWonBy (wU yX1_canBeWonBy cX1_canBeWonBy 2 (some .boolean)) rmX1_canBeWonBy (va_Pc [.ref (ad o0), .int a1] (Pre D cy shX ad nX adK adV M)) (va_Qi (fun r (M2 : Mm) => r = res.2 ∧ M2 = res.1) (Pre D cy shX ad nX adK adV) (Aw ad nX)) 0 0 (Aw ad nX) := by
  refine Met.ofW (cc := cX1_canBeWonBy) (maxL := 2) (ret := (some .boolean)) (by decide) rfl ?_
  intro p e s m args below meth c s₁ B hml hv
  obtain ⟨hargs, hPre⟩ := hv
  have hx := B.exec
  have hb := B.bytes
  have hr := B.returns
  have hts := atoms_spec (ws := wU yX1_canBeWonBy cX1_canBeWonBy 2 (some .boolean)) B.pre
  have hq : ∀ w ∈ gW, w.before args s = true := fun w hw => hts w (List.mem_cons_of_mem _ hw)
  have hcm : ∀ w ∈ gW, w ∈ wU yX1_canBeWonBy cX1_canBeWonBy 2 (some .boolean) := fun w hw => List.mem_cons_of_mem _ hw
  have hown : s.vm.findClass RX1 = some m.cls := findClass_of_methodNamed B.named
  have hlocks := B.notSynchronized
  have hF : CallFix p m c cX1_canBeWonBy 2 s args (wU yX1_canBeWonBy cX1_canBeWonBy 2 (some .boolean)) RX1 := ⟨hx, hb, hml, hown, hts⟩
  have hK := hPre.2.1
  have hZ := hPre.2.2.2
  have hw : Wd D cy shX ad nX (Aw ad nX) s.heap M s.heap [] := ⟨hPre.1, hPre.2.2.1, va_S.rf⟩
  have iw1 : ∀ w ∈ u_ws RX1 TX1 11, w ∈ wU yX1_canBeWonBy cX1_canBeWonBy 2 (some .boolean) := fun w hw => List.mem_cons_of_mem _ (iX1 w hw)
  rw [show entryFrame m args 2 = entryFrame m ([.ref (ad o0), .int a1] : List Value).toArray 2 from by rw [hargs]]
  have hl := lv_entry ([.ref (ad o0), .int a1]) (n := 2) (Nat.le_of_ble_eq_true rfl)
  rw [lg_entry_eq]
  generalize (lg_sl ([.ref (ad o0), .int a1]) ++ List.replicate (2 - (lg_sl ([.ref (ad o0), .int a1])).length) Slot.unset).toArray = ls at hl ⊢
  have hl : lv_has ls 2 [(0, .ref (ad o0)), (1, .int a1)] := hl
  unfold f_X1_canBeWonBy at h
  refine lv_aload_n hx hb dX1_canBeWonBy_0 rfl (lv_at hl 0 rfl) ?_
  replace h := gd_some h
  obtain ⟨g2, h⟩ := h
  replace h := bd_some h
  obtain ⟨r1, er1, h⟩ := h
  refine r_callVi (As := []) (rest := []) hF (c_X1_allPlayed l D cy ad adK adV M o0 r1 er1) (gW_goodV hcm qw591 qw853 qw589 qw590 qw61) hdX1_allPlayed rfl ⟨Nat.le_of_ble_eq_true rfl, Nat.le_of_ble_eq_true rfl⟩ rfl rfl hZ hK hw g2 (by decide) rfl rfl hl.1 rfl (Nat.le_of_ble_eq_true rfl) ⟨Nat.zero_le _, Nat.zero_le _⟩ dX1_canBeWonBy_1 (fun H locs hw => ?_)
  refine lv_if_ne (tgt := 27) hx hb dX1_canBeWonBy_4 (by decide) (fun c3 => ?_) (fun c3 => ?_)
  · replace h := if_some_f c3 h
    refine lv_iconst (v := (0 : Int32)) hx hb dX1_canBeWonBy_27 (by decide) ?_
    exact r_iret hx hb hr rfl hlocks hZ hK hw h dX1_canBeWonBy_28
  · replace h := if_some_t c3 h
    refine lv_aload_n hx hb dX1_canBeWonBy_7 rfl (lv_at hl 0 rfl) ?_
    replace h := bd_some h
    obtain ⟨q4, eq4, h⟩ := h
    refine r_getR hx hb hts iw1 hown hK hw o0 1 g2 (by decide) rfl (by decide) rfl (hq _ qw184) (fun _ h9 => h9) dX1_canBeWonBy_8 eq4 ?_
    refine lv_aload_n hx hb dX1_canBeWonBy_11 rfl (lv_at hl 0 rfl) ?_
    refine r_getI hx hb hts iw1 hown hK hw o0 5 g2 (by decide) rfl (by decide) rfl (hq _ qw197) (fun _ h9 => h9) dX1_canBeWonBy_12 ?_
    replace h := gd_some h
    obtain ⟨g5, h⟩ := h
    replace h := bd_some h
    obtain ⟨q6, eq6, h⟩ := h
    refine r_aald hx hb hK hw q4 3 (by decide) rfl g5 dX1_canBeWonBy_15 eq6 ?_
    refine lv_iload_n hx hb dX1_canBeWonBy_16 rfl (lv_at hl 1 rfl) ?_
    replace h := gd_some h
    obtain ⟨g8, h⟩ := h
    replace h := bd_some h
    obtain ⟨r7, er7, h⟩ := h
    refine r_callVi (As := [.int a1]) (rest := []) hF (c_X0_isOf l D cy ad adK adV r1.1 q6 a1 r7 er7) (gW_goodV hcm qw402 qw399 qw400 qw401 qw63) hdX0_isOf rfl ⟨Nat.le_of_ble_eq_true rfl, Nat.le_of_ble_eq_true rfl⟩ rfl rfl hZ hK hw g8 (by decide) rfl rfl hl.1 rfl (Nat.le_of_ble_eq_true rfl) ⟨Nat.zero_le _, Nat.zero_le _⟩ dX1_canBeWonBy_17 (fun H locs hw => ?_)
    refine lv_if_eq (tgt := 27) hx hb dX1_canBeWonBy_20 (by decide) (fun c9 => ?_) (fun c9 => ?_)
    · replace h := if_some_t c9 h
      refine lv_iconst (v := (0 : Int32)) hx hb dX1_canBeWonBy_27 (by decide) ?_
      exact r_iret hx hb hr rfl hlocks hZ hK hw h dX1_canBeWonBy_28
    · replace h := if_some_f c9 h
      refine lv_iconst (v := (1 : Int32)) hx hb dX1_canBeWonBy_23 (by decide) ?_
      refine lv_goto (tgt := 28) hx hb dX1_canBeWonBy_24 (by decide) ?_
      exact r_iret hx hb hr rfl hlocks hZ hK hw h dX1_canBeWonBy_28
theorem dX1_playWonBy_0 : decode cX1_playWonBy 0 = .ok (.aload_n 0, 1) := by decide +kernel
theorem dX1_playWonBy_1 : decode cX1_playWonBy 1 = .ok (.iload_n 1, 1) := by decide +kernel
theorem dX1_playWonBy_2 : decode cX1_playWonBy 2 = .ok (.aload_n 0, 1) := by decide +kernel
theorem dX1_playWonBy_3 : decode cX1_playWonBy 3 = .ok (.aload_n 0, 1) := by decide +kernel
theorem dX1_playWonBy_4 : decode cX1_playWonBy 4 = .ok (.getfield 19, 3) := by decide +kernel
theorem dX1_playWonBy_7 : decode cX1_playWonBy 7 = .ok (.aload_n 0, 1) := by decide +kernel
theorem dX1_playWonBy_8 : decode cX1_playWonBy 8 = .ok (.getfield 34, 3) := by decide +kernel
theorem dX1_playWonBy_11 : decode cX1_playWonBy 11 = .ok (.aaload, 1) := by decide +kernel
theorem dX1_playWonBy_12 : decode cX1_playWonBy 12 = .ok (.getfield 79, 3) := by decide +kernel
theorem dX1_playWonBy_15 : decode cX1_playWonBy 15 = .ok (.invokevirtual 150, 3) := by decide +kernel
theorem dX1_playWonBy_18 : decode cX1_playWonBy 18 = .ok (.aload_n 0, 1) := by decide +kernel
theorem dX1_playWonBy_19 : decode cX1_playWonBy 19 = .ok (.aload_n 0, 1) := by decide +kernel
theorem dX1_playWonBy_20 : decode cX1_playWonBy 20 = .ok (.getfield 19, 3) := by decide +kernel
theorem dX1_playWonBy_23 : decode cX1_playWonBy 23 = .ok (.aload_n 0, 1) := by decide +kernel
theorem dX1_playWonBy_24 : decode cX1_playWonBy 24 = .ok (.getfield 34, 3) := by decide +kernel
theorem dX1_playWonBy_27 : decode cX1_playWonBy 27 = .ok (.aaload, 1) := by decide +kernel
theorem dX1_playWonBy_28 : decode cX1_playWonBy 28 = .ok (.getfield 82, 3) := by decide +kernel
theorem dX1_playWonBy_31 : decode cX1_playWonBy 31 = .ok (.invokevirtual 150, 3) := by decide +kernel
theorem dX1_playWonBy_34 : decode cX1_playWonBy 34 = .ok (.invokevirtual 153, 3) := by decide +kernel
theorem dX1_playWonBy_37 : decode cX1_playWonBy 37 = .ok (.ireturn, 1) := by decide +kernel
set_option maxHeartbeats 4000000 in
set_option maxRecDepth 100000 in
theorem c_X1_playWonBy (l : Launch) (D : va_G) (cy : Nat → ClassId) (ad adK adV : Nat → Nat) (M : Mm) (o0 : Nat) (a1 : Int32) (res : Mm × Int32) (h : f_X1_playWonBy M o0 a1 = some res) : Met l yX1_playWonBy (wU yX1_playWonBy cX1_playWonBy 2 (some .int)) rmX1_playWonBy (va_Pc [.ref (ad o0), .int a1] (Pre D cy shX ad nX adK adV M)) (va_Qi (fun r (M2 : Mm) => r = res.2 ∧ M2 = res.1) (Pre D cy shX ad nX adK adV) (Aw ad nX)) 0 0 (Aw ad nX) := by
  refine Met.ofW (cc := cX1_playWonBy) (maxL := 2) (ret := (some .int)) (by decide) rfl ?_
  intro p e s m args below meth c s₁ B hml hv
  obtain ⟨hargs, hPre⟩ := hv
  have hx := B.exec
  have hb := B.bytes
  have hr := B.returns
  have hts := atoms_spec (ws := wU yX1_playWonBy cX1_playWonBy 2 (some .int)) B.pre
  have hq : ∀ w ∈ gW, w.before args s = true := fun w hw => hts w (List.mem_cons_of_mem _ hw)
  have hcm : ∀ w ∈ gW, w ∈ wU yX1_playWonBy cX1_playWonBy 2 (some .int) := fun w hw => List.mem_cons_of_mem _ hw
  have hown : s.vm.findClass RX1 = some m.cls := findClass_of_methodNamed B.named
  have hlocks := B.notSynchronized
  have hF : CallFix p m c cX1_playWonBy 2 s args (wU yX1_playWonBy cX1_playWonBy 2 (some .int)) RX1 := ⟨hx, hb, hml, hown, hts⟩
  have hK := hPre.2.1
  have hZ := hPre.2.2.2
  have hw : Wd D cy shX ad nX (Aw ad nX) s.heap M s.heap [] := ⟨hPre.1, hPre.2.2.1, va_S.rf⟩
  have iw0 : ∀ w ∈ u_ws RX0 TX0 9, w ∈ wU yX1_playWonBy cX1_playWonBy 2 (some .int) := fun w hw => List.mem_cons_of_mem _ (iX0 w hw)
  have iw1 : ∀ w ∈ u_ws RX1 TX1 11, w ∈ wU yX1_playWonBy cX1_playWonBy 2 (some .int) := fun w hw => List.mem_cons_of_mem _ (iX1 w hw)
  rw [show entryFrame m args 2 = entryFrame m ([.ref (ad o0), .int a1] : List Value).toArray 2 from by rw [hargs]]
  have hl := lv_entry ([.ref (ad o0), .int a1]) (n := 2) (Nat.le_of_ble_eq_true rfl)
  rw [lg_entry_eq]
  generalize (lg_sl ([.ref (ad o0), .int a1]) ++ List.replicate (2 - (lg_sl ([.ref (ad o0), .int a1])).length) Slot.unset).toArray = ls at hl ⊢
  have hl : lv_has ls 2 [(0, .ref (ad o0)), (1, .int a1)] := hl
  unfold f_X1_playWonBy at h
  refine lv_aload_n hx hb dX1_playWonBy_0 rfl (lv_at hl 0 rfl) ?_
  refine lv_iload_n hx hb dX1_playWonBy_1 rfl (lv_at hl 1 rfl) ?_
  refine lv_aload_n hx hb dX1_playWonBy_2 rfl (lv_at hl 0 rfl) ?_
  refine lv_aload_n hx hb dX1_playWonBy_3 rfl (lv_at hl 0 rfl) ?_
  replace h := gd_some h
  obtain ⟨g1, h⟩ := h
  replace h := bd_some h
  obtain ⟨q2, eq2, h⟩ := h
  refine r_getR hx hb hts iw1 hown hK hw o0 1 g1 (by decide) rfl (by decide) rfl (hq _ qw184) (fun _ h9 => h9) dX1_playWonBy_4 eq2 ?_
  refine lv_aload_n hx hb dX1_playWonBy_7 rfl (lv_at hl 0 rfl) ?_
  refine r_getI hx hb hts iw1 hown hK hw o0 5 g1 (by decide) rfl (by decide) rfl (hq _ qw197) (fun _ h9 => h9) dX1_playWonBy_8 ?_
  replace h := gd_some h
  obtain ⟨g3, h⟩ := h
  replace h := bd_some h
  obtain ⟨q4, eq4, h⟩ := h
  refine r_aald hx hb hK hw q2 3 (by decide) rfl g3 dX1_playWonBy_11 eq4 ?_
  replace h := gd_some h
  obtain ⟨g5, h⟩ := h
  refine r_getI hx hb hts iw0 hown hK hw q4 0 g5 (by decide) rfl (by decide) rfl (hq _ qw137) (fun _ h9 => h9) dX1_playWonBy_12 ?_
  replace h := bd_some h
  obtain ⟨r6, er6, h⟩ := h
  refine r_callVi (As := [.int (M.1 q4 0)]) (rest := [.int a1, .ref (ad o0)]) hF (c_X1_effortOf l D cy ad adK adV M o0 (M.1 q4 0) r6 er6) (gW_goodV hcm qw595 qw623 qw593 qw594 qw61) hdX1_effortOf rfl ⟨Nat.le_of_ble_eq_true rfl, Nat.le_of_ble_eq_true rfl⟩ rfl rfl hZ hK hw g1 (by decide) rfl rfl hl.1 rfl (Nat.le_of_ble_eq_true rfl) ⟨Nat.zero_le _, Nat.zero_le _⟩ dX1_playWonBy_15 (fun H locs hw => ?_)
  refine lv_aload_n hx hb dX1_playWonBy_18 rfl (lv_at hl 0 rfl) ?_
  refine lv_aload_n hx hb dX1_playWonBy_19 rfl (lv_at hl 0 rfl) ?_
  replace h := bd_some h
  obtain ⟨q7, eq7, h⟩ := h
  refine r_getR hx hb hts iw1 hown hK hw o0 1 g1 (by decide) rfl (by decide) rfl (hq _ qw184) (fun _ h9 => h9) dX1_playWonBy_20 eq7 ?_
  refine lv_aload_n hx hb dX1_playWonBy_23 rfl (lv_at hl 0 rfl) ?_
  refine r_getI hx hb hts iw1 hown hK hw o0 5 g1 (by decide) rfl (by decide) rfl (hq _ qw197) (fun _ h9 => h9) dX1_playWonBy_24 ?_
  replace h := gd_some h
  obtain ⟨g8, h⟩ := h
  replace h := bd_some h
  obtain ⟨q9, eq9, h⟩ := h
  refine r_aald hx hb hK hw q7 3 (by decide) rfl g8 dX1_playWonBy_27 eq9 ?_
  replace h := gd_some h
  obtain ⟨g10, h⟩ := h
  refine r_getI hx hb hts iw0 hown hK hw q9 1 g10 (by decide) rfl (by decide) rfl (hq _ qw141) (fun _ h9 => h9) dX1_playWonBy_28 ?_
  replace h := bd_some h
  obtain ⟨r11, er11, h⟩ := h
  refine r_callVi (As := [.int (r6.1.1 q9 1)]) (rest := [.int r6.2, .int a1, .ref (ad o0)]) hF (c_X1_effortOf l D cy ad adK adV r6.1 o0 (r6.1.1 q9 1) r11 er11) (gW_goodV hcm qw595 qw623 qw593 qw594 qw61) hdX1_effortOf rfl ⟨Nat.le_of_ble_eq_true rfl, Nat.le_of_ble_eq_true rfl⟩ rfl rfl hZ hK hw g1 (by decide) rfl rfl hl.1 rfl (Nat.le_of_ble_eq_true rfl) ⟨Nat.zero_le _, Nat.zero_le _⟩ dX1_playWonBy_31 (fun H locs hw => ?_)
  replace h := bd_some h
  obtain ⟨r12, er12, h⟩ := h
  refine r_callVi (As := [.int a1, .int r6.2, .int r11.2]) (rest := []) hF (c_X1_settle l D cy ad adK adV r11.1 o0 a1 r6.2 r11.2 r12 er12) (gW_goodV hcm qw627 qw624 qw625 qw626 qw61) hdX1_settle rfl ⟨Nat.le_of_ble_eq_true rfl, Nat.le_of_ble_eq_true rfl⟩ rfl rfl hZ hK hw g1 (by decide) rfl rfl hl.1 rfl (Nat.le_of_ble_eq_true rfl) ⟨Nat.zero_le _, Nat.zero_le _⟩ dX1_playWonBy_34 (fun H locs hw => ?_)
  exact r_iret hx hb hr rfl hlocks hZ hK hw h dX1_playWonBy_37
theorem dX1_playDrawn_0 : decode cX1_playDrawn 0 = .ok (.aload_n 0, 1) := by decide +kernel
theorem dX1_playDrawn_1 : decode cX1_playDrawn 1 = .ok (.getfield 19, 3) := by decide +kernel
theorem dX1_playDrawn_4 : decode cX1_playDrawn 4 = .ok (.aload_n 0, 1) := by decide +kernel
theorem dX1_playDrawn_5 : decode cX1_playDrawn 5 = .ok (.getfield 34, 3) := by decide +kernel
theorem dX1_playDrawn_8 : decode cX1_playDrawn 8 = .ok (.aaload, 1) := by decide +kernel
theorem dX1_playDrawn_9 : decode cX1_playDrawn 9 = .ok (.astore_n 1, 1) := by decide +kernel
theorem dX1_playDrawn_10 : decode cX1_playDrawn 10 = .ok (.aload_n 0, 1) := by decide +kernel
theorem dX1_playDrawn_11 : decode cX1_playDrawn 11 = .ok (.aload_n 1, 1) := by decide +kernel
theorem dX1_playDrawn_12 : decode cX1_playDrawn 12 = .ok (.getfield 79, 3) := by decide +kernel
theorem dX1_playDrawn_15 : decode cX1_playDrawn 15 = .ok (.invokevirtual 150, 3) := by decide +kernel
theorem dX1_playDrawn_18 : decode cX1_playDrawn 18 = .ok (.istore_n 2, 1) := by decide +kernel
theorem dX1_playDrawn_19 : decode cX1_playDrawn 19 = .ok (.aload_n 0, 1) := by decide +kernel
theorem dX1_playDrawn_20 : decode cX1_playDrawn 20 = .ok (.aload_n 1, 1) := by decide +kernel
theorem dX1_playDrawn_21 : decode cX1_playDrawn 21 = .ok (.getfield 82, 3) := by decide +kernel
theorem dX1_playDrawn_24 : decode cX1_playDrawn 24 = .ok (.invokevirtual 150, 3) := by decide +kernel
theorem dX1_playDrawn_27 : decode cX1_playDrawn 27 = .ok (.istore_n 3, 1) := by decide +kernel
theorem dX1_playDrawn_28 : decode cX1_playDrawn 28 = .ok (.aload_n 0, 1) := by decide +kernel
theorem dX1_playDrawn_29 : decode cX1_playDrawn 29 = .ok (.aload_n 0, 1) := by decide +kernel
theorem dX1_playDrawn_30 : decode cX1_playDrawn 30 = .ok (.getfield 40, 3) := by decide +kernel
theorem dX1_playDrawn_33 : decode cX1_playDrawn 33 = .ok (.ldc 157, 2) := by decide +kernel
theorem dX1_playDrawn_35 : decode cX1_playDrawn 35 = .ok (.imul, 1) := by decide +kernel
theorem dX1_playDrawn_36 : decode cX1_playDrawn 36 = .ok (.sipush 12345, 3) := by decide +kernel
theorem dX1_playDrawn_39 : decode cX1_playDrawn 39 = .ok (.iadd, 1) := by decide +kernel
theorem dX1_playDrawn_40 : decode cX1_playDrawn 40 = .ok (.putfield 40, 3) := by decide +kernel
theorem dX1_playDrawn_43 : decode cX1_playDrawn 43 = .ok (.aload_n 0, 1) := by decide +kernel
theorem dX1_playDrawn_44 : decode cX1_playDrawn 44 = .ok (.getfield 40, 3) := by decide +kernel
theorem dX1_playDrawn_47 : decode cX1_playDrawn 47 = .ok (.bipush 8, 2) := by decide +kernel
theorem dX1_playDrawn_49 : decode cX1_playDrawn 49 = .ok (.iushr, 1) := by decide +kernel
theorem dX1_playDrawn_50 : decode cX1_playDrawn 50 = .ok (.bipush 10, 2) := by decide +kernel
theorem dX1_playDrawn_52 : decode cX1_playDrawn 52 = .ok (.irem, 1) := by decide +kernel
theorem dX1_playDrawn_53 : decode cX1_playDrawn 53 = .ok (.aload_n 0, 1) := by decide +kernel
theorem dX1_playDrawn_54 : decode cX1_playDrawn 54 = .ok (.iload_n 2, 1) := by decide +kernel
theorem dX1_playDrawn_55 : decode cX1_playDrawn 55 = .ok (.iload_n 3, 1) := by decide +kernel
theorem dX1_playDrawn_56 : decode cX1_playDrawn 56 = .ok (.invokevirtual 158, 3) := by decide +kernel
theorem dX1_playDrawn_59 : decode cX1_playDrawn 59 = .ok (.if_icmp .ge 7, 3) := by decide +kernel
theorem dX1_playDrawn_62 : decode cX1_playDrawn 62 = .ok (.iconst 1, 1) := by decide +kernel
theorem dX1_playDrawn_63 : decode cX1_playDrawn 63 = .ok (.goto 4, 3) := by decide +kernel
theorem dX1_playDrawn_66 : decode cX1_playDrawn 66 = .ok (.iconst 0, 1) := by decide +kernel
theorem dX1_playDrawn_67 : decode cX1_playDrawn 67 = .ok (.istore 4, 2) := by decide +kernel
theorem dX1_playDrawn_69 : decode cX1_playDrawn 69 = .ok (.aload_n 0, 1) := by decide +kernel
theorem dX1_playDrawn_70 : decode cX1_playDrawn 70 = .ok (.iload 4, 2) := by decide +kernel
theorem dX1_playDrawn_72 : decode cX1_playDrawn 72 = .ok (.ifCond .eq 10, 3) := by decide +kernel
theorem dX1_playDrawn_75 : decode cX1_playDrawn 75 = .ok (.aload_n 1, 1) := by decide +kernel
theorem dX1_playDrawn_76 : decode cX1_playDrawn 76 = .ok (.getfield 79, 3) := by decide +kernel
theorem dX1_playDrawn_79 : decode cX1_playDrawn 79 = .ok (.goto 7, 3) := by decide +kernel
theorem dX1_playDrawn_82 : decode cX1_playDrawn 82 = .ok (.aload_n 1, 1) := by decide +kernel
theorem dX1_playDrawn_83 : decode cX1_playDrawn 83 = .ok (.getfield 82, 3) := by decide +kernel
theorem dX1_playDrawn_86 : decode cX1_playDrawn 86 = .ok (.iload_n 2, 1) := by decide +kernel
theorem dX1_playDrawn_87 : decode cX1_playDrawn 87 = .ok (.iload_n 3, 1) := by decide +kernel
theorem dX1_playDrawn_88 : decode cX1_playDrawn 88 = .ok (.invokevirtual 153, 3) := by decide +kernel
theorem dX1_playDrawn_91 : decode cX1_playDrawn 91 = .ok (.ireturn, 1) := by decide +kernel
set_option maxHeartbeats 4000000 in
set_option maxRecDepth 100000 in
theorem c_X1_playDrawn (l : Launch) (D : va_G) (cy : Nat → ClassId) (ad adK adV : Nat → Nat) (M : Mm) (o0 : Nat) (res : Mm × Int32) (h : f_X1_playDrawn M o0 = some res) : Met l yX1_playDrawn (wU yX1_playDrawn cX1_playDrawn 5 (some .int)) rmX1_playDrawn (va_Pc [.ref (ad o0)] (Pre D cy shX ad nX adK adV M)) (va_Qi (fun r (M2 : Mm) => r = res.2 ∧ M2 = res.1) (Pre D cy shX ad nX adK adV) (Aw ad nX)) 0 0 (Aw ad nX) := by
  refine Met.ofW (cc := cX1_playDrawn) (maxL := 5) (ret := (some .int)) (by decide) rfl ?_
  intro p e s m args below meth c s₁ B hml hv
  obtain ⟨hargs, hPre⟩ := hv
  have hx := B.exec
  have hb := B.bytes
  have hr := B.returns
  have hts := atoms_spec (ws := wU yX1_playDrawn cX1_playDrawn 5 (some .int)) B.pre
  have hq : ∀ w ∈ gW, w.before args s = true := fun w hw => hts w (List.mem_cons_of_mem _ hw)
  have hcm : ∀ w ∈ gW, w ∈ wU yX1_playDrawn cX1_playDrawn 5 (some .int) := fun w hw => List.mem_cons_of_mem _ hw
  have hown : s.vm.findClass RX1 = some m.cls := findClass_of_methodNamed B.named
  have hlocks := B.notSynchronized
  have hF : CallFix p m c cX1_playDrawn 5 s args (wU yX1_playDrawn cX1_playDrawn 5 (some .int)) RX1 := ⟨hx, hb, hml, hown, hts⟩
  have hK := hPre.2.1
  have hZ := hPre.2.2.2
  have hw : Wd D cy shX ad nX (Aw ad nX) s.heap M s.heap [] := ⟨hPre.1, hPre.2.2.1, va_S.rf⟩
  have iw0 : ∀ w ∈ u_ws RX0 TX0 9, w ∈ wU yX1_playDrawn cX1_playDrawn 5 (some .int) := fun w hw => List.mem_cons_of_mem _ (iX0 w hw)
  have iw1 : ∀ w ∈ u_ws RX1 TX1 11, w ∈ wU yX1_playDrawn cX1_playDrawn 5 (some .int) := fun w hw => List.mem_cons_of_mem _ (iX1 w hw)
  rw [show entryFrame m args 5 = entryFrame m ([.ref (ad o0)] : List Value).toArray 5 from by rw [hargs]]
  have hl := lv_entry ([.ref (ad o0)]) (n := 5) (Nat.le_of_ble_eq_true rfl)
  rw [lg_entry_eq]
  generalize (lg_sl ([.ref (ad o0)]) ++ List.replicate (5 - (lg_sl ([.ref (ad o0)])).length) Slot.unset).toArray = ls at hl ⊢
  have hl : lv_has ls 5 [(0, .ref (ad o0))] := hl
  have hb86 : ∀ (M : Mm) (x2 : Int32) (x3 : Int32) (t0 : Nat) (t1 : Int32), f_X1_playDrawn_b86 M x2 x3 t0 t1 = some res → ∀ (H : Heap) (locs : List Loc) (ls : Array Slot), Wd D cy shX ad nX (Aw ad nX) s.heap M H locs → lv_has ls 5 [(2, .int x2), (3, .int x3)] → W p l e (headSpec (wU yX1_playDrawn cX1_playDrawn 5 (some .int)) rmX1_playDrawn).room s m args below meth c H locs 0 0 (QI D cy shX ad nX adK adV below args s res) (F0 m 86 ls [.int t1, .ref (ad t0)]) := by
    intro M x2 x3 t0 t1 h H locs ls hw hl
    unfold f_X1_playDrawn_b86 at h
    refine lv_iload_n hx hb dX1_playDrawn_86 rfl (lv_at hl 0 rfl) ?_
    refine lv_iload_n hx hb dX1_playDrawn_87 rfl (lv_at hl 1 rfl) ?_
    replace h := gd_some h
    obtain ⟨g2, h⟩ := h
    replace h := bd_some h
    obtain ⟨r1, er1, h⟩ := h
    refine r_callVi (As := [.int t1, .int x2, .int x3]) (rest := []) hF (c_X1_settle l D cy ad adK adV M t0 t1 x2 x3 r1 er1) (gW_goodV hcm qw627 qw624 qw625 qw626 qw61) hdX1_settle rfl ⟨Nat.le_of_ble_eq_true rfl, Nat.le_of_ble_eq_true rfl⟩ rfl rfl hZ hK hw g2 (by decide) rfl rfl hl.1 rfl (Nat.le_of_ble_eq_true rfl) ⟨Nat.zero_le _, Nat.zero_le _⟩ dX1_playDrawn_88 (fun H locs hw => ?_)
    exact r_iret hx hb hr rfl hlocks hZ hK hw h dX1_playDrawn_91
  have hb67 : ∀ (M : Mm) (x0 : Nat) (x1 : Nat) (x2 : Int32) (x3 : Int32) (t0 : Int32), f_X1_playDrawn_b67 M x0 x1 x2 x3 t0 = some res → ∀ (H : Heap) (locs : List Loc) (ls : Array Slot), Wd D cy shX ad nX (Aw ad nX) s.heap M H locs → lv_has ls 5 [(0, .ref (ad x0)), (1, .ref (ad x1)), (2, .int x2), (3, .int x3)] → W p l e (headSpec (wU yX1_playDrawn cX1_playDrawn 5 (some .int)) rmX1_playDrawn).room s m args below meth c H locs 0 0 (QI D cy shX ad nX adK adV below args s res) (F0 m 67 ls [.int t0]) := by
    intro M x0 x1 x2 x3 t0 h H locs ls hw hl
    unfold f_X1_playDrawn_b67 at h
    refine lv_istore (lv' := [(4, .int t0), (0, .ref (ad x0)), (1, .ref (ad x1)), (2, .int x2), (3, .int x3)]) hx hb dX1_playDrawn_67 hl (by decide) rfl (fun ls hl => ?_)
    refine lv_aload_n hx hb dX1_playDrawn_69 rfl (lv_at hl 1 rfl) ?_
    refine lv_iload hx hb dX1_playDrawn_70 (lv_at hl 0 rfl) ?_
    refine lv_if_eq (tgt := 82) hx hb dX1_playDrawn_72 (by decide) (fun c3 => ?_) (fun c3 => ?_)
    · replace h := if_some_t c3 h
      refine lv_aload_n hx hb dX1_playDrawn_82 rfl (lv_at hl 2 rfl) ?_
      replace h := gd_some h
      obtain ⟨g4, h⟩ := h
      refine r_getI hx hb hts iw0 hown hK hw x1 1 g4 (by decide) rfl (by decide) rfl (hq _ qw141) (fun _ h9 => h9) dX1_playDrawn_83 ?_
      exact hb86 _ _ _ _ _ h _ _ _ hw (lv_sub hl [3, 4] rfl)
    · replace h := if_some_f c3 h
      refine lv_aload_n hx hb dX1_playDrawn_75 rfl (lv_at hl 2 rfl) ?_
      replace h := gd_some h
      obtain ⟨g5, h⟩ := h
      refine r_getI hx hb hts iw0 hown hK hw x1 0 g5 (by decide) rfl (by decide) rfl (hq _ qw137) (fun _ h9 => h9) dX1_playDrawn_76 ?_
      refine lv_goto (tgt := 86) hx hb dX1_playDrawn_79 (by decide) ?_
      exact hb86 _ _ _ _ _ h _ _ _ hw (lv_sub hl [3, 4] rfl)
  unfold f_X1_playDrawn at h
  refine lv_aload_n hx hb dX1_playDrawn_0 rfl (lv_at hl 0 rfl) ?_
  replace h := gd_some h
  obtain ⟨g6, h⟩ := h
  replace h := bd_some h
  obtain ⟨q7, eq7, h⟩ := h
  refine r_getR hx hb hts iw1 hown hK hw o0 1 g6 (by decide) rfl (by decide) rfl (hq _ qw184) (fun _ h9 => h9) dX1_playDrawn_1 eq7 ?_
  refine lv_aload_n hx hb dX1_playDrawn_4 rfl (lv_at hl 0 rfl) ?_
  refine r_getI hx hb hts iw1 hown hK hw o0 5 g6 (by decide) rfl (by decide) rfl (hq _ qw197) (fun _ h9 => h9) dX1_playDrawn_5 ?_
  replace h := gd_some h
  obtain ⟨g8, h⟩ := h
  replace h := bd_some h
  obtain ⟨q9, eq9, h⟩ := h
  refine r_aald hx hb hK hw q7 3 (by decide) rfl g8 dX1_playDrawn_8 eq9 ?_
  refine lv_astore_n (lv' := [(1, .ref (ad q9)), (0, .ref (ad o0))]) hx hb dX1_playDrawn_9 rfl hl (by decide) rfl (fun ls hl => ?_)
  refine lv_aload_n hx hb dX1_playDrawn_10 rfl (lv_at hl 1 rfl) ?_
  refine lv_aload_n hx hb dX1_playDrawn_11 rfl (lv_at hl 0 rfl) ?_
  replace h := gd_some h
  obtain ⟨g10, h⟩ := h
  refine r_getI hx hb hts iw0 hown hK hw q9 0 g10 (by decide) rfl (by decide) rfl (hq _ qw137) (fun _ h9 => h9) dX1_playDrawn_12 ?_
  replace h := bd_some h
  obtain ⟨r11, er11, h⟩ := h
  refine r_callVi (As := [.int (M.1 q9 0)]) (rest := []) hF (c_X1_effortOf l D cy ad adK adV M o0 (M.1 q9 0) r11 er11) (gW_goodV hcm qw595 qw623 qw593 qw594 qw61) hdX1_effortOf rfl ⟨Nat.le_of_ble_eq_true rfl, Nat.le_of_ble_eq_true rfl⟩ rfl rfl hZ hK hw g6 (by decide) rfl rfl hl.1 rfl (Nat.le_of_ble_eq_true rfl) ⟨Nat.zero_le _, Nat.zero_le _⟩ dX1_playDrawn_15 (fun H locs hw => ?_)
  refine lv_istore_n (lv' := [(2, .int r11.2), (1, .ref (ad q9)), (0, .ref (ad o0))]) hx hb dX1_playDrawn_18 rfl hl (by decide) rfl (fun ls hl => ?_)
  refine lv_aload_n hx hb dX1_playDrawn_19 rfl (lv_at hl 2 rfl) ?_
  refine lv_aload_n hx hb dX1_playDrawn_20 rfl (lv_at hl 1 rfl) ?_
  refine r_getI hx hb hts iw0 hown hK hw q9 1 g10 (by decide) rfl (by decide) rfl (hq _ qw141) (fun _ h9 => h9) dX1_playDrawn_21 ?_
  replace h := bd_some h
  obtain ⟨r12, er12, h⟩ := h
  refine r_callVi (As := [.int (r11.1.1 q9 1)]) (rest := []) hF (c_X1_effortOf l D cy ad adK adV r11.1 o0 (r11.1.1 q9 1) r12 er12) (gW_goodV hcm qw595 qw623 qw593 qw594 qw61) hdX1_effortOf rfl ⟨Nat.le_of_ble_eq_true rfl, Nat.le_of_ble_eq_true rfl⟩ rfl rfl hZ hK hw g6 (by decide) rfl rfl hl.1 rfl (Nat.le_of_ble_eq_true rfl) ⟨Nat.zero_le _, Nat.zero_le _⟩ dX1_playDrawn_24 (fun H locs hw => ?_)
  refine lv_istore_n (lv' := [(3, .int r12.2), (2, .int r11.2), (1, .ref (ad q9)), (0, .ref (ad o0))]) hx hb dX1_playDrawn_27 rfl hl (by decide) rfl (fun ls hl => ?_)
  refine lv_aload_n hx hb dX1_playDrawn_28 rfl (lv_at hl 3 rfl) ?_
  refine lv_aload_n hx hb dX1_playDrawn_29 rfl (lv_at hl 3 rfl) ?_
  refine r_getI hx hb hts iw1 hown hK hw o0 7 g6 (by decide) rfl (by decide) rfl (hq _ qw203) (fun _ h9 => h9) dX1_playDrawn_30 ?_
  refine lv_ldc (v := (1103515245 : Int32)) hx hb hown (hq _ qw644) dX1_playDrawn_33 ?_
  refine lv_imul hx hb dX1_playDrawn_35 ?_
  refine lv_sipush (v := (12345 : Int32)) hx hb dX1_playDrawn_36 (by decide) ?_
  refine lv_iadd hx hb dX1_playDrawn_39 ?_
  refine r_putI hx hb hts iw1 tyX1 tyX1_ok nmX1 hown hK hw o0 7 g6 (by decide) rfl (by decide) rfl (hq _ qw203) (fun _ h9 => h9) rfl rfl rfl dX1_playDrawn_40 (fun H locs hw => ?_)
  replace h := lt_some h
  obtain ⟨M13, eM13, h⟩ := h
  rw [← eM13] at hw
  refine lv_aload_n hx hb dX1_playDrawn_43 rfl (lv_at hl 3 rfl) ?_
  refine r_getI hx hb hts iw1 hown hK hw o0 7 g6 (by decide) rfl (by decide) rfl (hq _ qw203) (fun _ h9 => h9) dX1_playDrawn_44 ?_
  refine lv_bipush (v := (8 : Int32)) hx hb dX1_playDrawn_47 (by decide) ?_
  refine lv_iushr (v := ((M13.1 o0 7).toUInt32 >>> ((8 : Int32).toUInt32 &&& Int32.toUInt32 31)).toInt32) hx hb dX1_playDrawn_49 rfl ?_
  refine lv_bipush (v := (10 : Int32)) hx hb dX1_playDrawn_50 (by decide) ?_
  refine lv_irem hx hb dX1_playDrawn_52 (by decide) ?_
  refine lv_aload_n hx hb dX1_playDrawn_53 rfl (lv_at hl 3 rfl) ?_
  refine lv_iload_n hx hb dX1_playDrawn_54 rfl (lv_at hl 1 rfl) ?_
  refine lv_iload_n hx hb dX1_playDrawn_55 rfl (lv_at hl 0 rfl) ?_
  replace h := bd_some h
  obtain ⟨r14, er14, h⟩ := h
  refine r_callVi (As := [.int r11.2, .int r12.2]) (rest := [.int ((((M13.1 o0 7).toUInt32 >>> ((8 : Int32).toUInt32 &&& Int32.toUInt32 31)).toInt32) - (((M13.1 o0 7).toUInt32 >>> ((8 : Int32).toUInt32 &&& Int32.toUInt32 31)).toInt32) / (10 : Int32) * (10 : Int32))]) hF (c_X1_chanceOfFirst l D cy ad adK adV M13 o0 r11.2 r12.2 r14 er14) (gW_goodV hcm qw605 qw645 qw603 qw604 qw61) hdX1_chanceOfFirst rfl ⟨Nat.le_of_ble_eq_true rfl, Nat.le_of_ble_eq_true rfl⟩ rfl rfl hZ hK hw g6 (by decide) rfl rfl hl.1 rfl (Nat.le_of_ble_eq_true rfl) ⟨Nat.zero_le _, Nat.zero_le _⟩ dX1_playDrawn_56 (fun H locs hw => ?_)
  refine lv_icmp_ge (tgt := 66) hx hb dX1_playDrawn_59 (by decide) (fun c15 => ?_) (fun c15 => ?_)
  · replace h := if_some_t c15 h
    refine lv_iconst (v := (0 : Int32)) hx hb dX1_playDrawn_66 (by decide) ?_
    exact hb67 _ _ _ _ _ _ h _ _ _ hw (lv_sub hl [3, 2, 1, 0] rfl)
  · replace h := if_some_f c15 h
    refine lv_iconst (v := (1 : Int32)) hx hb dX1_playDrawn_62 (by decide) ?_
    refine lv_goto (tgt := 67) hx hb dX1_playDrawn_63 (by decide) ?_
    exact hb67 _ _ _ _ _ _ h _ _ _ hw (lv_sub hl [3, 2, 1, 0] rfl)
theorem dX1_forgetGames_0 : decode cX1_forgetGames 0 = .ok (.aload_n 0, 1) := by decide +kernel
theorem dX1_forgetGames_1 : decode cX1_forgetGames 1 = .ok (.getfield 34, 3) := by decide +kernel
theorem dX1_forgetGames_4 : decode cX1_forgetGames 4 = .ok (.istore_n 1, 1) := by decide +kernel
theorem dX1_forgetGames_5 : decode cX1_forgetGames 5 = .ok (.iconst 0, 1) := by decide +kernel
theorem dX1_forgetGames_6 : decode cX1_forgetGames 6 = .ok (.istore_n 2, 1) := by decide +kernel
theorem dX1_forgetGames_7 : decode cX1_forgetGames 7 = .ok (.iload_n 2, 1) := by decide +kernel
theorem dX1_forgetGames_8 : decode cX1_forgetGames 8 = .ok (.aload_n 0, 1) := by decide +kernel
theorem dX1_forgetGames_9 : decode cX1_forgetGames 9 = .ok (.getfield 27, 3) := by decide +kernel
theorem dX1_forgetGames_12 : decode cX1_forgetGames 12 = .ok (.if_icmp .ge 18, 3) := by decide +kernel
theorem dX1_forgetGames_15 : decode cX1_forgetGames 15 = .ok (.aload_n 0, 1) := by decide +kernel
theorem dX1_forgetGames_16 : decode cX1_forgetGames 16 = .ok (.getfield 11, 3) := by decide +kernel
theorem dX1_forgetGames_19 : decode cX1_forgetGames 19 = .ok (.iload_n 2, 1) := by decide +kernel
theorem dX1_forgetGames_20 : decode cX1_forgetGames 20 = .ok (.aaload, 1) := by decide +kernel
theorem dX1_forgetGames_21 : decode cX1_forgetGames 21 = .ok (.invokevirtual 67, 3) := by decide +kernel
theorem dX1_forgetGames_24 : decode cX1_forgetGames 24 = .ok (.iinc 2 1, 3) := by decide +kernel
theorem dX1_forgetGames_27 : decode cX1_forgetGames 27 = .ok (.goto (-20), 3) := by decide +kernel
theorem dX1_forgetGames_30 : decode cX1_forgetGames 30 = .ok (.aload_n 0, 1) := by decide +kernel
theorem dX1_forgetGames_31 : decode cX1_forgetGames 31 = .ok (.iconst 0, 1) := by decide +kernel
theorem dX1_forgetGames_32 : decode cX1_forgetGames 32 = .ok (.putfield 34, 3) := by decide +kernel
theorem dX1_forgetGames_35 : decode cX1_forgetGames 35 = .ok (.iload_n 1, 1) := by decide +kernel
theorem dX1_forgetGames_36 : decode cX1_forgetGames 36 = .ok (.ireturn, 1) := by decide +kernel
set_option maxHeartbeats 4000000 in
set_option maxRecDepth 100000 in
theorem c_X1_forgetGames (l : Launch) (D : va_G) (cy : Nat → ClassId) (ad adK adV : Nat → Nat) (M : Mm) (o0 : Nat) (res : Mm × Int32) (h : f_X1_forgetGames M o0 = some res) : Met l yX1_forgetGames (wU yX1_forgetGames cX1_forgetGames 3 (some .int)) rmX1_forgetGames (va_Pc [.ref (ad o0)] (Pre D cy shX ad nX adK adV M)) (va_Qi (fun r (M2 : Mm) => r = res.2 ∧ M2 = res.1) (Pre D cy shX ad nX adK adV) (Aw ad nX)) 0 0 (Aw ad nX) := by
  refine Met.ofW (cc := cX1_forgetGames) (maxL := 3) (ret := (some .int)) (by decide) rfl ?_
  intro p e s m args below meth c s₁ B hml hv
  obtain ⟨hargs, hPre⟩ := hv
  have hx := B.exec
  have hb := B.bytes
  have hr := B.returns
  have hts := atoms_spec (ws := wU yX1_forgetGames cX1_forgetGames 3 (some .int)) B.pre
  have hq : ∀ w ∈ gW, w.before args s = true := fun w hw => hts w (List.mem_cons_of_mem _ hw)
  have hcm : ∀ w ∈ gW, w ∈ wU yX1_forgetGames cX1_forgetGames 3 (some .int) := fun w hw => List.mem_cons_of_mem _ hw
  have hown : s.vm.findClass RX1 = some m.cls := findClass_of_methodNamed B.named
  have hlocks := B.notSynchronized
  have hF : CallFix p m c cX1_forgetGames 3 s args (wU yX1_forgetGames cX1_forgetGames 3 (some .int)) RX1 := ⟨hx, hb, hml, hown, hts⟩
  have hK := hPre.2.1
  have hZ := hPre.2.2.2
  have hw : Wd D cy shX ad nX (Aw ad nX) s.heap M s.heap [] := ⟨hPre.1, hPre.2.2.1, va_S.rf⟩
  have iw1 : ∀ w ∈ u_ws RX1 TX1 11, w ∈ wU yX1_forgetGames cX1_forgetGames 3 (some .int) := fun w hw => List.mem_cons_of_mem _ (iX1 w hw)
  rw [show entryFrame m args 3 = entryFrame m ([.ref (ad o0)] : List Value).toArray 3 from by rw [hargs]]
  have hl := lv_entry ([.ref (ad o0)]) (n := 3) (Nat.le_of_ble_eq_true rfl)
  rw [lg_entry_eq]
  generalize (lg_sl ([.ref (ad o0)]) ++ List.replicate (3 - (lg_sl ([.ref (ad o0)])).length) Slot.unset).toArray = ls at hl ⊢
  have hl : lv_has ls 3 [(0, .ref (ad o0))] := hl
  have hb7 : ∀ (nn : Nat), ∀ (M : Mm) (x0 : Nat) (x1 : Int32) (x2 : Int32), f_X1_forgetGames_b7 nn M x0 x1 x2 = some res → ∀ (H : Heap) (locs : List Loc) (ls : Array Slot), Wd D cy shX ad nX (Aw ad nX) s.heap M H locs → lv_has ls 3 [(0, .ref (ad x0)), (1, .int x1), (2, .int x2)] → W p l e (headSpec (wU yX1_forgetGames cX1_forgetGames 3 (some .int)) rmX1_forgetGames).room s m args below meth c H locs 0 0 (QI D cy shX ad nX adK adV below args s res) (F0 m 7 ls []) := by
    intro nn
    induction nn with
    | zero => intro M x0 x1 x2 h; simp [f_X1_forgetGames_b7] at h
    | succ nn ih =>
      intro M x0 x1 x2 h H locs ls hw hl
      unfold f_X1_forgetGames_b7 at h
      refine lv_iload_n hx hb dX1_forgetGames_7 rfl (lv_at hl 2 rfl) ?_
      refine lv_aload_n hx hb dX1_forgetGames_8 rfl (lv_at hl 0 rfl) ?_
      replace h := gd_some h
      obtain ⟨g1, h⟩ := h
      refine r_getI hx hb hts iw1 hown hK hw x0 3 g1 (by decide) rfl (by decide) rfl (hq _ qw189) (fun _ h9 => h9) dX1_forgetGames_9 ?_
      refine lv_icmp_ge (tgt := 30) hx hb dX1_forgetGames_12 (by decide) (fun c2 => ?_) (fun c2 => ?_)
      · replace h := if_some_t c2 h
        refine lv_aload_n hx hb dX1_forgetGames_30 rfl (lv_at hl 0 rfl) ?_
        refine lv_iconst (v := (0 : Int32)) hx hb dX1_forgetGames_31 (by decide) ?_
        refine r_putI hx hb hts iw1 tyX1 tyX1_ok nmX1 hown hK hw x0 5 g1 (by decide) rfl (by decide) rfl (hq _ qw197) (fun _ h9 => h9) rfl rfl rfl dX1_forgetGames_32 (fun H locs hw => ?_)
        replace h := lt_some h
        obtain ⟨M3, eM3, h⟩ := h
        rw [← eM3] at hw
        refine lv_iload_n hx hb dX1_forgetGames_35 rfl (lv_at hl 1 rfl) ?_
        exact r_iret hx hb hr rfl hlocks hZ hK hw h dX1_forgetGames_36
      · replace h := if_some_f c2 h
        refine lv_aload_n hx hb dX1_forgetGames_15 rfl (lv_at hl 0 rfl) ?_
        replace h := bd_some h
        obtain ⟨q4, eq4, h⟩ := h
        refine r_getR hx hb hts iw1 hown hK hw x0 0 g1 (by decide) rfl (by decide) rfl (hq _ qw181) (fun _ h9 => h9) dX1_forgetGames_16 eq4 ?_
        refine lv_iload_n hx hb dX1_forgetGames_19 rfl (lv_at hl 2 rfl) ?_
        replace h := gd_some h
        obtain ⟨g5, h⟩ := h
        replace h := bd_some h
        obtain ⟨q6, eq6, h⟩ := h
        refine r_aald hx hb hK hw q4 2 (by decide) rfl g5 dX1_forgetGames_20 eq6 ?_
        replace h := gd_some h
        obtain ⟨g8, h⟩ := h
        replace h := bd_some h
        obtain ⟨r7, er7, h⟩ := h
        refine r_callVv (As := []) (rest := []) hF (c_X3_rest l D cy ad adK adV M q6 r7 er7) (gW_goodV hcm qw382 qw379 qw380 qw381 qw62) hdX3_rest rfl ⟨Nat.le_of_ble_eq_true rfl, Nat.le_of_ble_eq_true rfl⟩ rfl rfl hZ hK hw g8 (by decide) rfl rfl hl.1 rfl (Nat.le_of_ble_eq_true rfl) ⟨Nat.zero_le _, Nat.zero_le _⟩ dX1_forgetGames_21 (fun H locs hw => ?_)
        refine lv_iinc (v := x2 + (1 : Int32)) (lv' := [(2, .int (x2 + (1 : Int32))), (0, .ref (ad x0)), (1, .int x1)]) hx hb dX1_forgetGames_24 hl (k := 2) rfl (congrArg (fun z => x2 + z) (by decide)) (by decide) rfl (fun ls hl => ?_)
        refine lv_goto (tgt := 7) hx hb dX1_forgetGames_27 (by decide) ?_
        exact ih _ _ _ _ h _ _ _ hw (lv_sub hl [1, 2, 0] rfl)
  unfold f_X1_forgetGames at h
  refine lv_aload_n hx hb dX1_forgetGames_0 rfl (lv_at hl 0 rfl) ?_
  replace h := gd_some h
  obtain ⟨g9, h⟩ := h
  refine r_getI hx hb hts iw1 hown hK hw o0 5 g9 (by decide) rfl (by decide) rfl (hq _ qw197) (fun _ h9 => h9) dX1_forgetGames_1 ?_
  refine lv_istore_n (lv' := [(1, .int (M.1 o0 5)), (0, .ref (ad o0))]) hx hb dX1_forgetGames_4 rfl hl (by decide) rfl (fun ls hl => ?_)
  refine lv_iconst (v := (0 : Int32)) hx hb dX1_forgetGames_5 (by decide) ?_
  refine lv_istore_n (lv' := [(2, .int (0 : Int32)), (1, .int (M.1 o0 5)), (0, .ref (ad o0))]) hx hb dX1_forgetGames_6 rfl hl (by decide) rfl (fun ls hl => ?_)
  exact hb7 1000 _ _ _ _ h _ _ _ hw (lv_sub hl [2, 1, 0] rfl)
theorem dX1_leader_0 : decode cX1_leader 0 = .ok (.iconst (-1), 1) := by decide +kernel
theorem dX1_leader_1 : decode cX1_leader 1 = .ok (.istore_n 1, 1) := by decide +kernel
theorem dX1_leader_2 : decode cX1_leader 2 = .ok (.iconst 0, 1) := by decide +kernel
theorem dX1_leader_3 : decode cX1_leader 3 = .ok (.istore_n 2, 1) := by decide +kernel
theorem dX1_leader_4 : decode cX1_leader 4 = .ok (.iload_n 2, 1) := by decide +kernel
theorem dX1_leader_5 : decode cX1_leader 5 = .ok (.aload_n 0, 1) := by decide +kernel
theorem dX1_leader_6 : decode cX1_leader 6 = .ok (.getfield 27, 3) := by decide +kernel
theorem dX1_leader_9 : decode cX1_leader 9 = .ok (.if_icmp .ge 37, 3) := by decide +kernel
theorem dX1_leader_12 : decode cX1_leader 12 = .ok (.iload_n 1, 1) := by decide +kernel
theorem dX1_leader_13 : decode cX1_leader 13 = .ok (.iconst (-1), 1) := by decide +kernel
theorem dX1_leader_14 : decode cX1_leader 14 = .ok (.if_icmp .eq 24, 3) := by decide +kernel
theorem dX1_leader_17 : decode cX1_leader 17 = .ok (.aload_n 0, 1) := by decide +kernel
theorem dX1_leader_18 : decode cX1_leader 18 = .ok (.getfield 11, 3) := by decide +kernel
theorem dX1_leader_21 : decode cX1_leader 21 = .ok (.iload_n 2, 1) := by decide +kernel
theorem dX1_leader_22 : decode cX1_leader 22 = .ok (.aaload, 1) := by decide +kernel
theorem dX1_leader_23 : decode cX1_leader 23 = .ok (.getfield 121, 3) := by decide +kernel
theorem dX1_leader_26 : decode cX1_leader 26 = .ok (.aload_n 0, 1) := by decide +kernel
theorem dX1_leader_27 : decode cX1_leader 27 = .ok (.getfield 11, 3) := by decide +kernel
theorem dX1_leader_30 : decode cX1_leader 30 = .ok (.iload_n 1, 1) := by decide +kernel
theorem dX1_leader_31 : decode cX1_leader 31 = .ok (.aaload, 1) := by decide +kernel
theorem dX1_leader_32 : decode cX1_leader 32 = .ok (.getfield 121, 3) := by decide +kernel
theorem dX1_leader_35 : decode cX1_leader 35 = .ok (.if_icmp .le 5, 3) := by decide +kernel
theorem dX1_leader_38 : decode cX1_leader 38 = .ok (.iload_n 2, 1) := by decide +kernel
theorem dX1_leader_39 : decode cX1_leader 39 = .ok (.istore_n 1, 1) := by decide +kernel
theorem dX1_leader_40 : decode cX1_leader 40 = .ok (.iinc 2 1, 3) := by decide +kernel
theorem dX1_leader_43 : decode cX1_leader 43 = .ok (.goto (-39), 3) := by decide +kernel
theorem dX1_leader_46 : decode cX1_leader 46 = .ok (.iload_n 1, 1) := by decide +kernel
theorem dX1_leader_47 : decode cX1_leader 47 = .ok (.ireturn, 1) := by decide +kernel
set_option maxHeartbeats 4000000 in
set_option maxRecDepth 100000 in
theorem c_X1_leader (l : Launch) (D : va_G) (cy : Nat → ClassId) (ad adK adV : Nat → Nat) (M : Mm) (o0 : Nat) (res : Mm × Int32) (h : f_X1_leader M o0 = some res) : Met l yX1_leader (wU yX1_leader cX1_leader 3 (some .int)) rmX1_leader (va_Pc [.ref (ad o0)] (Pre D cy shX ad nX adK adV M)) (va_Qi (fun r (M2 : Mm) => r = res.2 ∧ M2 = res.1) (Pre D cy shX ad nX adK adV) (Aw ad nX)) 0 0 (Aw ad nX) := by
  refine Met.ofW (cc := cX1_leader) (maxL := 3) (ret := (some .int)) (by decide) rfl ?_
  intro p e s m args below meth c s₁ B hml hv
  obtain ⟨hargs, hPre⟩ := hv
  have hx := B.exec
  have hb := B.bytes
  have hr := B.returns
  have hts := atoms_spec (ws := wU yX1_leader cX1_leader 3 (some .int)) B.pre
  have hq : ∀ w ∈ gW, w.before args s = true := fun w hw => hts w (List.mem_cons_of_mem _ hw)
  have hcm : ∀ w ∈ gW, w ∈ wU yX1_leader cX1_leader 3 (some .int) := fun w hw => List.mem_cons_of_mem _ hw
  have hown : s.vm.findClass RX1 = some m.cls := findClass_of_methodNamed B.named
  have hlocks := B.notSynchronized
  have hF : CallFix p m c cX1_leader 3 s args (wU yX1_leader cX1_leader 3 (some .int)) RX1 := ⟨hx, hb, hml, hown, hts⟩
  have hK := hPre.2.1
  have hZ := hPre.2.2.2
  have hw : Wd D cy shX ad nX (Aw ad nX) s.heap M s.heap [] := ⟨hPre.1, hPre.2.2.1, va_S.rf⟩
  have iw1 : ∀ w ∈ u_ws RX1 TX1 11, w ∈ wU yX1_leader cX1_leader 3 (some .int) := fun w hw => List.mem_cons_of_mem _ (iX1 w hw)
  have iw3 : ∀ w ∈ u_ws RX3 TX3 6, w ∈ wU yX1_leader cX1_leader 3 (some .int) := fun w hw => List.mem_cons_of_mem _ (iX3 w hw)
  rw [show entryFrame m args 3 = entryFrame m ([.ref (ad o0)] : List Value).toArray 3 from by rw [hargs]]
  have hl := lv_entry ([.ref (ad o0)]) (n := 3) (Nat.le_of_ble_eq_true rfl)
  rw [lg_entry_eq]
  generalize (lg_sl ([.ref (ad o0)]) ++ List.replicate (3 - (lg_sl ([.ref (ad o0)])).length) Slot.unset).toArray = ls at hl ⊢
  have hl : lv_has ls 3 [(0, .ref (ad o0))] := hl
  have hb40 : ∀ (k4 : Mm → Nat → Int32 → Int32 → Option (Mm × Int32)) (hk4 : ∀ (M : Mm) (x0 : Nat) (x1 : Int32) (x2 : Int32), k4 M x0 x1 x2 = some res → ∀ (H : Heap) (locs : List Loc) (ls : Array Slot), Wd D cy shX ad nX (Aw ad nX) s.heap M H locs → lv_has ls 3 [(0, .ref (ad x0)), (1, .int x1), (2, .int x2)] → W p l e (headSpec (wU yX1_leader cX1_leader 3 (some .int)) rmX1_leader).room s m args below meth c H locs 0 0 (QI D cy shX ad nX adK adV below args s res) (F0 m 4 ls [])), ∀ (M : Mm) (x0 : Nat) (x1 : Int32) (x2 : Int32), f_X1_leader_b40 k4 M x0 x1 x2 = some res → ∀ (H : Heap) (locs : List Loc) (ls : Array Slot), Wd D cy shX ad nX (Aw ad nX) s.heap M H locs → lv_has ls 3 [(0, .ref (ad x0)), (1, .int x1), (2, .int x2)] → W p l e (headSpec (wU yX1_leader cX1_leader 3 (some .int)) rmX1_leader).room s m args below meth c H locs 0 0 (QI D cy shX ad nX adK adV below args s res) (F0 m 40 ls []) := by
    intro k4 hk4
    intro M x0 x1 x2 h H locs ls hw hl
    unfold f_X1_leader_b40 at h
    refine lv_iinc (v := x2 + (1 : Int32)) (lv' := [(2, .int (x2 + (1 : Int32))), (0, .ref (ad x0)), (1, .int x1)]) hx hb dX1_leader_40 hl (k := 2) rfl (congrArg (fun z => x2 + z) (by decide)) (by decide) rfl (fun ls hl => ?_)
    refine lv_goto (tgt := 4) hx hb dX1_leader_43 (by decide) ?_
    exact hk4 _ _ _ _ h _ _ _ hw (lv_sub hl [1, 2, 0] rfl)
  have hb38 : ∀ (k4 : Mm → Nat → Int32 → Int32 → Option (Mm × Int32)) (hk4 : ∀ (M : Mm) (x0 : Nat) (x1 : Int32) (x2 : Int32), k4 M x0 x1 x2 = some res → ∀ (H : Heap) (locs : List Loc) (ls : Array Slot), Wd D cy shX ad nX (Aw ad nX) s.heap M H locs → lv_has ls 3 [(0, .ref (ad x0)), (1, .int x1), (2, .int x2)] → W p l e (headSpec (wU yX1_leader cX1_leader 3 (some .int)) rmX1_leader).room s m args below meth c H locs 0 0 (QI D cy shX ad nX adK adV below args s res) (F0 m 4 ls [])), ∀ (M : Mm) (x0 : Nat) (x2 : Int32), f_X1_leader_b38 k4 M x0 x2 = some res → ∀ (H : Heap) (locs : List Loc) (ls : Array Slot), Wd D cy shX ad nX (Aw ad nX) s.heap M H locs → lv_has ls 3 [(0, .ref (ad x0)), (2, .int x2)] → W p l e (headSpec (wU yX1_leader cX1_leader 3 (some .int)) rmX1_leader).room s m args below meth c H locs 0 0 (QI D cy shX ad nX adK adV below args s res) (F0 m 38 ls []) := by
    intro k4 hk4
    intro M x0 x2 h H locs ls hw hl
    unfold f_X1_leader_b38 at h
    refine lv_iload_n hx hb dX1_leader_38 rfl (lv_at hl 1 rfl) ?_
    refine lv_istore_n (lv' := [(1, .int x2), (0, .ref (ad x0)), (2, .int x2)]) hx hb dX1_leader_39 rfl hl (by decide) rfl (fun ls hl => ?_)
    exact hb40 _ hk4 _ _ _ _ h _ _ _ hw (lv_sub hl [1, 0, 2] rfl)
  have hb4 : ∀ (nn : Nat), ∀ (M : Mm) (x0 : Nat) (x1 : Int32) (x2 : Int32), f_X1_leader_b4 nn M x0 x1 x2 = some res → ∀ (H : Heap) (locs : List Loc) (ls : Array Slot), Wd D cy shX ad nX (Aw ad nX) s.heap M H locs → lv_has ls 3 [(0, .ref (ad x0)), (1, .int x1), (2, .int x2)] → W p l e (headSpec (wU yX1_leader cX1_leader 3 (some .int)) rmX1_leader).room s m args below meth c H locs 0 0 (QI D cy shX ad nX adK adV below args s res) (F0 m 4 ls []) := by
    intro nn
    induction nn with
    | zero => intro M x0 x1 x2 h; simp [f_X1_leader_b4] at h
    | succ nn ih =>
      intro M x0 x1 x2 h H locs ls hw hl
      unfold f_X1_leader_b4 at h
      refine lv_iload_n hx hb dX1_leader_4 rfl (lv_at hl 2 rfl) ?_
      refine lv_aload_n hx hb dX1_leader_5 rfl (lv_at hl 0 rfl) ?_
      replace h := gd_some h
      obtain ⟨g1, h⟩ := h
      refine r_getI hx hb hts iw1 hown hK hw x0 3 g1 (by decide) rfl (by decide) rfl (hq _ qw189) (fun _ h9 => h9) dX1_leader_6 ?_
      refine lv_icmp_ge (tgt := 46) hx hb dX1_leader_9 (by decide) (fun c2 => ?_) (fun c2 => ?_)
      · replace h := if_some_t c2 h
        refine lv_iload_n hx hb dX1_leader_46 rfl (lv_at hl 1 rfl) ?_
        exact r_iret hx hb hr rfl hlocks hZ hK hw h dX1_leader_47
      · replace h := if_some_f c2 h
        refine lv_iload_n hx hb dX1_leader_12 rfl (lv_at hl 1 rfl) ?_
        refine lv_iconst (v := (-1 : Int32)) hx hb dX1_leader_13 (by decide) ?_
        refine lv_icmp_eq (tgt := 38) hx hb dX1_leader_14 (by decide) (fun c3 => ?_) (fun c3 => ?_)
        · replace h := if_some_t c3 h
          exact hb38 _ ih _ _ _ h _ _ _ hw (lv_sub hl [0, 2] rfl)
        · replace h := if_some_f c3 h
          refine lv_aload_n hx hb dX1_leader_17 rfl (lv_at hl 0 rfl) ?_
          replace h := bd_some h
          obtain ⟨q4, eq4, h⟩ := h
          refine r_getR hx hb hts iw1 hown hK hw x0 0 g1 (by decide) rfl (by decide) rfl (hq _ qw181) (fun _ h9 => h9) dX1_leader_18 eq4 ?_
          refine lv_iload_n hx hb dX1_leader_21 rfl (lv_at hl 2 rfl) ?_
          replace h := gd_some h
          obtain ⟨g5, h⟩ := h
          replace h := bd_some h
          obtain ⟨q6, eq6, h⟩ := h
          refine r_aald hx hb hK hw q4 2 (by decide) rfl g5 dX1_leader_22 eq6 ?_
          replace h := gd_some h
          obtain ⟨g7, h⟩ := h
          refine r_getI hx hb hts iw3 hown hK hw q6 3 g7 (by decide) rfl (by decide) rfl (hq _ qw109) (fun _ h9 => h9) dX1_leader_23 ?_
          refine lv_aload_n hx hb dX1_leader_26 rfl (lv_at hl 0 rfl) ?_
          replace h := bd_some h
          obtain ⟨q8, eq8, h⟩ := h
          refine r_getR hx hb hts iw1 hown hK hw x0 0 g1 (by decide) rfl (by decide) rfl (hq _ qw181) (fun _ h9 => h9) dX1_leader_27 eq8 ?_
          refine lv_iload_n hx hb dX1_leader_30 rfl (lv_at hl 1 rfl) ?_
          replace h := gd_some h
          obtain ⟨g9, h⟩ := h
          replace h := bd_some h
          obtain ⟨q10, eq10, h⟩ := h
          refine r_aald hx hb hK hw q8 2 (by decide) rfl g9 dX1_leader_31 eq10 ?_
          replace h := gd_some h
          obtain ⟨g11, h⟩ := h
          refine r_getI hx hb hts iw3 hown hK hw q10 3 g11 (by decide) rfl (by decide) rfl (hq _ qw109) (fun _ h9 => h9) dX1_leader_32 ?_
          refine lv_icmp_le (tgt := 40) hx hb dX1_leader_35 (by decide) (fun c12 => ?_) (fun c12 => ?_)
          · replace h := if_some_t c12 h
            exact hb40 _ ih _ _ _ _ h _ _ _ hw (lv_sub hl [0, 1, 2] rfl)
          · replace h := if_some_f c12 h
            exact hb38 _ ih _ _ _ h _ _ _ hw (lv_sub hl [0, 2] rfl)
  unfold f_X1_leader at h
  refine lv_iconst (v := (-1 : Int32)) hx hb dX1_leader_0 (by decide) ?_
  refine lv_istore_n (lv' := [(1, .int (-1 : Int32)), (0, .ref (ad o0))]) hx hb dX1_leader_1 rfl hl (by decide) rfl (fun ls hl => ?_)
  refine lv_iconst (v := (0 : Int32)) hx hb dX1_leader_2 (by decide) ?_
  refine lv_istore_n (lv' := [(2, .int (0 : Int32)), (1, .int (-1 : Int32)), (0, .ref (ad o0))]) hx hb dX1_leader_3 rfl hl (by decide) rfl (fun ls hl => ?_)
  exact hb4 1000 _ _ _ _ h _ _ _ hw (lv_sub hl [2, 1, 0] rfl)
theorem dX2_isMissing_0 : decode cX2_isMissing 0 = .ok (.aload_n 0, 1) := by decide +kernel
theorem dX2_isMissing_1 : decode cX2_isMissing 1 = .ok (.getfield 15, 3) := by decide +kernel
theorem dX2_isMissing_4 : decode cX2_isMissing 4 = .ok (.ifCond .ne 7, 3) := by decide +kernel
theorem dX2_isMissing_7 : decode cX2_isMissing 7 = .ok (.iconst 1, 1) := by decide +kernel
theorem dX2_isMissing_8 : decode cX2_isMissing 8 = .ok (.goto 4, 3) := by decide +kernel
theorem dX2_isMissing_11 : decode cX2_isMissing 11 = .ok (.iconst 0, 1) := by decide +kernel
theorem dX2_isMissing_12 : decode cX2_isMissing 12 = .ok (.ireturn, 1) := by decide +kernel
set_option maxHeartbeats 4000000 in
set_option maxRecDepth 100000 in
theorem c_X2_isMissing (l : Launch) (D : va_G) (cy : Nat → ClassId) (ad adK adV : Nat → Nat) (M : Mm) (o0 : Nat) (res : Mm × Int32) (h : f_X2_isMissing M o0 = some res) : Met l yX2_isMissing (wU yX2_isMissing cX2_isMissing 1 (some .boolean)) rmX2_isMissing (va_Pc [.ref (ad o0)] (Pre D cy shX ad nX adK adV M)) (va_Qi (fun r (M2 : Mm) => r = res.2 ∧ M2 = res.1) (Pre D cy shX ad nX adK adV) (Aw ad nX)) 0 0 (Aw ad nX) := by
  refine Met.ofW (cc := cX2_isMissing) (maxL := 1) (ret := (some .boolean)) (by decide) rfl ?_
  intro p e s m args below meth c s₁ B hml hv
  obtain ⟨hargs, hPre⟩ := hv
  have hx := B.exec
  have hb := B.bytes
  have hr := B.returns
  have hts := atoms_spec (ws := wU yX2_isMissing cX2_isMissing 1 (some .boolean)) B.pre
  have hq : ∀ w ∈ gW, w.before args s = true := fun w hw => hts w (List.mem_cons_of_mem _ hw)
  have hcm : ∀ w ∈ gW, w ∈ wU yX2_isMissing cX2_isMissing 1 (some .boolean) := fun w hw => List.mem_cons_of_mem _ hw
  have hown : s.vm.findClass RX2 = some m.cls := findClass_of_methodNamed B.named
  have hlocks := B.notSynchronized
  have hF : CallFix p m c cX2_isMissing 1 s args (wU yX2_isMissing cX2_isMissing 1 (some .boolean)) RX2 := ⟨hx, hb, hml, hown, hts⟩
  have hK := hPre.2.1
  have hZ := hPre.2.2.2
  have hw : Wd D cy shX ad nX (Aw ad nX) s.heap M s.heap [] := ⟨hPre.1, hPre.2.2.1, va_S.rf⟩
  have iw2 : ∀ w ∈ u_ws RX2 TX2 3, w ∈ wU yX2_isMissing cX2_isMissing 1 (some .boolean) := fun w hw => List.mem_cons_of_mem _ (iX2 w hw)
  rw [show entryFrame m args 1 = entryFrame m ([.ref (ad o0)] : List Value).toArray 1 from by rw [hargs]]
  have hl := lv_entry ([.ref (ad o0)]) (n := 1) (Nat.le_of_ble_eq_true rfl)
  rw [lg_entry_eq]
  generalize (lg_sl ([.ref (ad o0)]) ++ List.replicate (1 - (lg_sl ([.ref (ad o0)])).length) Slot.unset).toArray = ls at hl ⊢
  have hl : lv_has ls 1 [(0, .ref (ad o0))] := hl
  unfold f_X2_isMissing at h
  refine lv_aload_n hx hb dX2_isMissing_0 rfl (lv_at hl 0 rfl) ?_
  replace h := gd_some h
  obtain ⟨g1, h⟩ := h
  refine r_getI hx hb hts iw2 hown hK hw o0 1 g1 (by decide) rfl (by decide) rfl (hq _ qw324) (fun _ h9 => h9) dX2_isMissing_1 ?_
  refine lv_if_ne (tgt := 11) hx hb dX2_isMissing_4 (by decide) (fun c2 => ?_) (fun c2 => ?_)
  · replace h := if_some_f c2 h
    refine lv_iconst (v := (0 : Int32)) hx hb dX2_isMissing_11 (by decide) ?_
    exact r_iret hx hb hr rfl hlocks hZ hK hw h dX2_isMissing_12
  · replace h := if_some_t c2 h
    refine lv_iconst (v := (1 : Int32)) hx hb dX2_isMissing_7 (by decide) ?_
    refine lv_goto (tgt := 12) hx hb dX2_isMissing_8 (by decide) ?_
    exact r_iret hx hb hr rfl hlocks hZ hK hw h dX2_isMissing_12
theorem dX2_renew_0 : decode cX2_renew 0 = .ok (.aload_n 0, 1) := by decide +kernel
theorem dX2_renew_1 : decode cX2_renew 1 = .ok (.iload_n 1, 1) := by decide +kernel
theorem dX2_renew_2 : decode cX2_renew 2 = .ok (.putfield 15, 3) := by decide +kernel
theorem dX2_renew_5 : decode cX2_renew 5 = .ok (.aload_n 0, 1) := by decide +kernel
theorem dX2_renew_6 : decode cX2_renew 6 = .ok (.iload_n 2, 1) := by decide +kernel
theorem dX2_renew_7 : decode cX2_renew 7 = .ok (.putfield 19, 3) := by decide +kernel
theorem dX2_renew_10 : decode cX2_renew 10 = .ok (.iconst 0, 1) := by decide +kernel
theorem dX2_renew_11 : decode cX2_renew 11 = .ok (.istore_n 3, 1) := by decide +kernel
theorem dX2_renew_12 : decode cX2_renew 12 = .ok (.iload_n 3, 1) := by decide +kernel
theorem dX2_renew_13 : decode cX2_renew 13 = .ok (.bipush 40, 2) := by decide +kernel
theorem dX2_renew_15 : decode cX2_renew 15 = .ok (.if_icmp .ge 16, 3) := by decide +kernel
theorem dX2_renew_18 : decode cX2_renew 18 = .ok (.aload_n 0, 1) := by decide +kernel
theorem dX2_renew_19 : decode cX2_renew 19 = .ok (.getfield 9, 3) := by decide +kernel
theorem dX2_renew_22 : decode cX2_renew 22 = .ok (.iload_n 3, 1) := by decide +kernel
theorem dX2_renew_23 : decode cX2_renew 23 = .ok (.iconst 0, 1) := by decide +kernel
theorem dX2_renew_24 : decode cX2_renew 24 = .ok (.iastore, 1) := by decide +kernel
theorem dX2_renew_25 : decode cX2_renew 25 = .ok (.iinc 3 1, 3) := by decide +kernel
theorem dX2_renew_28 : decode cX2_renew 28 = .ok (.goto (-16), 3) := by decide +kernel
theorem dX2_renew_31 : decode cX2_renew 31 = .ok (.return_, 1) := by decide +kernel
set_option maxHeartbeats 4000000 in
set_option maxRecDepth 100000 in
theorem c_X2_renew (l : Launch) (D : va_G) (cy : Nat → ClassId) (ad adK adV : Nat → Nat) (M : Mm) (o0 : Nat) (a1 : Int32) (a2 : Int32) (res : Mm × Unit) (h : f_X2_renew M o0 a1 a2 = some res) : Met l yX2_renew (wU yX2_renew cX2_renew 4 none) rmX2_renew (va_Pc [.ref (ad o0), .int a1, .int a2] (Pre D cy shX ad nX adK adV M)) (va_Qv (fun (M2 : Mm) => M2 = res.1) (Pre D cy shX ad nX adK adV) (Aw ad nX)) 0 0 (Aw ad nX) := by
  refine Met.ofW (cc := cX2_renew) (maxL := 4) (ret := none) (by decide) rfl ?_
  intro p e s m args below meth c s₁ B hml hv
  obtain ⟨hargs, hPre⟩ := hv
  have hx := B.exec
  have hb := B.bytes
  have hr := B.returns
  have hts := atoms_spec (ws := wU yX2_renew cX2_renew 4 none) B.pre
  have hq : ∀ w ∈ gW, w.before args s = true := fun w hw => hts w (List.mem_cons_of_mem _ hw)
  have hcm : ∀ w ∈ gW, w ∈ wU yX2_renew cX2_renew 4 none := fun w hw => List.mem_cons_of_mem _ hw
  have hown : s.vm.findClass RX2 = some m.cls := findClass_of_methodNamed B.named
  have hlocks := B.notSynchronized
  have hF : CallFix p m c cX2_renew 4 s args (wU yX2_renew cX2_renew 4 none) RX2 := ⟨hx, hb, hml, hown, hts⟩
  have hK := hPre.2.1
  have hZ := hPre.2.2.2
  have hw : Wd D cy shX ad nX (Aw ad nX) s.heap M s.heap [] := ⟨hPre.1, hPre.2.2.1, va_S.rf⟩
  have iw2 : ∀ w ∈ u_ws RX2 TX2 3, w ∈ wU yX2_renew cX2_renew 4 none := fun w hw => List.mem_cons_of_mem _ (iX2 w hw)
  rw [show entryFrame m args 4 = entryFrame m ([.ref (ad o0), .int a1, .int a2] : List Value).toArray 4 from by rw [hargs]]
  have hl := lv_entry ([.ref (ad o0), .int a1, .int a2]) (n := 4) (Nat.le_of_ble_eq_true rfl)
  rw [lg_entry_eq]
  generalize (lg_sl ([.ref (ad o0), .int a1, .int a2]) ++ List.replicate (4 - (lg_sl ([.ref (ad o0), .int a1, .int a2])).length) Slot.unset).toArray = ls at hl ⊢
  have hl : lv_has ls 4 [(0, .ref (ad o0)), (1, .int a1), (2, .int a2)] := hl
  have hb12 : ∀ (nn : Nat), ∀ (M : Mm) (x0 : Nat) (x3 : Int32), f_X2_renew_b12 nn M x0 x3 = some res → ∀ (H : Heap) (locs : List Loc) (ls : Array Slot), Wd D cy shX ad nX (Aw ad nX) s.heap M H locs → lv_has ls 4 [(0, .ref (ad x0)), (3, .int x3)] → W p l e (headSpec (wU yX2_renew cX2_renew 4 none) rmX2_renew).room s m args below meth c H locs 0 0 (QV D cy shX ad nX adK adV below args s res) (F0 m 12 ls []) := by
    intro nn
    induction nn with
    | zero => intro M x0 x3 h; simp [f_X2_renew_b12] at h
    | succ nn ih =>
      intro M x0 x3 h H locs ls hw hl
      unfold f_X2_renew_b12 at h
      refine lv_iload_n hx hb dX2_renew_12 rfl (lv_at hl 1 rfl) ?_
      refine lv_bipush (v := (40 : Int32)) hx hb dX2_renew_13 (by decide) ?_
      refine lv_icmp_ge (tgt := 31) hx hb dX2_renew_15 (by decide) (fun c1 => ?_) (fun c1 => ?_)
      · replace h := if_some_t c1 h
        exact r_vret hx hb hr hlocks hZ hK hw h dX2_renew_31
      · replace h := if_some_f c1 h
        refine lv_aload_n hx hb dX2_renew_18 rfl (lv_at hl 0 rfl) ?_
        replace h := gd_some h
        obtain ⟨g2, h⟩ := h
        replace h := bd_some h
        obtain ⟨q3, eq3, h⟩ := h
        refine r_getR hx hb hts iw2 hown hK hw x0 0 g2 (by decide) rfl (by decide) rfl (hq _ qw322) (fun _ h9 => h9) dX2_renew_19 eq3 ?_
        refine lv_iload_n hx hb dX2_renew_22 rfl (lv_at hl 1 rfl) ?_
        refine lv_iconst (v := (0 : Int32)) hx hb dX2_renew_23 (by decide) ?_
        replace h := gd_some h
        obtain ⟨g4, h⟩ := h
        refine r_iast hx hb hK hw q3 g4 dX2_renew_24 (fun H locs hw => ?_)
        replace h := lt_some h
        obtain ⟨M5, eM5, h⟩ := h
        rw [← eM5] at hw
        refine lv_iinc (v := x3 + (1 : Int32)) (lv' := [(3, .int (x3 + (1 : Int32))), (0, .ref (ad x0))]) hx hb dX2_renew_25 hl (k := 1) rfl (congrArg (fun z => x3 + z) (by decide)) (by decide) rfl (fun ls hl => ?_)
        refine lv_goto (tgt := 12) hx hb dX2_renew_28 (by decide) ?_
        exact ih _ _ _ h _ _ _ hw (lv_sub hl [1, 0] rfl)
  unfold f_X2_renew at h
  refine lv_aload_n hx hb dX2_renew_0 rfl (lv_at hl 0 rfl) ?_
  refine lv_iload_n hx hb dX2_renew_1 rfl (lv_at hl 1 rfl) ?_
  replace h := gd_some h
  obtain ⟨g6, h⟩ := h
  refine r_putI hx hb hts iw2 tyX2 tyX2_ok nmX2 hown hK hw o0 1 g6 (by decide) rfl (by decide) rfl (hq _ qw324) (fun _ h9 => h9) rfl rfl rfl dX2_renew_2 (fun H locs hw => ?_)
  replace h := lt_some h
  obtain ⟨M7, eM7, h⟩ := h
  rw [← eM7] at hw
  refine lv_aload_n hx hb dX2_renew_5 rfl (lv_at hl 0 rfl) ?_
  refine lv_iload_n hx hb dX2_renew_6 rfl (lv_at hl 2 rfl) ?_
  refine r_putI hx hb hts iw2 tyX2 tyX2_ok nmX2 hown hK hw o0 2 g6 (by decide) rfl (by decide) rfl (hq _ qw326) (fun _ h9 => h9) rfl rfl rfl dX2_renew_7 (fun H locs hw => ?_)
  replace h := lt_some h
  obtain ⟨M8, eM8, h⟩ := h
  rw [← eM8] at hw
  refine lv_iconst (v := (0 : Int32)) hx hb dX2_renew_10 (by decide) ?_
  refine lv_istore_n (lv' := [(3, .int (0 : Int32)), (0, .ref (ad o0)), (1, .int a1), (2, .int a2)]) hx hb dX2_renew_11 rfl hl (by decide) rfl (fun ls hl => ?_)
  exact hb12 1000 _ _ _ h _ _ _ hw (lv_sub hl [1, 0] rfl)
theorem dX2_put_0 : decode cX2_put 0 = .ok (.aload_n 0, 1) := by decide +kernel
theorem dX2_put_1 : decode cX2_put 1 = .ok (.getfield 15, 3) := by decide +kernel
theorem dX2_put_4 : decode cX2_put 4 = .ok (.bipush 8, 2) := by decide +kernel
theorem dX2_put_6 : decode cX2_put 6 = .ok (.if_icmp .ne 14, 3) := by decide +kernel
theorem dX2_put_9 : decode cX2_put 9 = .ok (.aload_n 0, 1) := by decide +kernel
theorem dX2_put_10 : decode cX2_put 10 = .ok (.getfield 9, 3) := by decide +kernel
theorem dX2_put_13 : decode cX2_put 13 = .ok (.iload_n 1, 1) := by decide +kernel
theorem dX2_put_14 : decode cX2_put 14 = .ok (.iload_n 2, 1) := by decide +kernel
theorem dX2_put_15 : decode cX2_put 15 = .ok (.i2b, 1) := by decide +kernel
theorem dX2_put_16 : decode cX2_put 16 = .ok (.iastore, 1) := by decide +kernel
theorem dX2_put_17 : decode cX2_put 17 = .ok (.goto 30, 3) := by decide +kernel
theorem dX2_put_20 : decode cX2_put 20 = .ok (.aload_n 0, 1) := by decide +kernel
theorem dX2_put_21 : decode cX2_put 21 = .ok (.getfield 15, 3) := by decide +kernel
theorem dX2_put_24 : decode cX2_put 24 = .ok (.bipush 16, 2) := by decide +kernel
theorem dX2_put_26 : decode cX2_put 26 = .ok (.if_icmp .ne 14, 3) := by decide +kernel
theorem dX2_put_29 : decode cX2_put 29 = .ok (.aload_n 0, 1) := by decide +kernel
theorem dX2_put_30 : decode cX2_put 30 = .ok (.getfield 9, 3) := by decide +kernel
theorem dX2_put_33 : decode cX2_put 33 = .ok (.iload_n 1, 1) := by decide +kernel
theorem dX2_put_34 : decode cX2_put 34 = .ok (.iload_n 2, 1) := by decide +kernel
theorem dX2_put_35 : decode cX2_put 35 = .ok (.i2s, 1) := by decide +kernel
theorem dX2_put_36 : decode cX2_put 36 = .ok (.iastore, 1) := by decide +kernel
theorem dX2_put_37 : decode cX2_put 37 = .ok (.goto 10, 3) := by decide +kernel
theorem dX2_put_40 : decode cX2_put 40 = .ok (.aload_n 0, 1) := by decide +kernel
theorem dX2_put_41 : decode cX2_put 41 = .ok (.getfield 9, 3) := by decide +kernel
theorem dX2_put_44 : decode cX2_put 44 = .ok (.iload_n 1, 1) := by decide +kernel
theorem dX2_put_45 : decode cX2_put 45 = .ok (.iload_n 2, 1) := by decide +kernel
theorem dX2_put_46 : decode cX2_put 46 = .ok (.iastore, 1) := by decide +kernel
theorem dX2_put_47 : decode cX2_put 47 = .ok (.return_, 1) := by decide +kernel
set_option maxHeartbeats 4000000 in
set_option maxRecDepth 100000 in
theorem c_X2_put (l : Launch) (D : va_G) (cy : Nat → ClassId) (ad adK adV : Nat → Nat) (M : Mm) (o0 : Nat) (a1 : Int32) (a2 : Int32) (res : Mm × Unit) (h : f_X2_put M o0 a1 a2 = some res) : Met l yX2_put (wU yX2_put cX2_put 3 none) rmX2_put (va_Pc [.ref (ad o0), .int a1, .int a2] (Pre D cy shX ad nX adK adV M)) (va_Qv (fun (M2 : Mm) => M2 = res.1) (Pre D cy shX ad nX adK adV) (Aw ad nX)) 0 0 (Aw ad nX) := by
  refine Met.ofW (cc := cX2_put) (maxL := 3) (ret := none) (by decide) rfl ?_
  intro p e s m args below meth c s₁ B hml hv
  obtain ⟨hargs, hPre⟩ := hv
  have hx := B.exec
  have hb := B.bytes
  have hr := B.returns
  have hts := atoms_spec (ws := wU yX2_put cX2_put 3 none) B.pre
  have hq : ∀ w ∈ gW, w.before args s = true := fun w hw => hts w (List.mem_cons_of_mem _ hw)
  have hcm : ∀ w ∈ gW, w ∈ wU yX2_put cX2_put 3 none := fun w hw => List.mem_cons_of_mem _ hw
  have hown : s.vm.findClass RX2 = some m.cls := findClass_of_methodNamed B.named
  have hlocks := B.notSynchronized
  have hF : CallFix p m c cX2_put 3 s args (wU yX2_put cX2_put 3 none) RX2 := ⟨hx, hb, hml, hown, hts⟩
  have hK := hPre.2.1
  have hZ := hPre.2.2.2
  have hw : Wd D cy shX ad nX (Aw ad nX) s.heap M s.heap [] := ⟨hPre.1, hPre.2.2.1, va_S.rf⟩
  have iw2 : ∀ w ∈ u_ws RX2 TX2 3, w ∈ wU yX2_put cX2_put 3 none := fun w hw => List.mem_cons_of_mem _ (iX2 w hw)
  rw [show entryFrame m args 3 = entryFrame m ([.ref (ad o0), .int a1, .int a2] : List Value).toArray 3 from by rw [hargs]]
  have hl := lv_entry ([.ref (ad o0), .int a1, .int a2]) (n := 3) (Nat.le_of_ble_eq_true rfl)
  rw [lg_entry_eq]
  generalize (lg_sl ([.ref (ad o0), .int a1, .int a2]) ++ List.replicate (3 - (lg_sl ([.ref (ad o0), .int a1, .int a2])).length) Slot.unset).toArray = ls at hl ⊢
  have hl : lv_has ls 3 [(0, .ref (ad o0)), (1, .int a1), (2, .int a2)] := hl
  unfold f_X2_put at h
  refine lv_aload_n hx hb dX2_put_0 rfl (lv_at hl 0 rfl) ?_
  replace h := gd_some h
  obtain ⟨g1, h⟩ := h
  refine r_getI hx hb hts iw2 hown hK hw o0 1 g1 (by decide) rfl (by decide) rfl (hq _ qw324) (fun _ h9 => h9) dX2_put_1 ?_
  refine lv_bipush (v := (8 : Int32)) hx hb dX2_put_4 (by decide) ?_
  refine lv_icmp_ne (tgt := 20) hx hb dX2_put_6 (by decide) (fun c2 => ?_) (fun c2 => ?_)
  · replace h := if_some_f c2 h
    refine lv_aload_n hx hb dX2_put_20 rfl (lv_at hl 0 rfl) ?_
    refine r_getI hx hb hts iw2 hown hK hw o0 1 g1 (by decide) rfl (by decide) rfl (hq _ qw324) (fun _ h9 => h9) dX2_put_21 ?_
    refine lv_bipush (v := (16 : Int32)) hx hb dX2_put_24 (by decide) ?_
    refine lv_icmp_ne (tgt := 40) hx hb dX2_put_26 (by decide) (fun c3 => ?_) (fun c3 => ?_)
    · replace h := if_some_f c3 h
      refine lv_aload_n hx hb dX2_put_40 rfl (lv_at hl 0 rfl) ?_
      replace h := bd_some h
      obtain ⟨q4, eq4, h⟩ := h
      refine r_getR hx hb hts iw2 hown hK hw o0 0 g1 (by decide) rfl (by decide) rfl (hq _ qw322) (fun _ h9 => h9) dX2_put_41 eq4 ?_
      refine lv_iload_n hx hb dX2_put_44 rfl (lv_at hl 1 rfl) ?_
      refine lv_iload_n hx hb dX2_put_45 rfl (lv_at hl 2 rfl) ?_
      replace h := gd_some h
      obtain ⟨g5, h⟩ := h
      refine r_iast hx hb hK hw q4 g5 dX2_put_46 (fun H locs hw => ?_)
      replace h := lt_some h
      obtain ⟨M6, eM6, h⟩ := h
      rw [← eM6] at hw
      exact r_vret hx hb hr hlocks hZ hK hw h dX2_put_47
    · replace h := if_some_t c3 h
      refine lv_aload_n hx hb dX2_put_29 rfl (lv_at hl 0 rfl) ?_
      replace h := bd_some h
      obtain ⟨q7, eq7, h⟩ := h
      refine r_getR hx hb hts iw2 hown hK hw o0 0 g1 (by decide) rfl (by decide) rfl (hq _ qw322) (fun _ h9 => h9) dX2_put_30 eq7 ?_
      refine lv_iload_n hx hb dX2_put_33 rfl (lv_at hl 1 rfl) ?_
      refine lv_iload_n hx hb dX2_put_34 rfl (lv_at hl 2 rfl) ?_
      refine lv_i2s (v := a2.toInt16.toInt32) hx hb dX2_put_35 rfl ?_
      replace h := gd_some h
      obtain ⟨g8, h⟩ := h
      refine r_iast hx hb hK hw q7 g8 dX2_put_36 (fun H locs hw => ?_)
      replace h := lt_some h
      obtain ⟨M9, eM9, h⟩ := h
      rw [← eM9] at hw
      refine lv_goto (tgt := 47) hx hb dX2_put_37 (by decide) ?_
      exact r_vret hx hb hr hlocks hZ hK hw h dX2_put_47
  · replace h := if_some_t c2 h
    refine lv_aload_n hx hb dX2_put_9 rfl (lv_at hl 0 rfl) ?_
    replace h := bd_some h
    obtain ⟨q10, eq10, h⟩ := h
    refine r_getR hx hb hts iw2 hown hK hw o0 0 g1 (by decide) rfl (by decide) rfl (hq _ qw322) (fun _ h9 => h9) dX2_put_10 eq10 ?_
    refine lv_iload_n hx hb dX2_put_13 rfl (lv_at hl 1 rfl) ?_
    refine lv_iload_n hx hb dX2_put_14 rfl (lv_at hl 2 rfl) ?_
    refine lv_i2b (v := a2.toInt8.toInt32) hx hb dX2_put_15 rfl ?_
    replace h := gd_some h
    obtain ⟨g11, h⟩ := h
    refine r_iast hx hb hK hw q10 g11 dX2_put_16 (fun H locs hw => ?_)
    replace h := lt_some h
    obtain ⟨M12, eM12, h⟩ := h
    rw [← eM12] at hw
    refine lv_goto (tgt := 47) hx hb dX2_put_17 (by decide) ?_
    exact r_vret hx hb hr hlocks hZ hK hw h dX2_put_47
theorem dX2_hasRange_0 : decode cX2_hasRange 0 = .ok (.iload_n 1, 1) := by decide +kernel
theorem dX2_hasRange_1 : decode cX2_hasRange 1 = .ok (.ifCond .lt 21, 3) := by decide +kernel
theorem dX2_hasRange_4 : decode cX2_hasRange 4 = .ok (.iload_n 2, 1) := by decide +kernel
theorem dX2_hasRange_5 : decode cX2_hasRange 5 = .ok (.ifCond .lt 17, 3) := by decide +kernel
theorem dX2_hasRange_8 : decode cX2_hasRange 8 = .ok (.iload_n 2, 1) := by decide +kernel
theorem dX2_hasRange_9 : decode cX2_hasRange 9 = .ok (.aload_n 0, 1) := by decide +kernel
theorem dX2_hasRange_10 : decode cX2_hasRange 10 = .ok (.getfield 19, 3) := by decide +kernel
theorem dX2_hasRange_13 : decode cX2_hasRange 13 = .ok (.iload_n 1, 1) := by decide +kernel
theorem dX2_hasRange_14 : decode cX2_hasRange 14 = .ok (.isub, 1) := by decide +kernel
theorem dX2_hasRange_15 : decode cX2_hasRange 15 = .ok (.if_icmp .gt 7, 3) := by decide +kernel
theorem dX2_hasRange_18 : decode cX2_hasRange 18 = .ok (.iconst 1, 1) := by decide +kernel
theorem dX2_hasRange_19 : decode cX2_hasRange 19 = .ok (.goto 4, 3) := by decide +kernel
theorem dX2_hasRange_22 : decode cX2_hasRange 22 = .ok (.iconst 0, 1) := by decide +kernel
theorem dX2_hasRange_23 : decode cX2_hasRange 23 = .ok (.ireturn, 1) := by decide +kernel
set_option maxHeartbeats 4000000 in
set_option maxRecDepth 100000 in
theorem c_X2_hasRange (l : Launch) (D : va_G) (cy : Nat → ClassId) (ad adK adV : Nat → Nat) (M : Mm) (o0 : Nat) (a1 : Int32) (a2 : Int32) (res : Mm × Int32) (h : f_X2_hasRange M o0 a1 a2 = some res) : Met l yX2_hasRange (wU yX2_hasRange cX2_hasRange 3 (some .boolean)) rmX2_hasRange (va_Pc [.ref (ad o0), .int a1, .int a2] (Pre D cy shX ad nX adK adV M)) (va_Qi (fun r (M2 : Mm) => r = res.2 ∧ M2 = res.1) (Pre D cy shX ad nX adK adV) (Aw ad nX)) 0 0 (Aw ad nX) := by
  refine Met.ofW (cc := cX2_hasRange) (maxL := 3) (ret := (some .boolean)) (by decide) rfl ?_
  intro p e s m args below meth c s₁ B hml hv
  obtain ⟨hargs, hPre⟩ := hv
  have hx := B.exec
  have hb := B.bytes
  have hr := B.returns
  have hts := atoms_spec (ws := wU yX2_hasRange cX2_hasRange 3 (some .boolean)) B.pre
  have hq : ∀ w ∈ gW, w.before args s = true := fun w hw => hts w (List.mem_cons_of_mem _ hw)
  have hcm : ∀ w ∈ gW, w ∈ wU yX2_hasRange cX2_hasRange 3 (some .boolean) := fun w hw => List.mem_cons_of_mem _ hw
  have hown : s.vm.findClass RX2 = some m.cls := findClass_of_methodNamed B.named
  have hlocks := B.notSynchronized
  have hF : CallFix p m c cX2_hasRange 3 s args (wU yX2_hasRange cX2_hasRange 3 (some .boolean)) RX2 := ⟨hx, hb, hml, hown, hts⟩
  have hK := hPre.2.1
  have hZ := hPre.2.2.2
  have hw : Wd D cy shX ad nX (Aw ad nX) s.heap M s.heap [] := ⟨hPre.1, hPre.2.2.1, va_S.rf⟩
  have iw2 : ∀ w ∈ u_ws RX2 TX2 3, w ∈ wU yX2_hasRange cX2_hasRange 3 (some .boolean) := fun w hw => List.mem_cons_of_mem _ (iX2 w hw)
  rw [show entryFrame m args 3 = entryFrame m ([.ref (ad o0), .int a1, .int a2] : List Value).toArray 3 from by rw [hargs]]
  have hl := lv_entry ([.ref (ad o0), .int a1, .int a2]) (n := 3) (Nat.le_of_ble_eq_true rfl)
  rw [lg_entry_eq]
  generalize (lg_sl ([.ref (ad o0), .int a1, .int a2]) ++ List.replicate (3 - (lg_sl ([.ref (ad o0), .int a1, .int a2])).length) Slot.unset).toArray = ls at hl ⊢
  have hl : lv_has ls 3 [(0, .ref (ad o0)), (1, .int a1), (2, .int a2)] := hl
  unfold f_X2_hasRange at h
  refine lv_iload_n hx hb dX2_hasRange_0 rfl (lv_at hl 1 rfl) ?_
  refine lv_if_lt (tgt := 22) hx hb dX2_hasRange_1 (by decide) (fun c1 => ?_) (fun c1 => ?_)
  · replace h := if_some_t c1 h
    refine lv_iconst (v := (0 : Int32)) hx hb dX2_hasRange_22 (by decide) ?_
    exact r_iret hx hb hr rfl hlocks hZ hK hw h dX2_hasRange_23
  · replace h := if_some_f c1 h
    refine lv_iload_n hx hb dX2_hasRange_4 rfl (lv_at hl 2 rfl) ?_
    refine lv_if_lt (tgt := 22) hx hb dX2_hasRange_5 (by decide) (fun c2 => ?_) (fun c2 => ?_)
    · replace h := if_some_t c2 h
      refine lv_iconst (v := (0 : Int32)) hx hb dX2_hasRange_22 (by decide) ?_
      exact r_iret hx hb hr rfl hlocks hZ hK hw h dX2_hasRange_23
    · replace h := if_some_f c2 h
      refine lv_iload_n hx hb dX2_hasRange_8 rfl (lv_at hl 2 rfl) ?_
      refine lv_aload_n hx hb dX2_hasRange_9 rfl (lv_at hl 0 rfl) ?_
      replace h := gd_some h
      obtain ⟨g3, h⟩ := h
      refine r_getI hx hb hts iw2 hown hK hw o0 2 g3 (by decide) rfl (by decide) rfl (hq _ qw326) (fun _ h9 => h9) dX2_hasRange_10 ?_
      refine lv_iload_n hx hb dX2_hasRange_13 rfl (lv_at hl 1 rfl) ?_
      refine lv_isub hx hb dX2_hasRange_14 ?_
      refine lv_icmp_gt (tgt := 22) hx hb dX2_hasRange_15 (by decide) (fun c4 => ?_) (fun c4 => ?_)
      · replace h := if_some_t c4 h
        refine lv_iconst (v := (0 : Int32)) hx hb dX2_hasRange_22 (by decide) ?_
        exact r_iret hx hb hr rfl hlocks hZ hK hw h dX2_hasRange_23
      · replace h := if_some_f c4 h
        refine lv_iconst (v := (1 : Int32)) hx hb dX2_hasRange_18 (by decide) ?_
        refine lv_goto (tgt := 23) hx hb dX2_hasRange_19 (by decide) ?_
        exact r_iret hx hb hr rfl hlocks hZ hK hw h dX2_hasRange_23
theorem dX4_append_0 : decode cX4_append 0 = .ok (.iload_n 2, 1) := by decide +kernel
theorem dX4_append_1 : decode cX4_append 1 = .ok (.iconst 1, 1) := by decide +kernel
theorem dX4_append_2 : decode cX4_append 2 = .ok (.isub, 1) := by decide +kernel
theorem dX4_append_3 : decode cX4_append 3 = .ok (.istore_n 3, 1) := by decide +kernel
theorem dX4_append_4 : decode cX4_append 4 = .ok (.iload_n 3, 1) := by decide +kernel
theorem dX4_append_5 : decode cX4_append 5 = .ok (.ifCond .lt 38, 3) := by decide +kernel
theorem dX4_append_8 : decode cX4_append 8 = .ok (.aload_n 0, 1) := by decide +kernel
theorem dX4_append_9 : decode cX4_append 9 = .ok (.getfield 9, 3) := by decide +kernel
theorem dX4_append_12 : decode cX4_append 12 = .ok (.aload_n 0, 1) := by decide +kernel
theorem dX4_append_13 : decode cX4_append 13 = .ok (.getfield 15, 3) := by decide +kernel
theorem dX4_append_16 : decode cX4_append 16 = .ok (.iload_n 1, 1) := by decide +kernel
theorem dX4_append_17 : decode cX4_append 17 = .ok (.bipush 8, 2) := by decide +kernel
theorem dX4_append_19 : decode cX4_append 19 = .ok (.iload_n 3, 1) := by decide +kernel
theorem dX4_append_20 : decode cX4_append 20 = .ok (.imul, 1) := by decide +kernel
theorem dX4_append_21 : decode cX4_append 21 = .ok (.iushr, 1) := by decide +kernel
theorem dX4_append_22 : decode cX4_append 22 = .ok (.sipush 255, 3) := by decide +kernel
theorem dX4_append_25 : decode cX4_append 25 = .ok (.iand, 1) := by decide +kernel
theorem dX4_append_26 : decode cX4_append 26 = .ok (.iastore, 1) := by decide +kernel
theorem dX4_append_27 : decode cX4_append 27 = .ok (.aload_n 0, 1) := by decide +kernel
theorem dX4_append_28 : decode cX4_append 28 = .ok (.dup, 1) := by decide +kernel
theorem dX4_append_29 : decode cX4_append 29 = .ok (.getfield 15, 3) := by decide +kernel
theorem dX4_append_32 : decode cX4_append 32 = .ok (.iconst 1, 1) := by decide +kernel
theorem dX4_append_33 : decode cX4_append 33 = .ok (.iadd, 1) := by decide +kernel
theorem dX4_append_34 : decode cX4_append 34 = .ok (.putfield 15, 3) := by decide +kernel
theorem dX4_append_37 : decode cX4_append 37 = .ok (.iinc 3 (-1), 3) := by decide +kernel
theorem dX4_append_40 : decode cX4_append 40 = .ok (.goto (-36), 3) := by decide +kernel
theorem dX4_append_43 : decode cX4_append 43 = .ok (.return_, 1) := by decide +kernel
set_option maxHeartbeats 4000000 in
set_option maxRecDepth 100000 in
theorem c_X4_append (l : Launch) (D : va_G) (cy : Nat → ClassId) (ad adK adV : Nat → Nat) (M : Mm) (o0 : Nat) (a1 : Int32) (a2 : Int32) (res : Mm × Unit) (h : f_X4_append M o0 a1 a2 = some res) : Met l yX4_append (wU yX4_append cX4_append 4 none) rmX4_append (va_Pc [.ref (ad o0), .int a1, .int a2] (Pre D cy shX ad nX adK adV M)) (va_Qv (fun (M2 : Mm) => M2 = res.1) (Pre D cy shX ad nX adK adV) (Aw ad nX)) 0 0 (Aw ad nX) := by
  refine Met.ofW (cc := cX4_append) (maxL := 4) (ret := none) (by decide) rfl ?_
  intro p e s m args below meth c s₁ B hml hv
  obtain ⟨hargs, hPre⟩ := hv
  have hx := B.exec
  have hb := B.bytes
  have hr := B.returns
  have hts := atoms_spec (ws := wU yX4_append cX4_append 4 none) B.pre
  have hq : ∀ w ∈ gW, w.before args s = true := fun w hw => hts w (List.mem_cons_of_mem _ hw)
  have hcm : ∀ w ∈ gW, w ∈ wU yX4_append cX4_append 4 none := fun w hw => List.mem_cons_of_mem _ hw
  have hown : s.vm.findClass RX4 = some m.cls := findClass_of_methodNamed B.named
  have hlocks := B.notSynchronized
  have hF : CallFix p m c cX4_append 4 s args (wU yX4_append cX4_append 4 none) RX4 := ⟨hx, hb, hml, hown, hts⟩
  have hK := hPre.2.1
  have hZ := hPre.2.2.2
  have hw : Wd D cy shX ad nX (Aw ad nX) s.heap M s.heap [] := ⟨hPre.1, hPre.2.2.1, va_S.rf⟩
  have iw4 : ∀ w ∈ u_ws RX4 TX4 6, w ∈ wU yX4_append cX4_append 4 none := fun w hw => List.mem_cons_of_mem _ (iX4 w hw)
  rw [show entryFrame m args 4 = entryFrame m ([.ref (ad o0), .int a1, .int a2] : List Value).toArray 4 from by rw [hargs]]
  have hl := lv_entry ([.ref (ad o0), .int a1, .int a2]) (n := 4) (Nat.le_of_ble_eq_true rfl)
  rw [lg_entry_eq]
  generalize (lg_sl ([.ref (ad o0), .int a1, .int a2]) ++ List.replicate (4 - (lg_sl ([.ref (ad o0), .int a1, .int a2])).length) Slot.unset).toArray = ls at hl ⊢
  have hl : lv_has ls 4 [(0, .ref (ad o0)), (1, .int a1), (2, .int a2)] := hl
  have hb4 : ∀ (nn : Nat), ∀ (M : Mm) (x0 : Nat) (x1 : Int32) (x3 : Int32), f_X4_append_b4 nn M x0 x1 x3 = some res → ∀ (H : Heap) (locs : List Loc) (ls : Array Slot), Wd D cy shX ad nX (Aw ad nX) s.heap M H locs → lv_has ls 4 [(0, .ref (ad x0)), (1, .int x1), (3, .int x3)] → W p l e (headSpec (wU yX4_append cX4_append 4 none) rmX4_append).room s m args below meth c H locs 0 0 (QV D cy shX ad nX adK adV below args s res) (F0 m 4 ls []) := by
    intro nn
    induction nn with
    | zero => intro M x0 x1 x3 h; simp [f_X4_append_b4] at h
    | succ nn ih =>
      intro M x0 x1 x3 h H locs ls hw hl
      unfold f_X4_append_b4 at h
      refine lv_iload_n hx hb dX4_append_4 rfl (lv_at hl 2 rfl) ?_
      refine lv_if_lt (tgt := 43) hx hb dX4_append_5 (by decide) (fun c1 => ?_) (fun c1 => ?_)
      · replace h := if_some_t c1 h
        exact r_vret hx hb hr hlocks hZ hK hw h dX4_append_43
      · replace h := if_some_f c1 h
        refine lv_aload_n hx hb dX4_append_8 rfl (lv_at hl 0 rfl) ?_
        replace h := gd_some h
        obtain ⟨g2, h⟩ := h
        replace h := bd_some h
        obtain ⟨q3, eq3, h⟩ := h
        refine r_getR hx hb hts iw4 hown hK hw x0 0 g2 (by decide) rfl (by decide) rfl (hq _ qw295) (fun _ h9 => h9) dX4_append_9 eq3 ?_
        refine lv_aload_n hx hb dX4_append_12 rfl (lv_at hl 0 rfl) ?_
        refine r_getI hx hb hts iw4 hown hK hw x0 1 g2 (by decide) rfl (by decide) rfl (hq _ qw296) (fun _ h9 => h9) dX4_append_13 ?_
        refine lv_iload_n hx hb dX4_append_16 rfl (lv_at hl 1 rfl) ?_
        refine lv_bipush (v := (8 : Int32)) hx hb dX4_append_17 (by decide) ?_
        refine lv_iload_n hx hb dX4_append_19 rfl (lv_at hl 2 rfl) ?_
        refine lv_imul hx hb dX4_append_20 ?_
        refine lv_iushr (v := (x1.toUInt32 >>> (((8 : Int32) * x3).toUInt32 &&& Int32.toUInt32 31)).toInt32) hx hb dX4_append_21 rfl ?_
        refine lv_sipush (v := (255 : Int32)) hx hb dX4_append_22 (by decide) ?_
        refine lv_iand hx hb dX4_append_25 ?_
        replace h := gd_some h
        obtain ⟨g4, h⟩ := h
        refine r_iast hx hb hK hw q3 g4 dX4_append_26 (fun H locs hw => ?_)
        replace h := lt_some h
        obtain ⟨M5, eM5, h⟩ := h
        rw [← eM5] at hw
        refine lv_aload_n hx hb dX4_append_27 rfl (lv_at hl 0 rfl) ?_
        refine lv_dup hx hb dX4_append_28 rfl ?_
        refine r_getI hx hb hts iw4 hown hK hw x0 1 g2 (by decide) rfl (by decide) rfl (hq _ qw296) (fun _ h9 => h9) dX4_append_29 ?_
        refine lv_iconst (v := (1 : Int32)) hx hb dX4_append_32 (by decide) ?_
        refine lv_iadd hx hb dX4_append_33 ?_
        refine r_putI hx hb hts iw4 tyX4 tyX4_ok nmX4 hown hK hw x0 1 g2 (by decide) rfl (by decide) rfl (hq _ qw296) (fun _ h9 => h9) rfl rfl rfl dX4_append_34 (fun H locs hw => ?_)
        replace h := lt_some h
        obtain ⟨M6, eM6, h⟩ := h
        rw [← eM6] at hw
        refine lv_iinc (v := x3 + (-1 : Int32)) (lv' := [(3, .int (x3 + (-1 : Int32))), (0, .ref (ad x0)), (1, .int x1)]) hx hb dX4_append_37 hl (k := 2) rfl (congrArg (fun z => x3 + z) (by decide)) (by decide) rfl (fun ls hl => ?_)
        refine lv_goto (tgt := 4) hx hb dX4_append_40 (by decide) ?_
        exact ih _ _ _ _ h _ _ _ hw (lv_sub hl [1, 2, 0] rfl)
  unfold f_X4_append at h
  refine lv_iload_n hx hb dX4_append_0 rfl (lv_at hl 2 rfl) ?_
  refine lv_iconst (v := (1 : Int32)) hx hb dX4_append_1 (by decide) ?_
  refine lv_isub hx hb dX4_append_2 ?_
  refine lv_istore_n (lv' := [(3, .int (a2 - (1 : Int32))), (0, .ref (ad o0)), (1, .int a1), (2, .int a2)]) hx hb dX4_append_3 rfl hl (by decide) rfl (fun ls hl => ?_)
  exact hb4 1000 _ _ _ _ h _ _ _ hw (lv_sub hl [1, 2, 0] rfl)
theorem dX4_isDigit_0 : decode cX4_isDigit 0 = .ok (.iload_n 0, 1) := by decide +kernel
theorem dX4_isDigit_1 : decode cX4_isDigit 1 = .ok (.bipush 48, 2) := by decide +kernel
theorem dX4_isDigit_3 : decode cX4_isDigit 3 = .ok (.if_icmp .lt 13, 3) := by decide +kernel
theorem dX4_isDigit_6 : decode cX4_isDigit 6 = .ok (.iload_n 0, 1) := by decide +kernel
theorem dX4_isDigit_7 : decode cX4_isDigit 7 = .ok (.bipush 57, 2) := by decide +kernel
theorem dX4_isDigit_9 : decode cX4_isDigit 9 = .ok (.if_icmp .gt 7, 3) := by decide +kernel
theorem dX4_isDigit_12 : decode cX4_isDigit 12 = .ok (.iconst 1, 1) := by decide +kernel
theorem dX4_isDigit_13 : decode cX4_isDigit 13 = .ok (.goto 4, 3) := by decide +kernel
theorem dX4_isDigit_16 : decode cX4_isDigit 16 = .ok (.iconst 0, 1) := by decide +kernel
theorem dX4_isDigit_17 : decode cX4_isDigit 17 = .ok (.ireturn, 1) := by decide +kernel
set_option maxHeartbeats 4000000 in
set_option maxRecDepth 100000 in
theorem c_X4_isDigit (l : Launch) (D : va_G) (cy : Nat → ClassId) (ad adK adV : Nat → Nat) (M : Mm) (a0 : Int32) (res : Mm × Int32) (h : f_X4_isDigit M a0 = some res) : Met l yX4_isDigit (wU yX4_isDigit cX4_isDigit 1 (some .boolean)) rmX4_isDigit (va_Pc [.int a0] (Pre D cy shX ad nX adK adV M)) (va_Qi (fun r (M2 : Mm) => r = res.2 ∧ M2 = res.1) (Pre D cy shX ad nX adK adV) (Aw ad nX)) 0 0 (Aw ad nX) := by
  refine Met.ofW (cc := cX4_isDigit) (maxL := 1) (ret := (some .boolean)) (by decide) rfl ?_
  intro p e s m args below meth c s₁ B hml hv
  obtain ⟨hargs, hPre⟩ := hv
  have hx := B.exec
  have hb := B.bytes
  have hr := B.returns
  have hts := atoms_spec (ws := wU yX4_isDigit cX4_isDigit 1 (some .boolean)) B.pre
  have hq : ∀ w ∈ gW, w.before args s = true := fun w hw => hts w (List.mem_cons_of_mem _ hw)
  have hcm : ∀ w ∈ gW, w ∈ wU yX4_isDigit cX4_isDigit 1 (some .boolean) := fun w hw => List.mem_cons_of_mem _ hw
  have hown : s.vm.findClass RX4 = some m.cls := findClass_of_methodNamed B.named
  have hlocks := B.notSynchronized
  have hF : CallFix p m c cX4_isDigit 1 s args (wU yX4_isDigit cX4_isDigit 1 (some .boolean)) RX4 := ⟨hx, hb, hml, hown, hts⟩
  have hK := hPre.2.1
  have hZ := hPre.2.2.2
  have hw : Wd D cy shX ad nX (Aw ad nX) s.heap M s.heap [] := ⟨hPre.1, hPre.2.2.1, va_S.rf⟩
  rw [show entryFrame m args 1 = entryFrame m ([.int a0] : List Value).toArray 1 from by rw [hargs]]
  have hl := lv_entry ([.int a0]) (n := 1) (Nat.le_of_ble_eq_true rfl)
  rw [lg_entry_eq]
  generalize (lg_sl ([.int a0]) ++ List.replicate (1 - (lg_sl ([.int a0])).length) Slot.unset).toArray = ls at hl ⊢
  have hl : lv_has ls 1 [(0, .int a0)] := hl
  unfold f_X4_isDigit at h
  refine lv_iload_n hx hb dX4_isDigit_0 rfl (lv_at hl 0 rfl) ?_
  refine lv_bipush (v := (48 : Int32)) hx hb dX4_isDigit_1 (by decide) ?_
  refine lv_icmp_lt (tgt := 16) hx hb dX4_isDigit_3 (by decide) (fun c1 => ?_) (fun c1 => ?_)
  · replace h := if_some_t c1 h
    refine lv_iconst (v := (0 : Int32)) hx hb dX4_isDigit_16 (by decide) ?_
    exact r_iret hx hb hr rfl hlocks hZ hK hw h dX4_isDigit_17
  · replace h := if_some_f c1 h
    refine lv_iload_n hx hb dX4_isDigit_6 rfl (lv_at hl 0 rfl) ?_
    refine lv_bipush (v := (57 : Int32)) hx hb dX4_isDigit_7 (by decide) ?_
    refine lv_icmp_gt (tgt := 16) hx hb dX4_isDigit_9 (by decide) (fun c2 => ?_) (fun c2 => ?_)
    · replace h := if_some_t c2 h
      refine lv_iconst (v := (0 : Int32)) hx hb dX4_isDigit_16 (by decide) ?_
      exact r_iret hx hb hr rfl hlocks hZ hK hw h dX4_isDigit_17
    · replace h := if_some_f c2 h
      refine lv_iconst (v := (1 : Int32)) hx hb dX4_isDigit_12 (by decide) ?_
      refine lv_goto (tgt := 17) hx hb dX4_isDigit_13 (by decide) ?_
      exact r_iret hx hb hr rfl hlocks hZ hK hw h dX4_isDigit_17
theorem dX4_goThroughDigits_0 : decode cX4_goThroughDigits 0 = .ok (.aload_n 0, 1) := by decide +kernel
theorem dX4_goThroughDigits_1 : decode cX4_goThroughDigits 1 = .ok (.getfield 25, 3) := by decide +kernel
theorem dX4_goThroughDigits_4 : decode cX4_goThroughDigits 4 = .ok (.aload_n 0, 1) := by decide +kernel
theorem dX4_goThroughDigits_5 : decode cX4_goThroughDigits 5 = .ok (.getfield 15, 3) := by decide +kernel
theorem dX4_goThroughDigits_8 : decode cX4_goThroughDigits 8 = .ok (.if_icmp .ge 61, 3) := by decide +kernel
theorem dX4_goThroughDigits_11 : decode cX4_goThroughDigits 11 = .ok (.aload_n 0, 1) := by decide +kernel
theorem dX4_goThroughDigits_12 : decode cX4_goThroughDigits 12 = .ok (.getfield 9, 3) := by decide +kernel
theorem dX4_goThroughDigits_15 : decode cX4_goThroughDigits 15 = .ok (.aload_n 0, 1) := by decide +kernel
theorem dX4_goThroughDigits_16 : decode cX4_goThroughDigits 16 = .ok (.getfield 25, 3) := by decide +kernel
theorem dX4_goThroughDigits_19 : decode cX4_goThroughDigits 19 = .ok (.iaload, 1) := by decide +kernel
theorem dX4_goThroughDigits_20 : decode cX4_goThroughDigits 20 = .ok (.invokestatic 115, 3) := by decide +kernel
theorem dX4_goThroughDigits_23 : decode cX4_goThroughDigits 23 = .ok (.ifCond .eq 46, 3) := by decide +kernel
theorem dX4_goThroughDigits_26 : decode cX4_goThroughDigits 26 = .ok (.aload_n 0, 1) := by decide +kernel
theorem dX4_goThroughDigits_27 : decode cX4_goThroughDigits 27 = .ok (.aload_n 0, 1) := by decide +kernel
theorem dX4_goThroughDigits_28 : decode cX4_goThroughDigits 28 = .ok (.getfield 28, 3) := by decide +kernel
theorem dX4_goThroughDigits_31 : decode cX4_goThroughDigits 31 = .ok (.bipush 10, 2) := by decide +kernel
theorem dX4_goThroughDigits_33 : decode cX4_goThroughDigits 33 = .ok (.imul, 1) := by decide +kernel
theorem dX4_goThroughDigits_34 : decode cX4_goThroughDigits 34 = .ok (.aload_n 0, 1) := by decide +kernel
theorem dX4_goThroughDigits_35 : decode cX4_goThroughDigits 35 = .ok (.getfield 9, 3) := by decide +kernel
theorem dX4_goThroughDigits_38 : decode cX4_goThroughDigits 38 = .ok (.aload_n 0, 1) := by decide +kernel
theorem dX4_goThroughDigits_39 : decode cX4_goThroughDigits 39 = .ok (.getfield 25, 3) := by decide +kernel
theorem dX4_goThroughDigits_42 : decode cX4_goThroughDigits 42 = .ok (.iaload, 1) := by decide +kernel
theorem dX4_goThroughDigits_43 : decode cX4_goThroughDigits 43 = .ok (.iadd, 1) := by decide +kernel
theorem dX4_goThroughDigits_44 : decode cX4_goThroughDigits 44 = .ok (.bipush 48, 2) := by decide +kernel
theorem dX4_goThroughDigits_46 : decode cX4_goThroughDigits 46 = .ok (.isub, 1) := by decide +kernel
theorem dX4_goThroughDigits_47 : decode cX4_goThroughDigits 47 = .ok (.sipush 1000, 3) := by decide +kernel
theorem dX4_goThroughDigits_50 : decode cX4_goThroughDigits 50 = .ok (.invokestatic 121, 3) := by decide +kernel
theorem dX4_goThroughDigits_53 : decode cX4_goThroughDigits 53 = .ok (.putfield 28, 3) := by decide +kernel
theorem dX4_goThroughDigits_56 : decode cX4_goThroughDigits 56 = .ok (.aload_n 0, 1) := by decide +kernel
theorem dX4_goThroughDigits_57 : decode cX4_goThroughDigits 57 = .ok (.dup, 1) := by decide +kernel
theorem dX4_goThroughDigits_58 : decode cX4_goThroughDigits 58 = .ok (.getfield 25, 3) := by decide +kernel
theorem dX4_goThroughDigits_61 : decode cX4_goThroughDigits 61 = .ok (.iconst 1, 1) := by decide +kernel
theorem dX4_goThroughDigits_62 : decode cX4_goThroughDigits 62 = .ok (.iadd, 1) := by decide +kernel
theorem dX4_goThroughDigits_63 : decode cX4_goThroughDigits 63 = .ok (.putfield 25, 3) := by decide +kernel
theorem dX4_goThroughDigits_66 : decode cX4_goThroughDigits 66 = .ok (.goto (-66), 3) := by decide +kernel
theorem dX4_goThroughDigits_69 : decode cX4_goThroughDigits 69 = .ok (.return_, 1) := by decide +kernel
set_option maxHeartbeats 4000000 in
set_option maxRecDepth 100000 in
theorem c_X4_goThroughDigits (l : Launch) (D : va_G) (cy : Nat → ClassId) (ad adK adV : Nat → Nat) (M : Mm) (o0 : Nat) (res : Mm × Unit) (h : f_X4_goThroughDigits M o0 = some res) : Met l yX4_goThroughDigits (wU yX4_goThroughDigits cX4_goThroughDigits 1 none) rmX4_goThroughDigits (va_Pc [.ref (ad o0)] (Pre D cy shX ad nX adK adV M)) (va_Qv (fun (M2 : Mm) => M2 = res.1) (Pre D cy shX ad nX adK adV) (Aw ad nX)) 0 0 (Aw ad nX) := by
  refine Met.ofW (cc := cX4_goThroughDigits) (maxL := 1) (ret := none) (by decide) rfl ?_
  intro p e s m args below meth c s₁ B hml hv
  obtain ⟨hargs, hPre⟩ := hv
  have hx := B.exec
  have hb := B.bytes
  have hr := B.returns
  have hts := atoms_spec (ws := wU yX4_goThroughDigits cX4_goThroughDigits 1 none) B.pre
  have hq : ∀ w ∈ gW, w.before args s = true := fun w hw => hts w (List.mem_cons_of_mem _ hw)
  have hcm : ∀ w ∈ gW, w ∈ wU yX4_goThroughDigits cX4_goThroughDigits 1 none := fun w hw => List.mem_cons_of_mem _ hw
  have hown : s.vm.findClass RX4 = some m.cls := findClass_of_methodNamed B.named
  have hlocks := B.notSynchronized
  have hF : CallFix p m c cX4_goThroughDigits 1 s args (wU yX4_goThroughDigits cX4_goThroughDigits 1 none) RX4 := ⟨hx, hb, hml, hown, hts⟩
  have hK := hPre.2.1
  have hZ := hPre.2.2.2
  have hw : Wd D cy shX ad nX (Aw ad nX) s.heap M s.heap [] := ⟨hPre.1, hPre.2.2.1, va_S.rf⟩
  have iw4 : ∀ w ∈ u_ws RX4 TX4 6, w ∈ wU yX4_goThroughDigits cX4_goThroughDigits 1 none := fun w hw => List.mem_cons_of_mem _ (iX4 w hw)
  rw [show entryFrame m args 1 = entryFrame m ([.ref (ad o0)] : List Value).toArray 1 from by rw [hargs]]
  have hl := lv_entry ([.ref (ad o0)]) (n := 1) (Nat.le_of_ble_eq_true rfl)
  rw [lg_entry_eq]
  generalize (lg_sl ([.ref (ad o0)]) ++ List.replicate (1 - (lg_sl ([.ref (ad o0)])).length) Slot.unset).toArray = ls at hl ⊢
  have hl : lv_has ls 1 [(0, .ref (ad o0))] := hl
  have hb0 : ∀ (nn : Nat), ∀ (M : Mm) (x0 : Nat), f_X4_goThroughDigits_b0 nn M x0 = some res → ∀ (H : Heap) (locs : List Loc) (ls : Array Slot), Wd D cy shX ad nX (Aw ad nX) s.heap M H locs → lv_has ls 1 [(0, .ref (ad x0))] → W p l e (headSpec (wU yX4_goThroughDigits cX4_goThroughDigits 1 none) rmX4_goThroughDigits).room s m args below meth c H locs 0 0 (QV D cy shX ad nX adK adV below args s res) (F0 m 0 ls []) := by
    intro nn
    induction nn with
    | zero => intro M x0 h; simp [f_X4_goThroughDigits_b0] at h
    | succ nn ih =>
      intro M x0 h H locs ls hw hl
      unfold f_X4_goThroughDigits_b0 at h
      refine lv_aload_n hx hb dX4_goThroughDigits_0 rfl (lv_at hl 0 rfl) ?_
      replace h := gd_some h
      obtain ⟨g1, h⟩ := h
      refine r_getI hx hb hts iw4 hown hK hw x0 4 g1 (by decide) rfl (by decide) rfl (hq _ qw300) (fun _ h9 => h9) dX4_goThroughDigits_1 ?_
      refine lv_aload_n hx hb dX4_goThroughDigits_4 rfl (lv_at hl 0 rfl) ?_
      refine r_getI hx hb hts iw4 hown hK hw x0 1 g1 (by decide) rfl (by decide) rfl (hq _ qw296) (fun _ h9 => h9) dX4_goThroughDigits_5 ?_
      refine lv_icmp_ge (tgt := 69) hx hb dX4_goThroughDigits_8 (by decide) (fun c2 => ?_) (fun c2 => ?_)
      · replace h := if_some_t c2 h
        exact r_vret hx hb hr hlocks hZ hK hw h dX4_goThroughDigits_69
      · replace h := if_some_f c2 h
        refine lv_aload_n hx hb dX4_goThroughDigits_11 rfl (lv_at hl 0 rfl) ?_
        replace h := bd_some h
        obtain ⟨q3, eq3, h⟩ := h
        refine r_getR hx hb hts iw4 hown hK hw x0 0 g1 (by decide) rfl (by decide) rfl (hq _ qw295) (fun _ h9 => h9) dX4_goThroughDigits_12 eq3 ?_
        refine lv_aload_n hx hb dX4_goThroughDigits_15 rfl (lv_at hl 0 rfl) ?_
        refine r_getI hx hb hts iw4 hown hK hw x0 4 g1 (by decide) rfl (by decide) rfl (hq _ qw300) (fun _ h9 => h9) dX4_goThroughDigits_16 ?_
        replace h := gd_some h
        obtain ⟨g4, h⟩ := h
        refine r_iald hx hb hK hw q3 g4 dX4_goThroughDigits_19 ?_
        replace h := bd_some h
        obtain ⟨r5, er5, h⟩ := h
        refine r_callSi (As := [.int (M.1 q3 (M.1 x0 4).toNatClampNeg)]) (rest := []) hF (c_X4_isDigit l D cy ad adK adV M (M.1 q3 (M.1 x0 4).toNatClampNeg) r5 er5) (gW_goodS hcm qw482 qw480 qw481 qw65) hdX4_isDigit ⟨Nat.le_of_ble_eq_true rfl, Nat.le_of_ble_eq_true rfl⟩ rfl rfl hZ hK hw rfl hl.1 rfl (Nat.le_of_ble_eq_true rfl) ⟨Nat.zero_le _, Nat.zero_le _⟩ dX4_goThroughDigits_20 (fun H locs hw => ?_)
        refine lv_if_eq (tgt := 69) hx hb dX4_goThroughDigits_23 (by decide) (fun c6 => ?_) (fun c6 => ?_)
        · replace h := if_some_t c6 h
          exact r_vret hx hb hr hlocks hZ hK hw h dX4_goThroughDigits_69
        · replace h := if_some_f c6 h
          refine lv_aload_n hx hb dX4_goThroughDigits_26 rfl (lv_at hl 0 rfl) ?_
          refine lv_aload_n hx hb dX4_goThroughDigits_27 rfl (lv_at hl 0 rfl) ?_
          refine r_getI hx hb hts iw4 hown hK hw x0 5 g1 (by decide) rfl (by decide) rfl (hq _ qw301) (fun _ h9 => h9) dX4_goThroughDigits_28 ?_
          refine lv_bipush (v := (10 : Int32)) hx hb dX4_goThroughDigits_31 (by decide) ?_
          refine lv_imul hx hb dX4_goThroughDigits_33 ?_
          refine lv_aload_n hx hb dX4_goThroughDigits_34 rfl (lv_at hl 0 rfl) ?_
          replace h := bd_some h
          obtain ⟨q7, eq7, h⟩ := h
          refine r_getR hx hb hts iw4 hown hK hw x0 0 g1 (by decide) rfl (by decide) rfl (hq _ qw295) (fun _ h9 => h9) dX4_goThroughDigits_35 eq7 ?_
          refine lv_aload_n hx hb dX4_goThroughDigits_38 rfl (lv_at hl 0 rfl) ?_
          refine r_getI hx hb hts iw4 hown hK hw x0 4 g1 (by decide) rfl (by decide) rfl (hq _ qw300) (fun _ h9 => h9) dX4_goThroughDigits_39 ?_
          replace h := gd_some h
          obtain ⟨g8, h⟩ := h
          refine r_iald hx hb hK hw q7 g8 dX4_goThroughDigits_42 ?_
          refine lv_iadd hx hb dX4_goThroughDigits_43 ?_
          refine lv_bipush (v := (48 : Int32)) hx hb dX4_goThroughDigits_44 (by decide) ?_
          refine lv_isub hx hb dX4_goThroughDigits_46 ?_
          refine lv_sipush (v := (1000 : Int32)) hx hb dX4_goThroughDigits_47 (by decide) ?_
          refine va_mmin hx hb (hml.trans hl.1.symm) hown (hq _ qw487) (hq _ qw488) (hq _ qw69) (hq _ qw489) (Nat.le_of_ble_eq_true rfl) (Nat.le_of_ble_eq_true rfl) (Nat.zero_le _) (Nat.zero_le _) dX4_goThroughDigits_50 ?_
          refine r_putI hx hb hts iw4 tyX4 tyX4_ok nmX4 hown hK hw x0 5 g1 (by decide) rfl (by decide) rfl (hq _ qw301) (fun _ h9 => h9) rfl rfl rfl dX4_goThroughDigits_53 (fun H locs hw => ?_)
          replace h := lt_some h
          obtain ⟨M9, eM9, h⟩ := h
          rw [← eM9] at hw
          refine lv_aload_n hx hb dX4_goThroughDigits_56 rfl (lv_at hl 0 rfl) ?_
          refine lv_dup hx hb dX4_goThroughDigits_57 rfl ?_
          refine r_getI hx hb hts iw4 hown hK hw x0 4 g1 (by decide) rfl (by decide) rfl (hq _ qw300) (fun _ h9 => h9) dX4_goThroughDigits_58 ?_
          refine lv_iconst (v := (1 : Int32)) hx hb dX4_goThroughDigits_61 (by decide) ?_
          refine lv_iadd hx hb dX4_goThroughDigits_62 ?_
          refine r_putI hx hb hts iw4 tyX4 tyX4_ok nmX4 hown hK hw x0 4 g1 (by decide) rfl (by decide) rfl (hq _ qw300) (fun _ h9 => h9) rfl rfl rfl dX4_goThroughDigits_63 (fun H locs hw => ?_)
          replace h := lt_some h
          obtain ⟨M10, eM10, h⟩ := h
          rw [← eM10] at hw
          refine lv_goto (tgt := 0) hx hb dX4_goThroughDigits_66 (by decide) ?_
          exact ih _ _ h _ _ _ hw (lv_sub hl [0] rfl)
  unfold f_X4_goThroughDigits at h
  exact hb0 1000 _ _ h _ _ _ hw (lv_sub hl [0] rfl)
theorem dX4_isLetter_0 : decode cX4_isLetter 0 = .ok (.iload_n 0, 1) := by decide +kernel
theorem dX4_isLetter_1 : decode cX4_isLetter 1 = .ok (.bipush 97, 2) := by decide +kernel
theorem dX4_isLetter_3 : decode cX4_isLetter 3 = .ok (.if_icmp .lt 13, 3) := by decide +kernel
theorem dX4_isLetter_6 : decode cX4_isLetter 6 = .ok (.iload_n 0, 1) := by decide +kernel
theorem dX4_isLetter_7 : decode cX4_isLetter 7 = .ok (.bipush 122, 2) := by decide +kernel
theorem dX4_isLetter_9 : decode cX4_isLetter 9 = .ok (.if_icmp .gt 7, 3) := by decide +kernel
theorem dX4_isLetter_12 : decode cX4_isLetter 12 = .ok (.iconst 1, 1) := by decide +kernel
theorem dX4_isLetter_13 : decode cX4_isLetter 13 = .ok (.goto 4, 3) := by decide +kernel
theorem dX4_isLetter_16 : decode cX4_isLetter 16 = .ok (.iconst 0, 1) := by decide +kernel
theorem dX4_isLetter_17 : decode cX4_isLetter 17 = .ok (.ireturn, 1) := by decide +kernel
set_option maxHeartbeats 4000000 in
set_option maxRecDepth 100000 in
theorem c_X4_isLetter (l : Launch) (D : va_G) (cy : Nat → ClassId) (ad adK adV : Nat → Nat) (M : Mm) (a0 : Int32) (res : Mm × Int32) (h : f_X4_isLetter M a0 = some res) : Met l yX4_isLetter (wU yX4_isLetter cX4_isLetter 1 (some .boolean)) rmX4_isLetter (va_Pc [.int a0] (Pre D cy shX ad nX adK adV M)) (va_Qi (fun r (M2 : Mm) => r = res.2 ∧ M2 = res.1) (Pre D cy shX ad nX adK adV) (Aw ad nX)) 0 0 (Aw ad nX) := by
  refine Met.ofW (cc := cX4_isLetter) (maxL := 1) (ret := (some .boolean)) (by decide) rfl ?_
  intro p e s m args below meth c s₁ B hml hv
  obtain ⟨hargs, hPre⟩ := hv
  have hx := B.exec
  have hb := B.bytes
  have hr := B.returns
  have hts := atoms_spec (ws := wU yX4_isLetter cX4_isLetter 1 (some .boolean)) B.pre
  have hq : ∀ w ∈ gW, w.before args s = true := fun w hw => hts w (List.mem_cons_of_mem _ hw)
  have hcm : ∀ w ∈ gW, w ∈ wU yX4_isLetter cX4_isLetter 1 (some .boolean) := fun w hw => List.mem_cons_of_mem _ hw
  have hown : s.vm.findClass RX4 = some m.cls := findClass_of_methodNamed B.named
  have hlocks := B.notSynchronized
  have hF : CallFix p m c cX4_isLetter 1 s args (wU yX4_isLetter cX4_isLetter 1 (some .boolean)) RX4 := ⟨hx, hb, hml, hown, hts⟩
  have hK := hPre.2.1
  have hZ := hPre.2.2.2
  have hw : Wd D cy shX ad nX (Aw ad nX) s.heap M s.heap [] := ⟨hPre.1, hPre.2.2.1, va_S.rf⟩
  rw [show entryFrame m args 1 = entryFrame m ([.int a0] : List Value).toArray 1 from by rw [hargs]]
  have hl := lv_entry ([.int a0]) (n := 1) (Nat.le_of_ble_eq_true rfl)
  rw [lg_entry_eq]
  generalize (lg_sl ([.int a0]) ++ List.replicate (1 - (lg_sl ([.int a0])).length) Slot.unset).toArray = ls at hl ⊢
  have hl : lv_has ls 1 [(0, .int a0)] := hl
  unfold f_X4_isLetter at h
  refine lv_iload_n hx hb dX4_isLetter_0 rfl (lv_at hl 0 rfl) ?_
  refine lv_bipush (v := (97 : Int32)) hx hb dX4_isLetter_1 (by decide) ?_
  refine lv_icmp_lt (tgt := 16) hx hb dX4_isLetter_3 (by decide) (fun c1 => ?_) (fun c1 => ?_)
  · replace h := if_some_t c1 h
    refine lv_iconst (v := (0 : Int32)) hx hb dX4_isLetter_16 (by decide) ?_
    exact r_iret hx hb hr rfl hlocks hZ hK hw h dX4_isLetter_17
  · replace h := if_some_f c1 h
    refine lv_iload_n hx hb dX4_isLetter_6 rfl (lv_at hl 0 rfl) ?_
    refine lv_bipush (v := (122 : Int32)) hx hb dX4_isLetter_7 (by decide) ?_
    refine lv_icmp_gt (tgt := 16) hx hb dX4_isLetter_9 (by decide) (fun c2 => ?_) (fun c2 => ?_)
    · replace h := if_some_t c2 h
      refine lv_iconst (v := (0 : Int32)) hx hb dX4_isLetter_16 (by decide) ?_
      exact r_iret hx hb hr rfl hlocks hZ hK hw h dX4_isLetter_17
    · replace h := if_some_f c2 h
      refine lv_iconst (v := (1 : Int32)) hx hb dX4_isLetter_12 (by decide) ?_
      refine lv_goto (tgt := 17) hx hb dX4_isLetter_13 (by decide) ?_
      exact r_iret hx hb hr rfl hlocks hZ hK hw h dX4_isLetter_17
theorem dX4_goOn_0 : decode cX4_goOn 0 = .ok (.aload_n 0, 1) := by decide +kernel
theorem dX4_goOn_1 : decode cX4_goOn 1 = .ok (.aload_n 0, 1) := by decide +kernel
theorem dX4_goOn_2 : decode cX4_goOn 2 = .ok (.getfield 25, 3) := by decide +kernel
theorem dX4_goOn_5 : decode cX4_goOn 5 = .ok (.putfield 22, 3) := by decide +kernel
theorem dX4_goOn_8 : decode cX4_goOn 8 = .ok (.aload_n 0, 1) := by decide +kernel
theorem dX4_goOn_9 : decode cX4_goOn 9 = .ok (.getfield 22, 3) := by decide +kernel
theorem dX4_goOn_12 : decode cX4_goOn 12 = .ok (.aload_n 0, 1) := by decide +kernel
theorem dX4_goOn_13 : decode cX4_goOn 13 = .ok (.getfield 15, 3) := by decide +kernel
theorem dX4_goOn_16 : decode cX4_goOn 16 = .ok (.if_icmp .ge 30, 3) := by decide +kernel
theorem dX4_goOn_19 : decode cX4_goOn 19 = .ok (.aload_n 0, 1) := by decide +kernel
theorem dX4_goOn_20 : decode cX4_goOn 20 = .ok (.getfield 9, 3) := by decide +kernel
theorem dX4_goOn_23 : decode cX4_goOn 23 = .ok (.aload_n 0, 1) := by decide +kernel
theorem dX4_goOn_24 : decode cX4_goOn 24 = .ok (.getfield 22, 3) := by decide +kernel
theorem dX4_goOn_27 : decode cX4_goOn 27 = .ok (.iaload, 1) := by decide +kernel
theorem dX4_goOn_28 : decode cX4_goOn 28 = .ok (.bipush 32, 2) := by decide +kernel
theorem dX4_goOn_30 : decode cX4_goOn 30 = .ok (.if_icmp .ne 16, 3) := by decide +kernel
theorem dX4_goOn_33 : decode cX4_goOn 33 = .ok (.aload_n 0, 1) := by decide +kernel
theorem dX4_goOn_34 : decode cX4_goOn 34 = .ok (.dup, 1) := by decide +kernel
theorem dX4_goOn_35 : decode cX4_goOn 35 = .ok (.getfield 22, 3) := by decide +kernel
theorem dX4_goOn_38 : decode cX4_goOn 38 = .ok (.iconst 1, 1) := by decide +kernel
theorem dX4_goOn_39 : decode cX4_goOn 39 = .ok (.iadd, 1) := by decide +kernel
theorem dX4_goOn_40 : decode cX4_goOn 40 = .ok (.putfield 22, 3) := by decide +kernel
theorem dX4_goOn_43 : decode cX4_goOn 43 = .ok (.goto (-35), 3) := by decide +kernel
theorem dX4_goOn_46 : decode cX4_goOn 46 = .ok (.aload_n 0, 1) := by decide +kernel
theorem dX4_goOn_47 : decode cX4_goOn 47 = .ok (.aload_n 0, 1) := by decide +kernel
theorem dX4_goOn_48 : decode cX4_goOn 48 = .ok (.getfield 22, 3) := by decide +kernel
theorem dX4_goOn_51 : decode cX4_goOn 51 = .ok (.putfield 25, 3) := by decide +kernel
theorem dX4_goOn_54 : decode cX4_goOn 54 = .ok (.aload_n 0, 1) := by decide +kernel
theorem dX4_goOn_55 : decode cX4_goOn 55 = .ok (.iconst 0, 1) := by decide +kernel
theorem dX4_goOn_56 : decode cX4_goOn 56 = .ok (.putfield 28, 3) := by decide +kernel
theorem dX4_goOn_59 : decode cX4_goOn 59 = .ok (.aload_n 0, 1) := by decide +kernel
theorem dX4_goOn_60 : decode cX4_goOn 60 = .ok (.getfield 22, 3) := by decide +kernel
theorem dX4_goOn_63 : decode cX4_goOn 63 = .ok (.aload_n 0, 1) := by decide +kernel
theorem dX4_goOn_64 : decode cX4_goOn 64 = .ok (.getfield 15, 3) := by decide +kernel
theorem dX4_goOn_67 : decode cX4_goOn 67 = .ok (.if_icmp .lt 11, 3) := by decide +kernel
theorem dX4_goOn_70 : decode cX4_goOn 70 = .ok (.aload_n 0, 1) := by decide +kernel
theorem dX4_goOn_71 : decode cX4_goOn 71 = .ok (.iconst 0, 1) := by decide +kernel
theorem dX4_goOn_72 : decode cX4_goOn 72 = .ok (.putfield 19, 3) := by decide +kernel
theorem dX4_goOn_75 : decode cX4_goOn 75 = .ok (.goto 122, 3) := by decide +kernel
theorem dX4_goOn_78 : decode cX4_goOn 78 = .ok (.aload_n 0, 1) := by decide +kernel
theorem dX4_goOn_79 : decode cX4_goOn 79 = .ok (.getfield 9, 3) := by decide +kernel
theorem dX4_goOn_82 : decode cX4_goOn 82 = .ok (.aload_n 0, 1) := by decide +kernel
theorem dX4_goOn_83 : decode cX4_goOn 83 = .ok (.getfield 22, 3) := by decide +kernel
theorem dX4_goOn_86 : decode cX4_goOn 86 = .ok (.iaload, 1) := by decide +kernel
theorem dX4_goOn_87 : decode cX4_goOn 87 = .ok (.invokestatic 111, 3) := by decide +kernel
theorem dX4_goOn_90 : decode cX4_goOn 90 = .ok (.ifCond .eq 47, 3) := by decide +kernel
theorem dX4_goOn_93 : decode cX4_goOn 93 = .ok (.aload_n 0, 1) := by decide +kernel
theorem dX4_goOn_94 : decode cX4_goOn 94 = .ok (.iconst 1, 1) := by decide +kernel
theorem dX4_goOn_95 : decode cX4_goOn 95 = .ok (.putfield 19, 3) := by decide +kernel
theorem dX4_goOn_98 : decode cX4_goOn 98 = .ok (.aload_n 0, 1) := by decide +kernel
theorem dX4_goOn_99 : decode cX4_goOn 99 = .ok (.getfield 25, 3) := by decide +kernel
theorem dX4_goOn_102 : decode cX4_goOn 102 = .ok (.aload_n 0, 1) := by decide +kernel
theorem dX4_goOn_103 : decode cX4_goOn 103 = .ok (.getfield 15, 3) := by decide +kernel
theorem dX4_goOn_106 : decode cX4_goOn 106 = .ok (.if_icmp .ge 91, 3) := by decide +kernel
theorem dX4_goOn_109 : decode cX4_goOn 109 = .ok (.aload_n 0, 1) := by decide +kernel
theorem dX4_goOn_110 : decode cX4_goOn 110 = .ok (.getfield 9, 3) := by decide +kernel
theorem dX4_goOn_113 : decode cX4_goOn 113 = .ok (.aload_n 0, 1) := by decide +kernel
theorem dX4_goOn_114 : decode cX4_goOn 114 = .ok (.getfield 25, 3) := by decide +kernel
theorem dX4_goOn_117 : decode cX4_goOn 117 = .ok (.iaload, 1) := by decide +kernel
theorem dX4_goOn_118 : decode cX4_goOn 118 = .ok (.invokestatic 111, 3) := by decide +kernel
theorem dX4_goOn_121 : decode cX4_goOn 121 = .ok (.ifCond .eq 76, 3) := by decide +kernel
theorem dX4_goOn_124 : decode cX4_goOn 124 = .ok (.aload_n 0, 1) := by decide +kernel
theorem dX4_goOn_125 : decode cX4_goOn 125 = .ok (.dup, 1) := by decide +kernel
theorem dX4_goOn_126 : decode cX4_goOn 126 = .ok (.getfield 25, 3) := by decide +kernel
theorem dX4_goOn_129 : decode cX4_goOn 129 = .ok (.iconst 1, 1) := by decide +kernel
theorem dX4_goOn_130 : decode cX4_goOn 130 = .ok (.iadd, 1) := by decide +kernel
theorem dX4_goOn_131 : decode cX4_goOn 131 = .ok (.putfield 25, 3) := by decide +kernel
theorem dX4_goOn_134 : decode cX4_goOn 134 = .ok (.goto (-36), 3) := by decide +kernel
theorem dX4_goOn_137 : decode cX4_goOn 137 = .ok (.aload_n 0, 1) := by decide +kernel
theorem dX4_goOn_138 : decode cX4_goOn 138 = .ok (.getfield 9, 3) := by decide +kernel
theorem dX4_goOn_141 : decode cX4_goOn 141 = .ok (.aload_n 0, 1) := by decide +kernel
theorem dX4_goOn_142 : decode cX4_goOn 142 = .ok (.getfield 22, 3) := by decide +kernel
theorem dX4_goOn_145 : decode cX4_goOn 145 = .ok (.iaload, 1) := by decide +kernel
theorem dX4_goOn_146 : decode cX4_goOn 146 = .ok (.invokestatic 115, 3) := by decide +kernel
theorem dX4_goOn_149 : decode cX4_goOn 149 = .ok (.ifCond .eq 15, 3) := by decide +kernel
theorem dX4_goOn_152 : decode cX4_goOn 152 = .ok (.aload_n 0, 1) := by decide +kernel
theorem dX4_goOn_153 : decode cX4_goOn 153 = .ok (.iconst 2, 1) := by decide +kernel
theorem dX4_goOn_154 : decode cX4_goOn 154 = .ok (.putfield 19, 3) := by decide +kernel
theorem dX4_goOn_157 : decode cX4_goOn 157 = .ok (.aload_n 0, 1) := by decide +kernel
theorem dX4_goOn_158 : decode cX4_goOn 158 = .ok (.invokevirtual 118, 3) := by decide +kernel
theorem dX4_goOn_161 : decode cX4_goOn 161 = .ok (.goto 36, 3) := by decide +kernel
theorem dX4_goOn_164 : decode cX4_goOn 164 = .ok (.aload_n 0, 1) := by decide +kernel
theorem dX4_goOn_165 : decode cX4_goOn 165 = .ok (.aload_n 0, 1) := by decide +kernel
theorem dX4_goOn_166 : decode cX4_goOn 166 = .ok (.getfield 9, 3) := by decide +kernel
theorem dX4_goOn_169 : decode cX4_goOn 169 = .ok (.aload_n 0, 1) := by decide +kernel
theorem dX4_goOn_170 : decode cX4_goOn 170 = .ok (.getfield 22, 3) := by decide +kernel
theorem dX4_goOn_173 : decode cX4_goOn 173 = .ok (.iaload, 1) := by decide +kernel
theorem dX4_goOn_174 : decode cX4_goOn 174 = .ok (.bipush 59, 2) := by decide +kernel
theorem dX4_goOn_176 : decode cX4_goOn 176 = .ok (.if_icmp .ne 7, 3) := by decide +kernel
theorem dX4_goOn_179 : decode cX4_goOn 179 = .ok (.iconst 3, 1) := by decide +kernel
theorem dX4_goOn_180 : decode cX4_goOn 180 = .ok (.goto 4, 3) := by decide +kernel
theorem dX4_goOn_183 : decode cX4_goOn 183 = .ok (.iconst 4, 1) := by decide +kernel
theorem dX4_goOn_184 : decode cX4_goOn 184 = .ok (.putfield 19, 3) := by decide +kernel
theorem dX4_goOn_187 : decode cX4_goOn 187 = .ok (.aload_n 0, 1) := by decide +kernel
theorem dX4_goOn_188 : decode cX4_goOn 188 = .ok (.dup, 1) := by decide +kernel
theorem dX4_goOn_189 : decode cX4_goOn 189 = .ok (.getfield 25, 3) := by decide +kernel
theorem dX4_goOn_192 : decode cX4_goOn 192 = .ok (.iconst 1, 1) := by decide +kernel
theorem dX4_goOn_193 : decode cX4_goOn 193 = .ok (.iadd, 1) := by decide +kernel
theorem dX4_goOn_194 : decode cX4_goOn 194 = .ok (.putfield 25, 3) := by decide +kernel
theorem dX4_goOn_197 : decode cX4_goOn 197 = .ok (.return_, 1) := by decide +kernel
set_option maxHeartbeats 4000000 in
set_option maxRecDepth 100000 in
theorem c_X4_goOn (l : Launch) (D : va_G) (cy : Nat → ClassId) (ad adK adV : Nat → Nat) (M : Mm) (o0 : Nat) (res : Mm × Unit) (h : f_X4_goOn M o0 = some res) : Met l yX4_goOn (wU yX4_goOn cX4_goOn 1 none) rmX4_goOn (va_Pc [.ref (ad o0)] (Pre D cy shX ad nX adK adV M)) (va_Qv (fun (M2 : Mm) => M2 = res.1) (Pre D cy shX ad nX adK adV) (Aw ad nX)) 0 0 (Aw ad nX) := by
  refine Met.ofW (cc := cX4_goOn) (maxL := 1) (ret := none) (by decide) rfl ?_
  intro p e s m args below meth c s₁ B hml hv
  obtain ⟨hargs, hPre⟩ := hv
  have hx := B.exec
  have hb := B.bytes
  have hr := B.returns
  have hts := atoms_spec (ws := wU yX4_goOn cX4_goOn 1 none) B.pre
  have hq : ∀ w ∈ gW, w.before args s = true := fun w hw => hts w (List.mem_cons_of_mem _ hw)
  have hcm : ∀ w ∈ gW, w ∈ wU yX4_goOn cX4_goOn 1 none := fun w hw => List.mem_cons_of_mem _ hw
  have hown : s.vm.findClass RX4 = some m.cls := findClass_of_methodNamed B.named
  have hlocks := B.notSynchronized
  have hF : CallFix p m c cX4_goOn 1 s args (wU yX4_goOn cX4_goOn 1 none) RX4 := ⟨hx, hb, hml, hown, hts⟩
  have hK := hPre.2.1
  have hZ := hPre.2.2.2
  have hw : Wd D cy shX ad nX (Aw ad nX) s.heap M s.heap [] := ⟨hPre.1, hPre.2.2.1, va_S.rf⟩
  have iw4 : ∀ w ∈ u_ws RX4 TX4 6, w ∈ wU yX4_goOn cX4_goOn 1 none := fun w hw => List.mem_cons_of_mem _ (iX4 w hw)
  rw [show entryFrame m args 1 = entryFrame m ([.ref (ad o0)] : List Value).toArray 1 from by rw [hargs]]
  have hl := lv_entry ([.ref (ad o0)]) (n := 1) (Nat.le_of_ble_eq_true rfl)
  rw [lg_entry_eq]
  generalize (lg_sl ([.ref (ad o0)]) ++ List.replicate (1 - (lg_sl ([.ref (ad o0)])).length) Slot.unset).toArray = ls at hl ⊢
  have hl : lv_has ls 1 [(0, .ref (ad o0))] := hl
  have hb184 : ∀ (M : Mm) (x0 : Nat) (t0 : Nat) (t1 : Int32), f_X4_goOn_b184 M x0 t0 t1 = some res → ∀ (H : Heap) (locs : List Loc) (ls : Array Slot), Wd D cy shX ad nX (Aw ad nX) s.heap M H locs → lv_has ls 1 [(0, .ref (ad x0))] → W p l e (headSpec (wU yX4_goOn cX4_goOn 1 none) rmX4_goOn).room s m args below meth c H locs 0 0 (QV D cy shX ad nX adK adV below args s res) (F0 m 184 ls [.int t1, .ref (ad t0)]) := by
    intro M x0 t0 t1 h H locs ls hw hl
    unfold f_X4_goOn_b184 at h
    replace h := gd_some h
    obtain ⟨g1, h⟩ := h
    refine r_putI hx hb hts iw4 tyX4 tyX4_ok nmX4 hown hK hw t0 2 g1 (by decide) rfl (by decide) rfl (hq _ qw298) (fun _ h9 => h9) rfl rfl rfl dX4_goOn_184 (fun H locs hw => ?_)
    replace h := lt_some h
    obtain ⟨M2, eM2, h⟩ := h
    rw [← eM2] at hw
    refine lv_aload_n hx hb dX4_goOn_187 rfl (lv_at hl 0 rfl) ?_
    refine lv_dup hx hb dX4_goOn_188 rfl ?_
    replace h := gd_some h
    obtain ⟨g3, h⟩ := h
    refine r_getI hx hb hts iw4 hown hK hw x0 4 g3 (by decide) rfl (by decide) rfl (hq _ qw300) (fun _ h9 => h9) dX4_goOn_189 ?_
    refine lv_iconst (v := (1 : Int32)) hx hb dX4_goOn_192 (by decide) ?_
    refine lv_iadd hx hb dX4_goOn_193 ?_
    refine r_putI hx hb hts iw4 tyX4 tyX4_ok nmX4 hown hK hw x0 4 g3 (by decide) rfl (by decide) rfl (hq _ qw300) (fun _ h9 => h9) rfl rfl rfl dX4_goOn_194 (fun H locs hw => ?_)
    replace h := lt_some h
    obtain ⟨M4, eM4, h⟩ := h
    rw [← eM4] at hw
    exact r_vret hx hb hr hlocks hZ hK hw h dX4_goOn_197
  have hb98 : ∀ (nn : Nat), ∀ (M : Mm) (x0 : Nat), f_X4_goOn_b98 nn M x0 = some res → ∀ (H : Heap) (locs : List Loc) (ls : Array Slot), Wd D cy shX ad nX (Aw ad nX) s.heap M H locs → lv_has ls 1 [(0, .ref (ad x0))] → W p l e (headSpec (wU yX4_goOn cX4_goOn 1 none) rmX4_goOn).room s m args below meth c H locs 0 0 (QV D cy shX ad nX adK adV below args s res) (F0 m 98 ls []) := by
    intro nn
    induction nn with
    | zero => intro M x0 h; simp [f_X4_goOn_b98] at h
    | succ nn ih =>
      intro M x0 h H locs ls hw hl
      unfold f_X4_goOn_b98 at h
      refine lv_aload_n hx hb dX4_goOn_98 rfl (lv_at hl 0 rfl) ?_
      replace h := gd_some h
      obtain ⟨g5, h⟩ := h
      refine r_getI hx hb hts iw4 hown hK hw x0 4 g5 (by decide) rfl (by decide) rfl (hq _ qw300) (fun _ h9 => h9) dX4_goOn_99 ?_
      refine lv_aload_n hx hb dX4_goOn_102 rfl (lv_at hl 0 rfl) ?_
      refine r_getI hx hb hts iw4 hown hK hw x0 1 g5 (by decide) rfl (by decide) rfl (hq _ qw296) (fun _ h9 => h9) dX4_goOn_103 ?_
      refine lv_icmp_ge (tgt := 197) hx hb dX4_goOn_106 (by decide) (fun c6 => ?_) (fun c6 => ?_)
      · replace h := if_some_t c6 h
        exact r_vret hx hb hr hlocks hZ hK hw h dX4_goOn_197
      · replace h := if_some_f c6 h
        refine lv_aload_n hx hb dX4_goOn_109 rfl (lv_at hl 0 rfl) ?_
        replace h := bd_some h
        obtain ⟨q7, eq7, h⟩ := h
        refine r_getR hx hb hts iw4 hown hK hw x0 0 g5 (by decide) rfl (by decide) rfl (hq _ qw295) (fun _ h9 => h9) dX4_goOn_110 eq7 ?_
        refine lv_aload_n hx hb dX4_goOn_113 rfl (lv_at hl 0 rfl) ?_
        refine r_getI hx hb hts iw4 hown hK hw x0 4 g5 (by decide) rfl (by decide) rfl (hq _ qw300) (fun _ h9 => h9) dX4_goOn_114 ?_
        replace h := gd_some h
        obtain ⟨g8, h⟩ := h
        refine r_iald hx hb hK hw q7 g8 dX4_goOn_117 ?_
        replace h := bd_some h
        obtain ⟨r9, er9, h⟩ := h
        refine r_callSi (As := [.int (M.1 q7 (M.1 x0 4).toNatClampNeg)]) (rest := []) hF (c_X4_isLetter l D cy ad adK adV M (M.1 q7 (M.1 x0 4).toNatClampNeg) r9 er9) (gW_goodS hcm qw479 qw477 qw478 qw65) hdX4_isLetter ⟨Nat.le_of_ble_eq_true rfl, Nat.le_of_ble_eq_true rfl⟩ rfl rfl hZ hK hw rfl hl.1 rfl (Nat.le_of_ble_eq_true rfl) ⟨Nat.zero_le _, Nat.zero_le _⟩ dX4_goOn_118 (fun H locs hw => ?_)
        refine lv_if_eq (tgt := 197) hx hb dX4_goOn_121 (by decide) (fun c10 => ?_) (fun c10 => ?_)
        · replace h := if_some_t c10 h
          exact r_vret hx hb hr hlocks hZ hK hw h dX4_goOn_197
        · replace h := if_some_f c10 h
          refine lv_aload_n hx hb dX4_goOn_124 rfl (lv_at hl 0 rfl) ?_
          refine lv_dup hx hb dX4_goOn_125 rfl ?_
          refine r_getI hx hb hts iw4 hown hK hw x0 4 g5 (by decide) rfl (by decide) rfl (hq _ qw300) (fun _ h9 => h9) dX4_goOn_126 ?_
          refine lv_iconst (v := (1 : Int32)) hx hb dX4_goOn_129 (by decide) ?_
          refine lv_iadd hx hb dX4_goOn_130 ?_
          refine r_putI hx hb hts iw4 tyX4 tyX4_ok nmX4 hown hK hw x0 4 g5 (by decide) rfl (by decide) rfl (hq _ qw300) (fun _ h9 => h9) rfl rfl rfl dX4_goOn_131 (fun H locs hw => ?_)
          replace h := lt_some h
          obtain ⟨M11, eM11, h⟩ := h
          rw [← eM11] at hw
          refine lv_goto (tgt := 98) hx hb dX4_goOn_134 (by decide) ?_
          exact ih _ _ h _ _ _ hw (lv_sub hl [0] rfl)
  have hb46 : ∀ (M : Mm) (x0 : Nat), f_X4_goOn_b46 M x0 = some res → ∀ (H : Heap) (locs : List Loc) (ls : Array Slot), Wd D cy shX ad nX (Aw ad nX) s.heap M H locs → lv_has ls 1 [(0, .ref (ad x0))] → W p l e (headSpec (wU yX4_goOn cX4_goOn 1 none) rmX4_goOn).room s m args below meth c H locs 0 0 (QV D cy shX ad nX adK adV below args s res) (F0 m 46 ls []) := by
    intro M x0 h H locs ls hw hl
    unfold f_X4_goOn_b46 at h
    refine lv_aload_n hx hb dX4_goOn_46 rfl (lv_at hl 0 rfl) ?_
    refine lv_aload_n hx hb dX4_goOn_47 rfl (lv_at hl 0 rfl) ?_
    replace h := gd_some h
    obtain ⟨g12, h⟩ := h
    refine r_getI hx hb hts iw4 hown hK hw x0 3 g12 (by decide) rfl (by decide) rfl (hq _ qw299) (fun _ h9 => h9) dX4_goOn_48 ?_
    refine r_putI hx hb hts iw4 tyX4 tyX4_ok nmX4 hown hK hw x0 4 g12 (by decide) rfl (by decide) rfl (hq _ qw300) (fun _ h9 => h9) rfl rfl rfl dX4_goOn_51 (fun H locs hw => ?_)
    replace h := lt_some h
    obtain ⟨M13, eM13, h⟩ := h
    rw [← eM13] at hw
    refine lv_aload_n hx hb dX4_goOn_54 rfl (lv_at hl 0 rfl) ?_
    refine lv_iconst (v := (0 : Int32)) hx hb dX4_goOn_55 (by decide) ?_
    refine r_putI hx hb hts iw4 tyX4 tyX4_ok nmX4 hown hK hw x0 5 g12 (by decide) rfl (by decide) rfl (hq _ qw301) (fun _ h9 => h9) rfl rfl rfl dX4_goOn_56 (fun H locs hw => ?_)
    replace h := lt_some h
    obtain ⟨M14, eM14, h⟩ := h
    rw [← eM14] at hw
    refine lv_aload_n hx hb dX4_goOn_59 rfl (lv_at hl 0 rfl) ?_
    refine r_getI hx hb hts iw4 hown hK hw x0 3 g12 (by decide) rfl (by decide) rfl (hq _ qw299) (fun _ h9 => h9) dX4_goOn_60 ?_
    refine lv_aload_n hx hb dX4_goOn_63 rfl (lv_at hl 0 rfl) ?_
    refine r_getI hx hb hts iw4 hown hK hw x0 1 g12 (by decide) rfl (by decide) rfl (hq _ qw296) (fun _ h9 => h9) dX4_goOn_64 ?_
    refine lv_icmp_lt (tgt := 78) hx hb dX4_goOn_67 (by decide) (fun c15 => ?_) (fun c15 => ?_)
    · replace h := if_some_t c15 h
      refine lv_aload_n hx hb dX4_goOn_78 rfl (lv_at hl 0 rfl) ?_
      replace h := bd_some h
      obtain ⟨q16, eq16, h⟩ := h
      refine r_getR hx hb hts iw4 hown hK hw x0 0 g12 (by decide) rfl (by decide) rfl (hq _ qw295) (fun _ h9 => h9) dX4_goOn_79 eq16 ?_
      refine lv_aload_n hx hb dX4_goOn_82 rfl (lv_at hl 0 rfl) ?_
      refine r_getI hx hb hts iw4 hown hK hw x0 3 g12 (by decide) rfl (by decide) rfl (hq _ qw299) (fun _ h9 => h9) dX4_goOn_83 ?_
      replace h := gd_some h
      obtain ⟨g17, h⟩ := h
      refine r_iald hx hb hK hw q16 g17 dX4_goOn_86 ?_
      replace h := bd_some h
      obtain ⟨r18, er18, h⟩ := h
      refine r_callSi (As := [.int (M14.1 q16 (M14.1 x0 3).toNatClampNeg)]) (rest := []) hF (c_X4_isLetter l D cy ad adK adV M14 (M14.1 q16 (M14.1 x0 3).toNatClampNeg) r18 er18) (gW_goodS hcm qw479 qw477 qw478 qw65) hdX4_isLetter ⟨Nat.le_of_ble_eq_true rfl, Nat.le_of_ble_eq_true rfl⟩ rfl rfl hZ hK hw rfl hl.1 rfl (Nat.le_of_ble_eq_true rfl) ⟨Nat.zero_le _, Nat.zero_le _⟩ dX4_goOn_87 (fun H locs hw => ?_)
      refine lv_if_eq (tgt := 137) hx hb dX4_goOn_90 (by decide) (fun c19 => ?_) (fun c19 => ?_)
      · replace h := if_some_t c19 h
        refine lv_aload_n hx hb dX4_goOn_137 rfl (lv_at hl 0 rfl) ?_
        replace h := bd_some h
        obtain ⟨q20, eq20, h⟩ := h
        refine r_getR hx hb hts iw4 hown hK hw x0 0 g12 (by decide) rfl (by decide) rfl (hq _ qw295) (fun _ h9 => h9) dX4_goOn_138 eq20 ?_
        refine lv_aload_n hx hb dX4_goOn_141 rfl (lv_at hl 0 rfl) ?_
        refine r_getI hx hb hts iw4 hown hK hw x0 3 g12 (by decide) rfl (by decide) rfl (hq _ qw299) (fun _ h9 => h9) dX4_goOn_142 ?_
        replace h := gd_some h
        obtain ⟨g21, h⟩ := h
        refine r_iald hx hb hK hw q20 g21 dX4_goOn_145 ?_
        replace h := bd_some h
        obtain ⟨r22, er22, h⟩ := h
        refine r_callSi (As := [.int (r18.1.1 q20 (r18.1.1 x0 3).toNatClampNeg)]) (rest := []) hF (c_X4_isDigit l D cy ad adK adV r18.1 (r18.1.1 q20 (r18.1.1 x0 3).toNatClampNeg) r22 er22) (gW_goodS hcm qw482 qw480 qw481 qw65) hdX4_isDigit ⟨Nat.le_of_ble_eq_true rfl, Nat.le_of_ble_eq_true rfl⟩ rfl rfl hZ hK hw rfl hl.1 rfl (Nat.le_of_ble_eq_true rfl) ⟨Nat.zero_le _, Nat.zero_le _⟩ dX4_goOn_146 (fun H locs hw => ?_)
        refine lv_if_eq (tgt := 164) hx hb dX4_goOn_149 (by decide) (fun c23 => ?_) (fun c23 => ?_)
        · replace h := if_some_t c23 h
          refine lv_aload_n hx hb dX4_goOn_164 rfl (lv_at hl 0 rfl) ?_
          refine lv_aload_n hx hb dX4_goOn_165 rfl (lv_at hl 0 rfl) ?_
          replace h := bd_some h
          obtain ⟨q24, eq24, h⟩ := h
          refine r_getR hx hb hts iw4 hown hK hw x0 0 g12 (by decide) rfl (by decide) rfl (hq _ qw295) (fun _ h9 => h9) dX4_goOn_166 eq24 ?_
          refine lv_aload_n hx hb dX4_goOn_169 rfl (lv_at hl 0 rfl) ?_
          refine r_getI hx hb hts iw4 hown hK hw x0 3 g12 (by decide) rfl (by decide) rfl (hq _ qw299) (fun _ h9 => h9) dX4_goOn_170 ?_
          replace h := gd_some h
          obtain ⟨g25, h⟩ := h
          refine r_iald hx hb hK hw q24 g25 dX4_goOn_173 ?_
          refine lv_bipush (v := (59 : Int32)) hx hb dX4_goOn_174 (by decide) ?_
          refine lv_icmp_ne (tgt := 183) hx hb dX4_goOn_176 (by decide) (fun c26 => ?_) (fun c26 => ?_)
          · replace h := if_some_f c26 h
            refine lv_iconst (v := (4 : Int32)) hx hb dX4_goOn_183 (by decide) ?_
            exact hb184 _ _ _ _ h _ _ _ hw (lv_sub hl [0] rfl)
          · replace h := if_some_t c26 h
            refine lv_iconst (v := (3 : Int32)) hx hb dX4_goOn_179 (by decide) ?_
            refine lv_goto (tgt := 184) hx hb dX4_goOn_180 (by decide) ?_
            exact hb184 _ _ _ _ h _ _ _ hw (lv_sub hl [0] rfl)
        · replace h := if_some_f c23 h
          refine lv_aload_n hx hb dX4_goOn_152 rfl (lv_at hl 0 rfl) ?_
          refine lv_iconst (v := (2 : Int32)) hx hb dX4_goOn_153 (by decide) ?_
          refine r_putI hx hb hts iw4 tyX4 tyX4_ok nmX4 hown hK hw x0 2 g12 (by decide) rfl (by decide) rfl (hq _ qw298) (fun _ h9 => h9) rfl rfl rfl dX4_goOn_154 (fun H locs hw => ?_)
          replace h := lt_some h
          obtain ⟨M27, eM27, h⟩ := h
          rw [← eM27] at hw
          refine lv_aload_n hx hb dX4_goOn_157 rfl (lv_at hl 0 rfl) ?_
          replace h := bd_some h
          obtain ⟨r28, er28, h⟩ := h
          refine r_callVv (As := []) (rest := []) hF (c_X4_goThroughDigits l D cy ad adK adV M27 x0 r28 er28) (gW_goodV hcm qw486 qw483 qw485 qw2 qw65) hdX4_goThroughDigits rfl ⟨Nat.le_of_ble_eq_true rfl, Nat.le_of_ble_eq_true rfl⟩ rfl rfl hZ hK hw g12 (by decide) rfl rfl hl.1 rfl (Nat.le_of_ble_eq_true rfl) ⟨Nat.zero_le _, Nat.zero_le _⟩ dX4_goOn_158 (fun H locs hw => ?_)
          refine lv_goto (tgt := 197) hx hb dX4_goOn_161 (by decide) ?_
          exact r_vret hx hb hr hlocks hZ hK hw h dX4_goOn_197
      · replace h := if_some_f c19 h
        refine lv_aload_n hx hb dX4_goOn_93 rfl (lv_at hl 0 rfl) ?_
        refine lv_iconst (v := (1 : Int32)) hx hb dX4_goOn_94 (by decide) ?_
        refine r_putI hx hb hts iw4 tyX4 tyX4_ok nmX4 hown hK hw x0 2 g12 (by decide) rfl (by decide) rfl (hq _ qw298) (fun _ h9 => h9) rfl rfl rfl dX4_goOn_95 (fun H locs hw => ?_)
        replace h := lt_some h
        obtain ⟨M29, eM29, h⟩ := h
        rw [← eM29] at hw
        exact hb98 1000 _ _ h _ _ _ hw (lv_sub hl [0] rfl)
    · replace h := if_some_f c15 h
      refine lv_aload_n hx hb dX4_goOn_70 rfl (lv_at hl 0 rfl) ?_
      refine lv_iconst (v := (0 : Int32)) hx hb dX4_goOn_71 (by decide) ?_
      refine r_putI hx hb hts iw4 tyX4 tyX4_ok nmX4 hown hK hw x0 2 g12 (by decide) rfl (by decide) rfl (hq _ qw298) (fun _ h9 => h9) rfl rfl rfl dX4_goOn_72 (fun H locs hw => ?_)
      replace h := lt_some h
      obtain ⟨M30, eM30, h⟩ := h
      rw [← eM30] at hw
      refine lv_goto (tgt := 197) hx hb dX4_goOn_75 (by decide) ?_
      exact r_vret hx hb hr hlocks hZ hK hw h dX4_goOn_197
  have hb8 : ∀ (nn : Nat), ∀ (M : Mm) (x0 : Nat), f_X4_goOn_b8 nn M x0 = some res → ∀ (H : Heap) (locs : List Loc) (ls : Array Slot), Wd D cy shX ad nX (Aw ad nX) s.heap M H locs → lv_has ls 1 [(0, .ref (ad x0))] → W p l e (headSpec (wU yX4_goOn cX4_goOn 1 none) rmX4_goOn).room s m args below meth c H locs 0 0 (QV D cy shX ad nX adK adV below args s res) (F0 m 8 ls []) := by
    intro nn
    induction nn with
    | zero => intro M x0 h; simp [f_X4_goOn_b8] at h
    | succ nn ih =>
      intro M x0 h H locs ls hw hl
      unfold f_X4_goOn_b8 at h
      refine lv_aload_n hx hb dX4_goOn_8 rfl (lv_at hl 0 rfl) ?_
      replace h := gd_some h
      obtain ⟨g31, h⟩ := h
      refine r_getI hx hb hts iw4 hown hK hw x0 3 g31 (by decide) rfl (by decide) rfl (hq _ qw299) (fun _ h9 => h9) dX4_goOn_9 ?_
      refine lv_aload_n hx hb dX4_goOn_12 rfl (lv_at hl 0 rfl) ?_
      refine r_getI hx hb hts iw4 hown hK hw x0 1 g31 (by decide) rfl (by decide) rfl (hq _ qw296) (fun _ h9 => h9) dX4_goOn_13 ?_
      refine lv_icmp_ge (tgt := 46) hx hb dX4_goOn_16 (by decide) (fun c32 => ?_) (fun c32 => ?_)
      · replace h := if_some_t c32 h
        exact hb46 _ _ h _ _ _ hw (lv_sub hl [0] rfl)
      · replace h := if_some_f c32 h
        refine lv_aload_n hx hb dX4_goOn_19 rfl (lv_at hl 0 rfl) ?_
        replace h := bd_some h
        obtain ⟨q33, eq33, h⟩ := h
        refine r_getR hx hb hts iw4 hown hK hw x0 0 g31 (by decide) rfl (by decide) rfl (hq _ qw295) (fun _ h9 => h9) dX4_goOn_20 eq33 ?_
        refine lv_aload_n hx hb dX4_goOn_23 rfl (lv_at hl 0 rfl) ?_
        refine r_getI hx hb hts iw4 hown hK hw x0 3 g31 (by decide) rfl (by decide) rfl (hq _ qw299) (fun _ h9 => h9) dX4_goOn_24 ?_
        replace h := gd_some h
        obtain ⟨g34, h⟩ := h
        refine r_iald hx hb hK hw q33 g34 dX4_goOn_27 ?_
        refine lv_bipush (v := (32 : Int32)) hx hb dX4_goOn_28 (by decide) ?_
        refine lv_icmp_ne (tgt := 46) hx hb dX4_goOn_30 (by decide) (fun c35 => ?_) (fun c35 => ?_)
        · replace h := if_some_f c35 h
          exact hb46 _ _ h _ _ _ hw (lv_sub hl [0] rfl)
        · replace h := if_some_t c35 h
          refine lv_aload_n hx hb dX4_goOn_33 rfl (lv_at hl 0 rfl) ?_
          refine lv_dup hx hb dX4_goOn_34 rfl ?_
          refine r_getI hx hb hts iw4 hown hK hw x0 3 g31 (by decide) rfl (by decide) rfl (hq _ qw299) (fun _ h9 => h9) dX4_goOn_35 ?_
          refine lv_iconst (v := (1 : Int32)) hx hb dX4_goOn_38 (by decide) ?_
          refine lv_iadd hx hb dX4_goOn_39 ?_
          refine r_putI hx hb hts iw4 tyX4 tyX4_ok nmX4 hown hK hw x0 3 g31 (by decide) rfl (by decide) rfl (hq _ qw299) (fun _ h9 => h9) rfl rfl rfl dX4_goOn_40 (fun H locs hw => ?_)
          replace h := lt_some h
          obtain ⟨M36, eM36, h⟩ := h
          rw [← eM36] at hw
          refine lv_goto (tgt := 8) hx hb dX4_goOn_43 (by decide) ?_
          exact ih _ _ h _ _ _ hw (lv_sub hl [0] rfl)
  unfold f_X4_goOn at h
  refine lv_aload_n hx hb dX4_goOn_0 rfl (lv_at hl 0 rfl) ?_
  refine lv_aload_n hx hb dX4_goOn_1 rfl (lv_at hl 0 rfl) ?_
  replace h := gd_some h
  obtain ⟨g37, h⟩ := h
  refine r_getI hx hb hts iw4 hown hK hw o0 4 g37 (by decide) rfl (by decide) rfl (hq _ qw300) (fun _ h9 => h9) dX4_goOn_2 ?_
  refine r_putI hx hb hts iw4 tyX4 tyX4_ok nmX4 hown hK hw o0 3 g37 (by decide) rfl (by decide) rfl (hq _ qw299) (fun _ h9 => h9) rfl rfl rfl dX4_goOn_5 (fun H locs hw => ?_)
  replace h := lt_some h
  obtain ⟨M38, eM38, h⟩ := h
  rw [← eM38] at hw
  exact hb8 1000 _ _ h _ _ _ hw (lv_sub hl [0] rfl)
theorem dX4_isWord_0 : decode cX4_isWord 0 = .ok (.aload_n 0, 1) := by decide +kernel
theorem dX4_isWord_1 : decode cX4_isWord 1 = .ok (.getfield 19, 3) := by decide +kernel
theorem dX4_isWord_4 : decode cX4_isWord 4 = .ok (.iconst 1, 1) := by decide +kernel
theorem dX4_isWord_5 : decode cX4_isWord 5 = .ok (.if_icmp .ne 19, 3) := by decide +kernel
theorem dX4_isWord_8 : decode cX4_isWord 8 = .ok (.aload_n 0, 1) := by decide +kernel
theorem dX4_isWord_9 : decode cX4_isWord 9 = .ok (.getfield 25, 3) := by decide +kernel
theorem dX4_isWord_12 : decode cX4_isWord 12 = .ok (.aload_n 0, 1) := by decide +kernel
theorem dX4_isWord_13 : decode cX4_isWord 13 = .ok (.getfield 22, 3) := by decide +kernel
theorem dX4_isWord_16 : decode cX4_isWord 16 = .ok (.isub, 1) := by decide +kernel
theorem dX4_isWord_17 : decode cX4_isWord 17 = .ok (.aload_n 1, 1) := by decide +kernel
theorem dX4_isWord_18 : decode cX4_isWord 18 = .ok (.invokevirtual 89, 3) := by decide +kernel
theorem dX4_isWord_21 : decode cX4_isWord 21 = .ok (.if_icmp .eq 5, 3) := by decide +kernel
theorem dX4_isWord_24 : decode cX4_isWord 24 = .ok (.iconst 0, 1) := by decide +kernel
theorem dX4_isWord_25 : decode cX4_isWord 25 = .ok (.ireturn, 1) := by decide +kernel
theorem dX4_isWord_26 : decode cX4_isWord 26 = .ok (.iconst 0, 1) := by decide +kernel
theorem dX4_isWord_27 : decode cX4_isWord 27 = .ok (.istore_n 2, 1) := by decide +kernel
theorem dX4_isWord_28 : decode cX4_isWord 28 = .ok (.iload_n 2, 1) := by decide +kernel
theorem dX4_isWord_29 : decode cX4_isWord 29 = .ok (.aload_n 1, 1) := by decide +kernel
theorem dX4_isWord_30 : decode cX4_isWord 30 = .ok (.invokevirtual 89, 3) := by decide +kernel
theorem dX4_isWord_33 : decode cX4_isWord 33 = .ok (.if_icmp .ge 30, 3) := by decide +kernel
theorem dX4_isWord_36 : decode cX4_isWord 36 = .ok (.aload_n 0, 1) := by decide +kernel
theorem dX4_isWord_37 : decode cX4_isWord 37 = .ok (.getfield 9, 3) := by decide +kernel
theorem dX4_isWord_40 : decode cX4_isWord 40 = .ok (.aload_n 0, 1) := by decide +kernel
theorem dX4_isWord_41 : decode cX4_isWord 41 = .ok (.getfield 22, 3) := by decide +kernel
theorem dX4_isWord_44 : decode cX4_isWord 44 = .ok (.iload_n 2, 1) := by decide +kernel
theorem dX4_isWord_45 : decode cX4_isWord 45 = .ok (.iadd, 1) := by decide +kernel
theorem dX4_isWord_46 : decode cX4_isWord 46 = .ok (.iaload, 1) := by decide +kernel
theorem dX4_isWord_47 : decode cX4_isWord 47 = .ok (.aload_n 1, 1) := by decide +kernel
theorem dX4_isWord_48 : decode cX4_isWord 48 = .ok (.iload_n 2, 1) := by decide +kernel
theorem dX4_isWord_49 : decode cX4_isWord 49 = .ok (.invokevirtual 93, 3) := by decide +kernel
theorem dX4_isWord_52 : decode cX4_isWord 52 = .ok (.if_icmp .eq 5, 3) := by decide +kernel
theorem dX4_isWord_55 : decode cX4_isWord 55 = .ok (.iconst 0, 1) := by decide +kernel
theorem dX4_isWord_56 : decode cX4_isWord 56 = .ok (.ireturn, 1) := by decide +kernel
theorem dX4_isWord_57 : decode cX4_isWord 57 = .ok (.iinc 2 1, 3) := by decide +kernel
theorem dX4_isWord_60 : decode cX4_isWord 60 = .ok (.goto (-32), 3) := by decide +kernel
theorem dX4_isWord_63 : decode cX4_isWord 63 = .ok (.iconst 1, 1) := by decide +kernel
theorem dX4_isWord_64 : decode cX4_isWord 64 = .ok (.ireturn, 1) := by decide +kernel
set_option maxHeartbeats 4000000 in
set_option maxRecDepth 100000 in
theorem c_X4_isWord (l : Launch) (D : va_G) (cy : Nat → ClassId) (ad adK adV : Nat → Nat) (M : Mm) (o0 : Nat) (a1 : Nat) (res : Mm × Int32) (h : f_X4_isWord M o0 a1 = some res) : Met l yX4_isWord (wU yX4_isWord cX4_isWord 3 (some .boolean)) rmX4_isWord (va_Pc [.ref (ad o0), .ref (adK a1)] (Pre D cy shX ad nX adK adV M)) (va_Qi (fun r (M2 : Mm) => r = res.2 ∧ M2 = res.1) (Pre D cy shX ad nX adK adV) (Aw ad nX)) 0 0 (Aw ad nX) := by
  refine Met.ofW (cc := cX4_isWord) (maxL := 3) (ret := (some .boolean)) (by decide) rfl ?_
  intro p e s m args below meth c s₁ B hml hv
  obtain ⟨hargs, hPre⟩ := hv
  have hx := B.exec
  have hb := B.bytes
  have hr := B.returns
  have hts := atoms_spec (ws := wU yX4_isWord cX4_isWord 3 (some .boolean)) B.pre
  have hq : ∀ w ∈ gW, w.before args s = true := fun w hw => hts w (List.mem_cons_of_mem _ hw)
  have hcm : ∀ w ∈ gW, w ∈ wU yX4_isWord cX4_isWord 3 (some .boolean) := fun w hw => List.mem_cons_of_mem _ hw
  have hown : s.vm.findClass RX4 = some m.cls := findClass_of_methodNamed B.named
  have hlocks := B.notSynchronized
  have hF : CallFix p m c cX4_isWord 3 s args (wU yX4_isWord cX4_isWord 3 (some .boolean)) RX4 := ⟨hx, hb, hml, hown, hts⟩
  have hK := hPre.2.1
  have hZ := hPre.2.2.2
  have hw : Wd D cy shX ad nX (Aw ad nX) s.heap M s.heap [] := ⟨hPre.1, hPre.2.2.1, va_S.rf⟩
  have iw4 : ∀ w ∈ u_ws RX4 TX4 6, w ∈ wU yX4_isWord cX4_isWord 3 (some .boolean) := fun w hw => List.mem_cons_of_mem _ (iX4 w hw)
  rw [show entryFrame m args 3 = entryFrame m ([.ref (ad o0), .ref (adK a1)] : List Value).toArray 3 from by rw [hargs]]
  have hl := lv_entry ([.ref (ad o0), .ref (adK a1)]) (n := 3) (Nat.le_of_ble_eq_true rfl)
  rw [lg_entry_eq]
  generalize (lg_sl ([.ref (ad o0), .ref (adK a1)]) ++ List.replicate (3 - (lg_sl ([.ref (ad o0), .ref (adK a1)])).length) Slot.unset).toArray = ls at hl ⊢
  have hl : lv_has ls 3 [(0, .ref (ad o0)), (1, .ref (adK a1))] := hl
  have hb28 : ∀ (nn : Nat), ∀ (M : Mm) (x0 : Nat) (x1 : Nat) (x2 : Int32), f_X4_isWord_b28 nn M x0 x1 x2 = some res → ∀ (H : Heap) (locs : List Loc) (ls : Array Slot), Wd D cy shX ad nX (Aw ad nX) s.heap M H locs → lv_has ls 3 [(0, .ref (ad x0)), (1, .ref (adK x1)), (2, .int x2)] → W p l e (headSpec (wU yX4_isWord cX4_isWord 3 (some .boolean)) rmX4_isWord).room s m args below meth c H locs 0 0 (QI D cy shX ad nX adK adV below args s res) (F0 m 28 ls []) := by
    intro nn
    induction nn with
    | zero => intro M x0 x1 x2 h; simp [f_X4_isWord_b28] at h
    | succ nn ih =>
      intro M x0 x1 x2 h H locs ls hw hl
      unfold f_X4_isWord_b28 at h
      refine lv_iload_n hx hb dX4_isWord_28 rfl (lv_at hl 2 rfl) ?_
      refine lv_aload_n hx hb dX4_isWord_29 rfl (lv_at hl 1 rfl) ?_
      replace h := gd_some h
      obtain ⟨g1, h⟩ := h
      refine r_slength (rest := [.int x2]) hF hZ hK hw g1 qw503 hl.1 (Nat.le_of_ble_eq_true rfl) ⟨Nat.le_of_ble_eq_true rfl, Nat.le_of_ble_eq_true rfl⟩ ⟨Nat.zero_le _, Nat.zero_le _⟩ dX4_isWord_30 (fun H locs hw => ?_)
      refine lv_icmp_ge (tgt := 63) hx hb dX4_isWord_33 (by decide) (fun c2 => ?_) (fun c2 => ?_)
      · replace h := if_some_t c2 h
        refine lv_iconst (v := (1 : Int32)) hx hb dX4_isWord_63 (by decide) ?_
        exact r_iret hx hb hr rfl hlocks hZ hK hw h dX4_isWord_64
      · replace h := if_some_f c2 h
        refine lv_aload_n hx hb dX4_isWord_36 rfl (lv_at hl 0 rfl) ?_
        replace h := gd_some h
        obtain ⟨g3, h⟩ := h
        replace h := bd_some h
        obtain ⟨q4, eq4, h⟩ := h
        refine r_getR hx hb hts iw4 hown hK hw x0 0 g3 (by decide) rfl (by decide) rfl (hq _ qw295) (fun _ h9 => h9) dX4_isWord_37 eq4 ?_
        refine lv_aload_n hx hb dX4_isWord_40 rfl (lv_at hl 0 rfl) ?_
        refine r_getI hx hb hts iw4 hown hK hw x0 3 g3 (by decide) rfl (by decide) rfl (hq _ qw299) (fun _ h9 => h9) dX4_isWord_41 ?_
        refine lv_iload_n hx hb dX4_isWord_44 rfl (lv_at hl 2 rfl) ?_
        refine lv_iadd hx hb dX4_isWord_45 ?_
        replace h := gd_some h
        obtain ⟨g5, h⟩ := h
        refine r_iald hx hb hK hw q4 g5 dX4_isWord_46 ?_
        refine lv_aload_n hx hb dX4_isWord_47 rfl (lv_at hl 1 rfl) ?_
        refine lv_iload_n hx hb dX4_isWord_48 rfl (lv_at hl 2 rfl) ?_
        replace h := gd_some h
        obtain ⟨g6, h⟩ := h
        refine r_scharAt (rest := [.int (M.1 q4 ((M.1 x0 3) + x2).toNatClampNeg)]) hF hZ hK hw g6 qw513 hl.1 (Nat.le_of_ble_eq_true rfl) ⟨Nat.le_of_ble_eq_true rfl, Nat.le_of_ble_eq_true rfl⟩ ⟨Nat.zero_le _, Nat.zero_le _⟩ dX4_isWord_49 (fun H locs hw => ?_)
        refine lv_icmp_eq (tgt := 57) hx hb dX4_isWord_52 (by decide) (fun c7 => ?_) (fun c7 => ?_)
        · replace h := if_some_t c7 h
          refine lv_iinc (v := x2 + (1 : Int32)) (lv' := [(2, .int (x2 + (1 : Int32))), (0, .ref (ad x0)), (1, .ref (adK x1))]) hx hb dX4_isWord_57 hl (k := 2) rfl (congrArg (fun z => x2 + z) (by decide)) (by decide) rfl (fun ls hl => ?_)
          refine lv_goto (tgt := 28) hx hb dX4_isWord_60 (by decide) ?_
          exact ih _ _ _ _ h _ _ _ hw (lv_sub hl [1, 2, 0] rfl)
        · replace h := if_some_f c7 h
          refine lv_iconst (v := (0 : Int32)) hx hb dX4_isWord_55 (by decide) ?_
          exact r_iret hx hb hr rfl hlocks hZ hK hw h dX4_isWord_56
  unfold f_X4_isWord at h
  refine lv_aload_n hx hb dX4_isWord_0 rfl (lv_at hl 0 rfl) ?_
  replace h := gd_some h
  obtain ⟨g8, h⟩ := h
  refine r_getI hx hb hts iw4 hown hK hw o0 2 g8 (by decide) rfl (by decide) rfl (hq _ qw298) (fun _ h9 => h9) dX4_isWord_1 ?_
  refine lv_iconst (v := (1 : Int32)) hx hb dX4_isWord_4 (by decide) ?_
  refine lv_icmp_ne (tgt := 24) hx hb dX4_isWord_5 (by decide) (fun c9 => ?_) (fun c9 => ?_)
  · replace h := if_some_f c9 h
    refine lv_iconst (v := (0 : Int32)) hx hb dX4_isWord_24 (by decide) ?_
    exact r_iret hx hb hr rfl hlocks hZ hK hw h dX4_isWord_25
  · replace h := if_some_t c9 h
    refine lv_aload_n hx hb dX4_isWord_8 rfl (lv_at hl 0 rfl) ?_
    refine r_getI hx hb hts iw4 hown hK hw o0 4 g8 (by decide) rfl (by decide) rfl (hq _ qw300) (fun _ h9 => h9) dX4_isWord_9 ?_
    refine lv_aload_n hx hb dX4_isWord_12 rfl (lv_at hl 0 rfl) ?_
    refine r_getI hx hb hts iw4 hown hK hw o0 3 g8 (by decide) rfl (by decide) rfl (hq _ qw299) (fun _ h9 => h9) dX4_isWord_13 ?_
    refine lv_isub hx hb dX4_isWord_16 ?_
    refine lv_aload_n hx hb dX4_isWord_17 rfl (lv_at hl 1 rfl) ?_
    replace h := gd_some h
    obtain ⟨g10, h⟩ := h
    refine r_slength (rest := [.int ((M.1 o0 4) - (M.1 o0 3))]) hF hZ hK hw g10 qw503 hl.1 (Nat.le_of_ble_eq_true rfl) ⟨Nat.le_of_ble_eq_true rfl, Nat.le_of_ble_eq_true rfl⟩ ⟨Nat.zero_le _, Nat.zero_le _⟩ dX4_isWord_18 (fun H locs hw => ?_)
    refine lv_icmp_eq (tgt := 26) hx hb dX4_isWord_21 (by decide) (fun c11 => ?_) (fun c11 => ?_)
    · replace h := if_some_t c11 h
      refine lv_iconst (v := (0 : Int32)) hx hb dX4_isWord_26 (by decide) ?_
      refine lv_istore_n (lv' := [(2, .int (0 : Int32)), (0, .ref (ad o0)), (1, .ref (adK a1))]) hx hb dX4_isWord_27 rfl hl (by decide) rfl (fun ls hl => ?_)
      exact hb28 1000 _ _ _ _ h _ _ _ hw (lv_sub hl [1, 2, 0] rfl)
    · replace h := if_some_f c11 h
      refine lv_iconst (v := (0 : Int32)) hx hb dX4_isWord_24 (by decide) ?_
      exact r_iret hx hb hr rfl hlocks hZ hK hw h dX4_isWord_25

theorem dX6_next_0 : decode cX6_next 0 = .ok (.iload_n 1, 1) := by decide +kernel
theorem dX6_next_1 : decode cX6_next 1 = .ok (.ifCond .lt 8, 3) := by decide +kernel
theorem dX6_next_4 : decode cX6_next 4 = .ok (.iload_n 1, 1) := by decide +kernel
theorem dX6_next_5 : decode cX6_next 5 = .ok (.iconst 4, 1) := by decide +kernel
theorem dX6_next_6 : decode cX6_next 6 = .ok (.if_icmp .le 9, 3) := by decide +kernel
theorem dX6_next_9 : decode cX6_next 9 = .ok (.aload_n 0, 1) := by decide +kernel
theorem dX6_next_10 : decode cX6_next 10 = .ok (.iconst 0, 1) := by decide +kernel
theorem dX6_next_11 : decode cX6_next 11 = .ok (.invokevirtual 59, 3) := by decide +kernel
theorem dX6_next_14 : decode cX6_next 14 = .ok (.ireturn, 1) := by decide +kernel
theorem dX6_next_15 : decode cX6_next 15 = .ok (.aload_n 0, 1) := by decide +kernel
theorem dX6_next_16 : decode cX6_next 16 = .ok (.getfield 10, 3) := by decide +kernel
theorem dX6_next_19 : decode cX6_next 19 = .ok (.invokevirtual 159, 3) := by decide +kernel
theorem dX6_next_22 : decode cX6_next 22 = .ok (.ifCond .eq 9, 3) := by decide +kernel
theorem dX6_next_25 : decode cX6_next 25 = .ok (.aload_n 0, 1) := by decide +kernel
theorem dX6_next_26 : decode cX6_next 26 = .ok (.iconst 3, 1) := by decide +kernel
theorem dX6_next_27 : decode cX6_next 27 = .ok (.invokevirtual 59, 3) := by decide +kernel
theorem dX6_next_30 : decode cX6_next 30 = .ok (.ireturn, 1) := by decide +kernel
theorem dX6_next_31 : decode cX6_next 31 = .ok (.aload_n 0, 1) := by decide +kernel
theorem dX6_next_32 : decode cX6_next 32 = .ok (.getfield 10, 3) := by decide +kernel
theorem dX6_next_35 : decode cX6_next 35 = .ok (.getfield 120, 3) := by decide +kernel
theorem dX6_next_38 : decode cX6_next 38 = .ok (.aload_n 0, 1) := by decide +kernel
theorem dX6_next_39 : decode cX6_next 39 = .ok (.getfield 10, 3) := by decide +kernel
theorem dX6_next_42 : decode cX6_next 42 = .ok (.getfield 117, 3) := by decide +kernel
theorem dX6_next_45 : decode cX6_next 45 = .ok (.aaload, 1) := by decide +kernel
theorem dX6_next_46 : decode cX6_next 46 = .ok (.astore_n 2, 1) := by decide +kernel
theorem dX6_next_47 : decode cX6_next 47 = .ok (.aload_n 0, 1) := by decide +kernel
theorem dX6_next_48 : decode cX6_next 48 = .ok (.getfield 10, 3) := by decide +kernel
theorem dX6_next_51 : decode cX6_next 51 = .ok (.aload_n 2, 1) := by decide +kernel
theorem dX6_next_52 : decode cX6_next 52 = .ok (.getfield 124, 3) := by decide +kernel
theorem dX6_next_55 : decode cX6_next 55 = .ok (.invokevirtual 163, 3) := by decide +kernel
theorem dX6_next_58 : decode cX6_next 58 = .ok (.istore_n 3, 1) := by decide +kernel
theorem dX6_next_59 : decode cX6_next 59 = .ok (.aload_n 0, 1) := by decide +kernel
theorem dX6_next_60 : decode cX6_next 60 = .ok (.getfield 10, 3) := by decide +kernel
theorem dX6_next_63 : decode cX6_next 63 = .ok (.aload_n 2, 1) := by decide +kernel
theorem dX6_next_64 : decode cX6_next 64 = .ok (.getfield 129, 3) := by decide +kernel
theorem dX6_next_67 : decode cX6_next 67 = .ok (.invokevirtual 163, 3) := by decide +kernel
theorem dX6_next_70 : decode cX6_next 70 = .ok (.istore 4, 2) := by decide +kernel
theorem dX6_next_72 : decode cX6_next 72 = .ok (.iload_n 1, 1) := by decide +kernel
theorem dX6_next_73 : decode cX6_next 73 = .ok (.tableswitch 60 0 3 #[31, 33, 36, 47], 31) := by decide +kernel
theorem dX6_next_104 : decode cX6_next 104 = .ok (.iload_n 3, 1) := by decide +kernel
theorem dX6_next_105 : decode cX6_next 105 = .ok (.ireturn, 1) := by decide +kernel
theorem dX6_next_106 : decode cX6_next 106 = .ok (.iload 4, 2) := by decide +kernel
theorem dX6_next_108 : decode cX6_next 108 = .ok (.ireturn, 1) := by decide +kernel
theorem dX6_next_109 : decode cX6_next 109 = .ok (.aload_n 0, 1) := by decide +kernel
theorem dX6_next_110 : decode cX6_next 110 = .ok (.getfield 10, 3) := by decide +kernel
theorem dX6_next_113 : decode cX6_next 113 = .ok (.iload_n 3, 1) := by decide +kernel
theorem dX6_next_114 : decode cX6_next 114 = .ok (.iload 4, 2) := by decide +kernel
theorem dX6_next_116 : decode cX6_next 116 = .ok (.invokevirtual 166, 3) := by decide +kernel
theorem dX6_next_119 : decode cX6_next 119 = .ok (.ireturn, 1) := by decide +kernel
theorem dX6_next_120 : decode cX6_next 120 = .ok (.aload_n 0, 1) := by decide +kernel
theorem dX6_next_121 : decode cX6_next 121 = .ok (.getfield 10, 3) := by decide +kernel
theorem dX6_next_124 : decode cX6_next 124 = .ok (.aload_n 2, 1) := by decide +kernel
theorem dX6_next_125 : decode cX6_next 125 = .ok (.getfield 124, 3) := by decide +kernel
theorem dX6_next_128 : decode cX6_next 128 = .ok (.iload_n 3, 1) := by decide +kernel
theorem dX6_next_129 : decode cX6_next 129 = .ok (.invokevirtual 170, 3) := by decide +kernel
theorem dX6_next_132 : decode cX6_next 132 = .ok (.ireturn, 1) := by decide +kernel
theorem dX6_next_133 : decode cX6_next 133 = .ok (.aload_n 0, 1) := by decide +kernel
theorem dX6_next_134 : decode cX6_next 134 = .ok (.getfield 10, 3) := by decide +kernel
theorem dX6_next_137 : decode cX6_next 137 = .ok (.aload_n 2, 1) := by decide +kernel
theorem dX6_next_138 : decode cX6_next 138 = .ok (.getfield 129, 3) := by decide +kernel
theorem dX6_next_141 : decode cX6_next 141 = .ok (.iload 4, 2) := by decide +kernel
theorem dX6_next_143 : decode cX6_next 143 = .ok (.invokevirtual 170, 3) := by decide +kernel
theorem dX6_next_146 : decode cX6_next 146 = .ok (.ireturn, 1) := by decide +kernel
set_option maxHeartbeats 4000000 in
set_option maxRecDepth 100000 in
theorem c_X6_next (l : Launch) (D : va_G) (cy : Nat → ClassId) (ad adK adV : Nat → Nat) (M : Mm) (o0 : Nat) (a1 : Int32) (res : Mm × Int32) (h : f_X6_next M o0 a1 = some res) : Met l yX6_next (wU yX6_next cX6_next 5 (some .int)) rmX6_next (va_Pc [.ref (ad o0), .int a1] (Pre D cy shX ad nX adK adV M)) (va_Qi (fun r (M2 : Mm) => r = res.2 ∧ M2 = res.1) (Pre D cy shX ad nX adK adV) (Aw ad nX)) 0 0 (Aw ad nX) := by
  refine Met.ofW (cc := cX6_next) (maxL := 5) (ret := (some .int)) (by decide) rfl ?_
  intro p e s m args below meth c s₁ B hml hv
  obtain ⟨hargs, hPre⟩ := hv
  have hx := B.exec
  have hb := B.bytes
  have hr := B.returns
  have hts := atoms_spec (ws := wU yX6_next cX6_next 5 (some .int)) B.pre
  have hq : ∀ w ∈ gW, w.before args s = true := fun w hw => hts w (List.mem_cons_of_mem _ hw)
  have hcm : ∀ w ∈ gW, w ∈ wU yX6_next cX6_next 5 (some .int) := fun w hw => List.mem_cons_of_mem _ hw
  have hown : s.vm.findClass RX6 = some m.cls := findClass_of_methodNamed B.named
  have hlocks := B.notSynchronized
  have hF : CallFix p m c cX6_next 5 s args (wU yX6_next cX6_next 5 (some .int)) RX6 := ⟨hx, hb, hml, hown, hts⟩
  have hK := hPre.2.1
  have hZ := hPre.2.2.2
  have hw : Wd D cy shX ad nX (Aw ad nX) s.heap M s.heap [] := ⟨hPre.1, hPre.2.2.1, va_S.rf⟩
  have iw0 : ∀ w ∈ u_ws RX0 TX0 9, w ∈ wU yX6_next cX6_next 5 (some .int) := fun w hw => List.mem_cons_of_mem _ (iX0 w hw)
  have iw1 : ∀ w ∈ u_ws RX1 TX1 11, w ∈ wU yX6_next cX6_next 5 (some .int) := fun w hw => List.mem_cons_of_mem _ (iX1 w hw)
  have iw6 : ∀ w ∈ u_ws RX6 TX6 8, w ∈ wU yX6_next cX6_next 5 (some .int) := fun w hw => List.mem_cons_of_mem _ (iX6 w hw)
  rw [show entryFrame m args 5 = entryFrame m ([.ref (ad o0), .int a1] : List Value).toArray 5 from by rw [hargs]]
  have hl := lv_entry ([.ref (ad o0), .int a1]) (n := 5) (Nat.le_of_ble_eq_true rfl)
  rw [lg_entry_eq]
  generalize (lg_sl ([.ref (ad o0), .int a1]) ++ List.replicate (5 - (lg_sl ([.ref (ad o0), .int a1])).length) Slot.unset).toArray = ls at hl ⊢
  have hl : lv_has ls 5 [(0, .ref (ad o0)), (1, .int a1)] := hl
  have hb9 : ∀ (M : Mm) (x0 : Nat), f_X6_next_b9 M x0 = some res → ∀ (H : Heap) (locs : List Loc) (ls : Array Slot), Wd D cy shX ad nX (Aw ad nX) s.heap M H locs → lv_has ls 5 [(0, .ref (ad x0))] → W p l e (headSpec (wU yX6_next cX6_next 5 (some .int)) rmX6_next).room s m args below meth c H locs 0 0 (QI D cy shX ad nX adK adV below args s res) (F0 m 9 ls []) := by
    intro M x0 h H locs ls hw hl
    unfold f_X6_next_b9 at h
    refine lv_aload_n hx hb dX6_next_9 rfl (lv_at hl 0 rfl) ?_
    refine lv_iconst (v := (0 : Int32)) hx hb dX6_next_10 (by decide) ?_
    replace h := gd_some h
    obtain ⟨g2, h⟩ := h
    replace h := bd_some h
    obtain ⟨r1, er1, h⟩ := h
    refine r_callVi (As := [.int (0 : Int32)]) (rest := []) hF (c_X6_finding l D cy ad adK adV M x0 (0 : Int32) r1 er1) (gW_goodV hcm qw374 qw371 qw373 qw0 qw61) hdX6_finding rfl ⟨Nat.le_of_ble_eq_true rfl, Nat.le_of_ble_eq_true rfl⟩ rfl rfl hZ hK hw g2 (by decide) rfl rfl hl.1 rfl (Nat.le_of_ble_eq_true rfl) ⟨Nat.zero_le _, Nat.zero_le _⟩ dX6_next_11 (fun H locs hw => ?_)
    exact r_iret hx hb hr rfl hlocks hZ hK hw h dX6_next_14
  unfold f_X6_next at h
  refine lv_iload_n hx hb dX6_next_0 rfl (lv_at hl 1 rfl) ?_
  refine lv_if_lt (tgt := 9) hx hb dX6_next_1 (by decide) (fun c3 => ?_) (fun c3 => ?_)
  · replace h := if_some_t c3 h
    exact hb9 _ _ h _ _ _ hw (lv_sub hl [0] rfl)
  · replace h := if_some_f c3 h
    refine lv_iload_n hx hb dX6_next_4 rfl (lv_at hl 1 rfl) ?_
    refine lv_iconst (v := (4 : Int32)) hx hb dX6_next_5 (by decide) ?_
    refine lv_icmp_le (tgt := 15) hx hb dX6_next_6 (by decide) (fun c4 => ?_) (fun c4 => ?_)
    · replace h := if_some_t c4 h
      refine lv_aload_n hx hb dX6_next_15 rfl (lv_at hl 0 rfl) ?_
      replace h := gd_some h
      obtain ⟨g5, h⟩ := h
      replace h := bd_some h
      obtain ⟨q6, eq6, h⟩ := h
      refine r_getR hx hb hts iw6 hown hK hw o0 0 g5 (by decide) rfl (by decide) rfl (hq _ qw336) (fun _ h9 => h9) dX6_next_16 eq6 ?_
      replace h := gd_some h
      obtain ⟨g8, h⟩ := h
      replace h := bd_some h
      obtain ⟨r7, er7, h⟩ := h
      refine r_callVi (As := []) (rest := []) hF (c_X1_allPlayed l D cy ad adK adV M q6 r7 er7) (gW_goodV hcm qw592 qw589 qw590 qw591 qw62) hdX1_allPlayed rfl ⟨Nat.le_of_ble_eq_true rfl, Nat.le_of_ble_eq_true rfl⟩ rfl rfl hZ hK hw g8 (by decide) rfl rfl hl.1 rfl (Nat.le_of_ble_eq_true rfl) ⟨Nat.zero_le _, Nat.zero_le _⟩ dX6_next_19 (fun H locs hw => ?_)
      refine lv_if_eq (tgt := 31) hx hb dX6_next_22 (by decide) (fun c9 => ?_) (fun c9 => ?_)
      · replace h := if_some_t c9 h
        refine lv_aload_n hx hb dX6_next_31 rfl (lv_at hl 0 rfl) ?_
        replace h := bd_some h
        obtain ⟨q10, eq10, h⟩ := h
        refine r_getR hx hb hts iw6 hown hK hw o0 0 g5 (by decide) rfl (by decide) rfl (hq _ qw336) (fun _ h9 => h9) dX6_next_32 eq10 ?_
        replace h := gd_some h
        obtain ⟨g11, h⟩ := h
        replace h := bd_some h
        obtain ⟨q12, eq12, h⟩ := h
        refine r_getR hx hb hts iw1 hown hK hw q10 1 g11 (by decide) rfl (by decide) rfl (hq _ qw187) (fun _ h9 => h9) dX6_next_35 eq12 ?_
        refine lv_aload_n hx hb dX6_next_38 rfl (lv_at hl 0 rfl) ?_
        replace h := bd_some h
        obtain ⟨q13, eq13, h⟩ := h
        refine r_getR hx hb hts iw6 hown hK hw o0 0 g5 (by decide) rfl (by decide) rfl (hq _ qw336) (fun _ h9 => h9) dX6_next_39 eq13 ?_
        replace h := gd_some h
        obtain ⟨g14, h⟩ := h
        refine r_getI hx hb hts iw1 hown hK hw q13 5 g14 (by decide) rfl (by decide) rfl (hq _ qw200) (fun _ h9 => h9) dX6_next_42 ?_
        replace h := gd_some h
        obtain ⟨g15, h⟩ := h
        replace h := bd_some h
        obtain ⟨q16, eq16, h⟩ := h
        refine r_aald hx hb hK hw q12 3 (by decide) rfl g15 dX6_next_45 eq16 ?_
        refine lv_astore_n (lv' := [(2, .ref (ad q16)), (0, .ref (ad o0)), (1, .int a1)]) hx hb dX6_next_46 rfl hl (by decide) rfl (fun ls hl => ?_)
        refine lv_aload_n hx hb dX6_next_47 rfl (lv_at hl 1 rfl) ?_
        replace h := bd_some h
        obtain ⟨q17, eq17, h⟩ := h
        refine r_getR hx hb hts iw6 hown hK hw o0 0 g5 (by decide) rfl (by decide) rfl (hq _ qw336) (fun _ h9 => h9) dX6_next_48 eq17 ?_
        refine lv_aload_n hx hb dX6_next_51 rfl (lv_at hl 0 rfl) ?_
        replace h := gd_some h
        obtain ⟨g18, h⟩ := h
        refine r_getI hx hb hts iw0 hown hK hw q16 0 g18 (by decide) rfl (by decide) rfl (hq _ qw137) (fun _ h9 => h9) dX6_next_52 ?_
        replace h := gd_some h
        obtain ⟨g20, h⟩ := h
        replace h := bd_some h
        obtain ⟨r19, er19, h⟩ := h
        refine r_callVi (As := [.int (r7.1.1 q16 0)]) (rest := []) hF (c_X1_effortOf l D cy ad adK adV r7.1 q17 (r7.1.1 q16 0) r19 er19) (gW_goodV hcm qw596 qw593 qw594 qw595 qw62) hdX1_effortOf rfl ⟨Nat.le_of_ble_eq_true rfl, Nat.le_of_ble_eq_true rfl⟩ rfl rfl hZ hK hw g20 (by decide) rfl rfl hl.1 rfl (Nat.le_of_ble_eq_true rfl) ⟨Nat.zero_le _, Nat.zero_le _⟩ dX6_next_55 (fun H locs hw => ?_)
        refine lv_istore_n (lv' := [(3, .int r19.2), (2, .ref (ad q16)), (0, .ref (ad o0)), (1, .int a1)]) hx hb dX6_next_58 rfl hl (by decide) rfl (fun ls hl => ?_)
        refine lv_aload_n hx hb dX6_next_59 rfl (lv_at hl 2 rfl) ?_
        replace h := bd_some h
        obtain ⟨q21, eq21, h⟩ := h
        refine r_getR hx hb hts iw6 hown hK hw o0 0 g5 (by decide) rfl (by decide) rfl (hq _ qw336) (fun _ h9 => h9) dX6_next_60 eq21 ?_
        refine lv_aload_n hx hb dX6_next_63 rfl (lv_at hl 1 rfl) ?_
        refine r_getI hx hb hts iw0 hown hK hw q16 1 g18 (by decide) rfl (by decide) rfl (hq _ qw141) (fun _ h9 => h9) dX6_next_64 ?_
        replace h := gd_some h
        obtain ⟨g23, h⟩ := h
        replace h := bd_some h
        obtain ⟨r22, er22, h⟩ := h
        refine r_callVi (As := [.int (r19.1.1 q16 1)]) (rest := []) hF (c_X1_effortOf l D cy ad adK adV r19.1 q21 (r19.1.1 q16 1) r22 er22) (gW_goodV hcm qw596 qw593 qw594 qw595 qw62) hdX1_effortOf rfl ⟨Nat.le_of_ble_eq_true rfl, Nat.le_of_ble_eq_true rfl⟩ rfl rfl hZ hK hw g23 (by decide) rfl rfl hl.1 rfl (Nat.le_of_ble_eq_true rfl) ⟨Nat.zero_le _, Nat.zero_le _⟩ dX6_next_67 (fun H locs hw => ?_)
        refine lv_istore (lv' := [(4, .int r22.2), (3, .int r19.2), (2, .ref (ad q16)), (0, .ref (ad o0)), (1, .int a1)]) hx hb dX6_next_70 hl (by decide) rfl (fun ls hl => ?_)
        refine lv_iload_n hx hb dX6_next_72 rfl (lv_at hl 4 rfl) ?_
        by_cases s24 : a1 = 0
        · replace h := if_some_t s24 h
          refine lv_tableIn (off := 31) (tgt := 104) hx hb dX6_next_73 (by rw [s24]; decide) (by rw [s24]; decide) (by rw [s24]; decide) (by decide) ?_
          refine lv_iload_n hx hb dX6_next_104 rfl (lv_at hl 1 rfl) ?_
          exact r_iret hx hb hr rfl hlocks hZ hK hw h dX6_next_105
        replace h := if_some_f s24 h
        by_cases s25 : a1 = 1
        · replace h := if_some_t s25 h
          refine lv_tableIn (off := 33) (tgt := 106) hx hb dX6_next_73 (by rw [s25]; decide) (by rw [s25]; decide) (by rw [s25]; decide) (by decide) ?_
          refine lv_iload hx hb dX6_next_106 (lv_at hl 0 rfl) ?_
          exact r_iret hx hb hr rfl hlocks hZ hK hw h dX6_next_108
        replace h := if_some_f s25 h
        by_cases s26 : a1 = 2
        · replace h := if_some_t s26 h
          refine lv_tableIn (off := 36) (tgt := 109) hx hb dX6_next_73 (by rw [s26]; decide) (by rw [s26]; decide) (by rw [s26]; decide) (by decide) ?_
          refine lv_aload_n hx hb dX6_next_109 rfl (lv_at hl 3 rfl) ?_
          replace h := bd_some h
          obtain ⟨q27, eq27, h⟩ := h
          refine r_getR hx hb hts iw6 hown hK hw o0 0 g5 (by decide) rfl (by decide) rfl (hq _ qw336) (fun _ h9 => h9) dX6_next_110 eq27 ?_
          refine lv_iload_n hx hb dX6_next_113 rfl (lv_at hl 1 rfl) ?_
          refine lv_iload hx hb dX6_next_114 (lv_at hl 0 rfl) ?_
          replace h := gd_some h
          obtain ⟨g29, h⟩ := h
          replace h := bd_some h
          obtain ⟨r28, er28, h⟩ := h
          refine r_callVi (As := [.int r19.2, .int r22.2]) (rest := []) hF (c_X1_chanceOfFirst l D cy ad adK adV r22.1 q27 r19.2 r22.2 r28 er28) (gW_goodV hcm qw606 qw603 qw604 qw605 qw62) hdX1_chanceOfFirst rfl ⟨Nat.le_of_ble_eq_true rfl, Nat.le_of_ble_eq_true rfl⟩ rfl rfl hZ hK hw g29 (by decide) rfl rfl hl.1 rfl (Nat.le_of_ble_eq_true rfl) ⟨Nat.zero_le _, Nat.zero_le _⟩ dX6_next_116 (fun H locs hw => ?_)
          exact r_iret hx hb hr rfl hlocks hZ hK hw h dX6_next_119
        replace h := if_some_f s26 h
        by_cases s30 : a1 = 3
        · replace h := if_some_t s30 h
          refine lv_tableIn (off := 47) (tgt := 120) hx hb dX6_next_73 (by rw [s30]; decide) (by rw [s30]; decide) (by rw [s30]; decide) (by decide) ?_
          refine lv_aload_n hx hb dX6_next_120 rfl (lv_at hl 3 rfl) ?_
          replace h := bd_some h
          obtain ⟨q31, eq31, h⟩ := h
          refine r_getR hx hb hts iw6 hown hK hw o0 0 g5 (by decide) rfl (by decide) rfl (hq _ qw336) (fun _ h9 => h9) dX6_next_121 eq31 ?_
          refine lv_aload_n hx hb dX6_next_124 rfl (lv_at hl 2 rfl) ?_
          refine r_getI hx hb hts iw0 hown hK hw q16 0 g18 (by decide) rfl (by decide) rfl (hq _ qw137) (fun _ h9 => h9) dX6_next_125 ?_
          refine lv_iload_n hx hb dX6_next_128 rfl (lv_at hl 1 rfl) ?_
          replace h := gd_some h
          obtain ⟨g33, h⟩ := h
          replace h := bd_some h
          obtain ⟨r32, er32, h⟩ := h
          refine r_callVi (As := [.int (r22.1.1 q16 0), .int r19.2]) (rest := []) hF (c_X1_forceOf l D cy ad adK adV r22.1 q31 (r22.1.1 q16 0) r19.2 r32 er32) (gW_goodV hcm qw610 qw614 qw608 qw609 qw62) hdX1_forceOf rfl ⟨Nat.le_of_ble_eq_true rfl, Nat.le_of_ble_eq_true rfl⟩ rfl rfl hZ hK hw g33 (by decide) rfl rfl hl.1 rfl (Nat.le_of_ble_eq_true rfl) ⟨Nat.zero_le _, Nat.zero_le _⟩ dX6_next_129 (fun H locs hw => ?_)
          exact r_iret hx hb hr rfl hlocks hZ hK hw h dX6_next_132
        replace h := if_some_f s30 h
        have hout37 : a1.toInt < 0 ∨ 3 < a1.toInt := by
          refine tsw_out (fun cz h1 h2 => ?_)
          rcases (show cz = 0 ∨ cz = 1 ∨ cz = 2 ∨ cz = 3 by omega) with rfl | rfl | rfl | rfl
          · exact fun e9 => s24 (e9.trans (by decide))
          · exact fun e9 => s25 (e9.trans (by decide))
          · exact fun e9 => s26 (e9.trans (by decide))
          · exact fun e9 => s30 (e9.trans (by decide))
        refine lv_tableOut (tgt := 133) hx hb dX6_next_73 hout37 (by decide) ?_
        refine lv_aload_n hx hb dX6_next_133 rfl (lv_at hl 3 rfl) ?_
        replace h := bd_some h
        obtain ⟨q34, eq34, h⟩ := h
        refine r_getR hx hb hts iw6 hown hK hw o0 0 g5 (by decide) rfl (by decide) rfl (hq _ qw336) (fun _ h9 => h9) dX6_next_134 eq34 ?_
        refine lv_aload_n hx hb dX6_next_137 rfl (lv_at hl 2 rfl) ?_
        refine r_getI hx hb hts iw0 hown hK hw q16 1 g18 (by decide) rfl (by decide) rfl (hq _ qw141) (fun _ h9 => h9) dX6_next_138 ?_
        refine lv_iload hx hb dX6_next_141 (lv_at hl 0 rfl) ?_
        replace h := gd_some h
        obtain ⟨g36, h⟩ := h
        replace h := bd_some h
        obtain ⟨r35, er35, h⟩ := h
        refine r_callVi (As := [.int (r22.1.1 q16 1), .int r22.2]) (rest := []) hF (c_X1_forceOf l D cy ad adK adV r22.1 q34 (r22.1.1 q16 1) r22.2 r35 er35) (gW_goodV hcm qw610 qw614 qw608 qw609 qw62) hdX1_forceOf rfl ⟨Nat.le_of_ble_eq_true rfl, Nat.le_of_ble_eq_true rfl⟩ rfl rfl hZ hK hw g36 (by decide) rfl rfl hl.1 rfl (Nat.le_of_ble_eq_true rfl) ⟨Nat.zero_le _, Nat.zero_le _⟩ dX6_next_143 (fun H locs hw => ?_)
        exact r_iret hx hb hr rfl hlocks hZ hK hw h dX6_next_146
      · replace h := if_some_f c9 h
        refine lv_aload_n hx hb dX6_next_25 rfl (lv_at hl 0 rfl) ?_
        refine lv_iconst (v := (3 : Int32)) hx hb dX6_next_26 (by decide) ?_
        replace h := bd_some h
        obtain ⟨r38, er38, h⟩ := h
        refine r_callVi (As := [.int (3 : Int32)]) (rest := []) hF (c_X6_finding l D cy ad adK adV r7.1 o0 (3 : Int32) r38 er38) (gW_goodV hcm qw374 qw371 qw373 qw0 qw61) hdX6_finding rfl ⟨Nat.le_of_ble_eq_true rfl, Nat.le_of_ble_eq_true rfl⟩ rfl rfl hZ hK hw g5 (by decide) rfl rfl hl.1 rfl (Nat.le_of_ble_eq_true rfl) ⟨Nat.zero_le _, Nat.zero_le _⟩ dX6_next_27 (fun H locs hw => ?_)
        exact r_iret hx hb hr rfl hlocks hZ hK hw h dX6_next_30
    · replace h := if_some_f c4 h
      exact hb9 _ _ h _ _ _ hw (lv_sub hl [0] rfl)
theorem dX6_win_0 : decode cX6_win 0 = .ok (.aload_n 0, 1) := by decide +kernel
theorem dX6_win_1 : decode cX6_win 1 = .ok (.getfield 10, 3) := by decide +kernel
theorem dX6_win_4 : decode cX6_win 4 = .ok (.invokevirtual 159, 3) := by decide +kernel
theorem dX6_win_7 : decode cX6_win 7 = .ok (.ifCond .eq 9, 3) := by decide +kernel
theorem dX6_win_10 : decode cX6_win 10 = .ok (.aload_n 0, 1) := by decide +kernel
theorem dX6_win_11 : decode cX6_win 11 = .ok (.iconst 3, 1) := by decide +kernel
theorem dX6_win_12 : decode cX6_win 12 = .ok (.invokevirtual 59, 3) := by decide +kernel
theorem dX6_win_15 : decode cX6_win 15 = .ok (.ireturn, 1) := by decide +kernel
theorem dX6_win_16 : decode cX6_win 16 = .ok (.aload_n 0, 1) := by decide +kernel
theorem dX6_win_17 : decode cX6_win 17 = .ok (.getfield 10, 3) := by decide +kernel
theorem dX6_win_20 : decode cX6_win 20 = .ok (.getfield 120, 3) := by decide +kernel
theorem dX6_win_23 : decode cX6_win 23 = .ok (.aload_n 0, 1) := by decide +kernel
theorem dX6_win_24 : decode cX6_win 24 = .ok (.getfield 10, 3) := by decide +kernel
theorem dX6_win_27 : decode cX6_win 27 = .ok (.getfield 117, 3) := by decide +kernel
theorem dX6_win_30 : decode cX6_win 30 = .ok (.aaload, 1) := by decide +kernel
theorem dX6_win_31 : decode cX6_win 31 = .ok (.iload_n 1, 1) := by decide +kernel
theorem dX6_win_32 : decode cX6_win 32 = .ok (.invokevirtual 173, 3) := by decide +kernel
theorem dX6_win_35 : decode cX6_win 35 = .ok (.ifCond .ne 9, 3) := by decide +kernel
theorem dX6_win_38 : decode cX6_win 38 = .ok (.aload_n 0, 1) := by decide +kernel
theorem dX6_win_39 : decode cX6_win 39 = .ok (.iconst 0, 1) := by decide +kernel
theorem dX6_win_40 : decode cX6_win 40 = .ok (.invokevirtual 59, 3) := by decide +kernel
theorem dX6_win_43 : decode cX6_win 43 = .ok (.ireturn, 1) := by decide +kernel
theorem dX6_win_44 : decode cX6_win 44 = .ok (.aload_n 0, 1) := by decide +kernel
theorem dX6_win_45 : decode cX6_win 45 = .ok (.getfield 10, 3) := by decide +kernel
theorem dX6_win_48 : decode cX6_win 48 = .ok (.iload_n 1, 1) := by decide +kernel
theorem dX6_win_49 : decode cX6_win 49 = .ok (.invokevirtual 176, 3) := by decide +kernel
theorem dX6_win_52 : decode cX6_win 52 = .ok (.ireturn, 1) := by decide +kernel
set_option maxHeartbeats 4000000 in
set_option maxRecDepth 100000 in
theorem c_X6_win (l : Launch) (D : va_G) (cy : Nat → ClassId) (ad adK adV : Nat → Nat) (M : Mm) (o0 : Nat) (a1 : Int32) (res : Mm × Int32) (h : f_X6_win M o0 a1 = some res) : Met l yX6_win (wU yX6_win cX6_win 2 (some .int)) rmX6_win (va_Pc [.ref (ad o0), .int a1] (Pre D cy shX ad nX adK adV M)) (va_Qi (fun r (M2 : Mm) => r = res.2 ∧ M2 = res.1) (Pre D cy shX ad nX adK adV) (Aw ad nX)) 0 0 (Aw ad nX) := by
  refine Met.ofW (cc := cX6_win) (maxL := 2) (ret := (some .int)) (by decide) rfl ?_
  intro p e s m args below meth c s₁ B hml hv
  obtain ⟨hargs, hPre⟩ := hv
  have hx := B.exec
  have hb := B.bytes
  have hr := B.returns
  have hts := atoms_spec (ws := wU yX6_win cX6_win 2 (some .int)) B.pre
  have hq : ∀ w ∈ gW, w.before args s = true := fun w hw => hts w (List.mem_cons_of_mem _ hw)
  have hcm : ∀ w ∈ gW, w ∈ wU yX6_win cX6_win 2 (some .int) := fun w hw => List.mem_cons_of_mem _ hw
  have hown : s.vm.findClass RX6 = some m.cls := findClass_of_methodNamed B.named
  have hlocks := B.notSynchronized
  have hF : CallFix p m c cX6_win 2 s args (wU yX6_win cX6_win 2 (some .int)) RX6 := ⟨hx, hb, hml, hown, hts⟩
  have hK := hPre.2.1
  have hZ := hPre.2.2.2
  have hw : Wd D cy shX ad nX (Aw ad nX) s.heap M s.heap [] := ⟨hPre.1, hPre.2.2.1, va_S.rf⟩
  have iw1 : ∀ w ∈ u_ws RX1 TX1 11, w ∈ wU yX6_win cX6_win 2 (some .int) := fun w hw => List.mem_cons_of_mem _ (iX1 w hw)
  have iw6 : ∀ w ∈ u_ws RX6 TX6 8, w ∈ wU yX6_win cX6_win 2 (some .int) := fun w hw => List.mem_cons_of_mem _ (iX6 w hw)
  rw [show entryFrame m args 2 = entryFrame m ([.ref (ad o0), .int a1] : List Value).toArray 2 from by rw [hargs]]
  have hl := lv_entry ([.ref (ad o0), .int a1]) (n := 2) (Nat.le_of_ble_eq_true rfl)
  rw [lg_entry_eq]
  generalize (lg_sl ([.ref (ad o0), .int a1]) ++ List.replicate (2 - (lg_sl ([.ref (ad o0), .int a1])).length) Slot.unset).toArray = ls at hl ⊢
  have hl : lv_has ls 2 [(0, .ref (ad o0)), (1, .int a1)] := hl
  unfold f_X6_win at h
  refine lv_aload_n hx hb dX6_win_0 rfl (lv_at hl 0 rfl) ?_
  replace h := gd_some h
  obtain ⟨g1, h⟩ := h
  replace h := bd_some h
  obtain ⟨q2, eq2, h⟩ := h
  refine r_getR hx hb hts iw6 hown hK hw o0 0 g1 (by decide) rfl (by decide) rfl (hq _ qw336) (fun _ h9 => h9) dX6_win_1 eq2 ?_
  replace h := gd_some h
  obtain ⟨g4, h⟩ := h
  replace h := bd_some h
  obtain ⟨r3, er3, h⟩ := h
  refine r_callVi (As := []) (rest := []) hF (c_X1_allPlayed l D cy ad adK adV M q2 r3 er3) (gW_goodV hcm qw592 qw589 qw590 qw591 qw62) hdX1_allPlayed rfl ⟨Nat.le_of_ble_eq_true rfl, Nat.le_of_ble_eq_true rfl⟩ rfl rfl hZ hK hw g4 (by decide) rfl rfl hl.1 rfl (Nat.le_of_ble_eq_true rfl) ⟨Nat.zero_le _, Nat.zero_le _⟩ dX6_win_4 (fun H locs hw => ?_)
  refine lv_if_eq (tgt := 16) hx hb dX6_win_7 (by decide) (fun c5 => ?_) (fun c5 => ?_)
  · replace h := if_some_t c5 h
    refine lv_aload_n hx hb dX6_win_16 rfl (lv_at hl 0 rfl) ?_
    replace h := bd_some h
    obtain ⟨q6, eq6, h⟩ := h
    refine r_getR hx hb hts iw6 hown hK hw o0 0 g1 (by decide) rfl (by decide) rfl (hq _ qw336) (fun _ h9 => h9) dX6_win_17 eq6 ?_
    replace h := gd_some h
    obtain ⟨g7, h⟩ := h
    replace h := bd_some h
    obtain ⟨q8, eq8, h⟩ := h
    refine r_getR hx hb hts iw1 hown hK hw q6 1 g7 (by decide) rfl (by decide) rfl (hq _ qw187) (fun _ h9 => h9) dX6_win_20 eq8 ?_
    refine lv_aload_n hx hb dX6_win_23 rfl (lv_at hl 0 rfl) ?_
    replace h := bd_some h
    obtain ⟨q9, eq9, h⟩ := h
    refine r_getR hx hb hts iw6 hown hK hw o0 0 g1 (by decide) rfl (by decide) rfl (hq _ qw336) (fun _ h9 => h9) dX6_win_24 eq9 ?_
    replace h := gd_some h
    obtain ⟨g10, h⟩ := h
    refine r_getI hx hb hts iw1 hown hK hw q9 5 g10 (by decide) rfl (by decide) rfl (hq _ qw200) (fun _ h9 => h9) dX6_win_27 ?_
    replace h := gd_some h
    obtain ⟨g11, h⟩ := h
    replace h := bd_some h
    obtain ⟨q12, eq12, h⟩ := h
    refine r_aald hx hb hK hw q8 3 (by decide) rfl g11 dX6_win_30 eq12 ?_
    refine lv_iload_n hx hb dX6_win_31 rfl (lv_at hl 1 rfl) ?_
    replace h := gd_some h
    obtain ⟨g14, h⟩ := h
    replace h := bd_some h
    obtain ⟨r13, er13, h⟩ := h
    refine r_callVi (As := [.int a1]) (rest := []) hF (c_X0_isOf l D cy ad adK adV r3.1 q12 a1 r13 er13) (gW_goodV hcm qw403 qw619 qw401 qw402 qw64) hdX0_isOf rfl ⟨Nat.le_of_ble_eq_true rfl, Nat.le_of_ble_eq_true rfl⟩ rfl rfl hZ hK hw g14 (by decide) rfl rfl hl.1 rfl (Nat.le_of_ble_eq_true rfl) ⟨Nat.zero_le _, Nat.zero_le _⟩ dX6_win_32 (fun H locs hw => ?_)
    refine lv_if_ne (tgt := 44) hx hb dX6_win_35 (by decide) (fun c15 => ?_) (fun c15 => ?_)
    · replace h := if_some_f c15 h
      refine lv_aload_n hx hb dX6_win_44 rfl (lv_at hl 0 rfl) ?_
      replace h := bd_some h
      obtain ⟨q16, eq16, h⟩ := h
      refine r_getR hx hb hts iw6 hown hK hw o0 0 g1 (by decide) rfl (by decide) rfl (hq _ qw336) (fun _ h9 => h9) dX6_win_45 eq16 ?_
      refine lv_iload_n hx hb dX6_win_48 rfl (lv_at hl 1 rfl) ?_
      replace h := gd_some h
      obtain ⟨g18, h⟩ := h
      replace h := bd_some h
      obtain ⟨r17, er17, h⟩ := h
      refine r_callVi (As := [.int a1]) (rest := []) hF (c_X1_playWonBy l D cy ad adK adV r13.1 q16 a1 r17 er17) (gW_goodV hcm qw623 qw620 qw621 qw622 qw62) hdX1_playWonBy rfl ⟨Nat.le_of_ble_eq_true rfl, Nat.le_of_ble_eq_true rfl⟩ rfl rfl hZ hK hw g18 (by decide) rfl rfl hl.1 rfl (Nat.le_of_ble_eq_true rfl) ⟨Nat.zero_le _, Nat.zero_le _⟩ dX6_win_49 (fun H locs hw => ?_)
      exact r_iret hx hb hr rfl hlocks hZ hK hw h dX6_win_52
    · replace h := if_some_t c15 h
      refine lv_aload_n hx hb dX6_win_38 rfl (lv_at hl 0 rfl) ?_
      refine lv_iconst (v := (0 : Int32)) hx hb dX6_win_39 (by decide) ?_
      replace h := bd_some h
      obtain ⟨r19, er19, h⟩ := h
      refine r_callVi (As := [.int (0 : Int32)]) (rest := []) hF (c_X6_finding l D cy ad adK adV r13.1 o0 (0 : Int32) r19 er19) (gW_goodV hcm qw374 qw371 qw373 qw0 qw61) hdX6_finding rfl ⟨Nat.le_of_ble_eq_true rfl, Nat.le_of_ble_eq_true rfl⟩ rfl rfl hZ hK hw g1 (by decide) rfl rfl hl.1 rfl (Nat.le_of_ble_eq_true rfl) ⟨Nat.zero_le _, Nat.zero_le _⟩ dX6_win_40 (fun H locs hw => ?_)
      exact r_iret hx hb hr rfl hlocks hZ hK hw h dX6_win_43
  · replace h := if_some_f c5 h
    refine lv_aload_n hx hb dX6_win_10 rfl (lv_at hl 0 rfl) ?_
    refine lv_iconst (v := (3 : Int32)) hx hb dX6_win_11 (by decide) ?_
    replace h := bd_some h
    obtain ⟨r20, er20, h⟩ := h
    refine r_callVi (As := [.int (3 : Int32)]) (rest := []) hF (c_X6_finding l D cy ad adK adV r3.1 o0 (3 : Int32) r20 er20) (gW_goodV hcm qw374 qw371 qw373 qw0 qw61) hdX6_finding rfl ⟨Nat.le_of_ble_eq_true rfl, Nat.le_of_ble_eq_true rfl⟩ rfl rfl hZ hK hw g1 (by decide) rfl rfl hl.1 rfl (Nat.le_of_ble_eq_true rfl) ⟨Nat.zero_le _, Nat.zero_le _⟩ dX6_win_12 (fun H locs hw => ?_)
    exact r_iret hx hb hr rfl hlocks hZ hK hw h dX6_win_15
theorem dX6_play_0 : decode cX6_play 0 = .ok (.aload_n 0, 1) := by decide +kernel
theorem dX6_play_1 : decode cX6_play 1 = .ok (.getfield 10, 3) := by decide +kernel
theorem dX6_play_4 : decode cX6_play 4 = .ok (.invokevirtual 159, 3) := by decide +kernel
theorem dX6_play_7 : decode cX6_play 7 = .ok (.ifCond .eq 9, 3) := by decide +kernel
theorem dX6_play_10 : decode cX6_play 10 = .ok (.aload_n 0, 1) := by decide +kernel
theorem dX6_play_11 : decode cX6_play 11 = .ok (.iconst 3, 1) := by decide +kernel
theorem dX6_play_12 : decode cX6_play 12 = .ok (.invokevirtual 59, 3) := by decide +kernel
theorem dX6_play_15 : decode cX6_play 15 = .ok (.ireturn, 1) := by decide +kernel
theorem dX6_play_16 : decode cX6_play 16 = .ok (.aload_n 0, 1) := by decide +kernel
theorem dX6_play_17 : decode cX6_play 17 = .ok (.getfield 10, 3) := by decide +kernel
theorem dX6_play_20 : decode cX6_play 20 = .ok (.invokevirtual 179, 3) := by decide +kernel
theorem dX6_play_23 : decode cX6_play 23 = .ok (.ireturn, 1) := by decide +kernel
set_option maxHeartbeats 4000000 in
set_option maxRecDepth 100000 in
theorem c_X6_play (l : Launch) (D : va_G) (cy : Nat → ClassId) (ad adK adV : Nat → Nat) (M : Mm) (o0 : Nat) (res : Mm × Int32) (h : f_X6_play M o0 = some res) : Met l yX6_play (wU yX6_play cX6_play 1 (some .int)) rmX6_play (va_Pc [.ref (ad o0)] (Pre D cy shX ad nX adK adV M)) (va_Qi (fun r (M2 : Mm) => r = res.2 ∧ M2 = res.1) (Pre D cy shX ad nX adK adV) (Aw ad nX)) 0 0 (Aw ad nX) := by
  refine Met.ofW (cc := cX6_play) (maxL := 1) (ret := (some .int)) (by decide) rfl ?_
  intro p e s m args below meth c s₁ B hml hv
  obtain ⟨hargs, hPre⟩ := hv
  have hx := B.exec
  have hb := B.bytes
  have hr := B.returns
  have hts := atoms_spec (ws := wU yX6_play cX6_play 1 (some .int)) B.pre
  have hq : ∀ w ∈ gW, w.before args s = true := fun w hw => hts w (List.mem_cons_of_mem _ hw)
  have hcm : ∀ w ∈ gW, w ∈ wU yX6_play cX6_play 1 (some .int) := fun w hw => List.mem_cons_of_mem _ hw
  have hown : s.vm.findClass RX6 = some m.cls := findClass_of_methodNamed B.named
  have hlocks := B.notSynchronized
  have hF : CallFix p m c cX6_play 1 s args (wU yX6_play cX6_play 1 (some .int)) RX6 := ⟨hx, hb, hml, hown, hts⟩
  have hK := hPre.2.1
  have hZ := hPre.2.2.2
  have hw : Wd D cy shX ad nX (Aw ad nX) s.heap M s.heap [] := ⟨hPre.1, hPre.2.2.1, va_S.rf⟩
  have iw6 : ∀ w ∈ u_ws RX6 TX6 8, w ∈ wU yX6_play cX6_play 1 (some .int) := fun w hw => List.mem_cons_of_mem _ (iX6 w hw)
  rw [show entryFrame m args 1 = entryFrame m ([.ref (ad o0)] : List Value).toArray 1 from by rw [hargs]]
  have hl := lv_entry ([.ref (ad o0)]) (n := 1) (Nat.le_of_ble_eq_true rfl)
  rw [lg_entry_eq]
  generalize (lg_sl ([.ref (ad o0)]) ++ List.replicate (1 - (lg_sl ([.ref (ad o0)])).length) Slot.unset).toArray = ls at hl ⊢
  have hl : lv_has ls 1 [(0, .ref (ad o0))] := hl
  unfold f_X6_play at h
  refine lv_aload_n hx hb dX6_play_0 rfl (lv_at hl 0 rfl) ?_
  replace h := gd_some h
  obtain ⟨g1, h⟩ := h
  replace h := bd_some h
  obtain ⟨q2, eq2, h⟩ := h
  refine r_getR hx hb hts iw6 hown hK hw o0 0 g1 (by decide) rfl (by decide) rfl (hq _ qw336) (fun _ h9 => h9) dX6_play_1 eq2 ?_
  replace h := gd_some h
  obtain ⟨g4, h⟩ := h
  replace h := bd_some h
  obtain ⟨r3, er3, h⟩ := h
  refine r_callVi (As := []) (rest := []) hF (c_X1_allPlayed l D cy ad adK adV M q2 r3 er3) (gW_goodV hcm qw592 qw589 qw590 qw591 qw62) hdX1_allPlayed rfl ⟨Nat.le_of_ble_eq_true rfl, Nat.le_of_ble_eq_true rfl⟩ rfl rfl hZ hK hw g4 (by decide) rfl rfl hl.1 rfl (Nat.le_of_ble_eq_true rfl) ⟨Nat.zero_le _, Nat.zero_le _⟩ dX6_play_4 (fun H locs hw => ?_)
  refine lv_if_eq (tgt := 16) hx hb dX6_play_7 (by decide) (fun c5 => ?_) (fun c5 => ?_)
  · replace h := if_some_t c5 h
    refine lv_aload_n hx hb dX6_play_16 rfl (lv_at hl 0 rfl) ?_
    replace h := bd_some h
    obtain ⟨q6, eq6, h⟩ := h
    refine r_getR hx hb hts iw6 hown hK hw o0 0 g1 (by decide) rfl (by decide) rfl (hq _ qw336) (fun _ h9 => h9) dX6_play_17 eq6 ?_
    replace h := gd_some h
    obtain ⟨g8, h⟩ := h
    replace h := bd_some h
    obtain ⟨r7, er7, h⟩ := h
    refine r_callVi (As := []) (rest := []) hF (c_X1_playDrawn l D cy ad adK adV r3.1 q6 r7 er7) (gW_goodV hcm qw644 qw641 qw642 qw643 qw62) hdX1_playDrawn rfl ⟨Nat.le_of_ble_eq_true rfl, Nat.le_of_ble_eq_true rfl⟩ rfl rfl hZ hK hw g8 (by decide) rfl rfl hl.1 rfl (Nat.le_of_ble_eq_true rfl) ⟨Nat.zero_le _, Nat.zero_le _⟩ dX6_play_20 (fun H locs hw => ?_)
    exact r_iret hx hb hr rfl hlocks hZ hK hw h dX6_play_23
  · replace h := if_some_f c5 h
    refine lv_aload_n hx hb dX6_play_10 rfl (lv_at hl 0 rfl) ?_
    refine lv_iconst (v := (3 : Int32)) hx hb dX6_play_11 (by decide) ?_
    replace h := bd_some h
    obtain ⟨r9, er9, h⟩ := h
    refine r_callVi (As := [.int (3 : Int32)]) (rest := []) hF (c_X6_finding l D cy ad adK adV r3.1 o0 (3 : Int32) r9 er9) (gW_goodV hcm qw374 qw371 qw373 qw0 qw61) hdX6_finding rfl ⟨Nat.le_of_ble_eq_true rfl, Nat.le_of_ble_eq_true rfl⟩ rfl rfl hZ hK hw g1 (by decide) rfl rfl hl.1 rfl (Nat.le_of_ble_eq_true rfl) ⟨Nat.zero_le _, Nat.zero_le _⟩ dX6_play_12 (fun H locs hw => ?_)
    exact r_iret hx hb hr rfl hlocks hZ hK hw h dX6_play_15
theorem dX6_anew_0 : decode cX6_anew 0 = .ok (.aload_n 0, 1) := by decide +kernel
theorem dX6_anew_1 : decode cX6_anew 1 = .ok (.getfield 10, 3) := by decide +kernel
theorem dX6_anew_4 : decode cX6_anew 4 = .ok (.invokevirtual 183, 3) := by decide +kernel
theorem dX6_anew_7 : decode cX6_anew 7 = .ok (.ireturn, 1) := by decide +kernel
set_option maxHeartbeats 4000000 in
set_option maxRecDepth 100000 in
theorem c_X6_anew (l : Launch) (D : va_G) (cy : Nat → ClassId) (ad adK adV : Nat → Nat) (M : Mm) (o0 : Nat) (res : Mm × Int32) (h : f_X6_anew M o0 = some res) : Met l yX6_anew (wU yX6_anew cX6_anew 1 (some .int)) rmX6_anew (va_Pc [.ref (ad o0)] (Pre D cy shX ad nX adK adV M)) (va_Qi (fun r (M2 : Mm) => r = res.2 ∧ M2 = res.1) (Pre D cy shX ad nX adK adV) (Aw ad nX)) 0 0 (Aw ad nX) := by
  refine Met.ofW (cc := cX6_anew) (maxL := 1) (ret := (some .int)) (by decide) rfl ?_
  intro p e s m args below meth c s₁ B hml hv
  obtain ⟨hargs, hPre⟩ := hv
  have hx := B.exec
  have hb := B.bytes
  have hr := B.returns
  have hts := atoms_spec (ws := wU yX6_anew cX6_anew 1 (some .int)) B.pre
  have hq : ∀ w ∈ gW, w.before args s = true := fun w hw => hts w (List.mem_cons_of_mem _ hw)
  have hcm : ∀ w ∈ gW, w ∈ wU yX6_anew cX6_anew 1 (some .int) := fun w hw => List.mem_cons_of_mem _ hw
  have hown : s.vm.findClass RX6 = some m.cls := findClass_of_methodNamed B.named
  have hlocks := B.notSynchronized
  have hF : CallFix p m c cX6_anew 1 s args (wU yX6_anew cX6_anew 1 (some .int)) RX6 := ⟨hx, hb, hml, hown, hts⟩
  have hK := hPre.2.1
  have hZ := hPre.2.2.2
  have hw : Wd D cy shX ad nX (Aw ad nX) s.heap M s.heap [] := ⟨hPre.1, hPre.2.2.1, va_S.rf⟩
  have iw6 : ∀ w ∈ u_ws RX6 TX6 8, w ∈ wU yX6_anew cX6_anew 1 (some .int) := fun w hw => List.mem_cons_of_mem _ (iX6 w hw)
  rw [show entryFrame m args 1 = entryFrame m ([.ref (ad o0)] : List Value).toArray 1 from by rw [hargs]]
  have hl := lv_entry ([.ref (ad o0)]) (n := 1) (Nat.le_of_ble_eq_true rfl)
  rw [lg_entry_eq]
  generalize (lg_sl ([.ref (ad o0)]) ++ List.replicate (1 - (lg_sl ([.ref (ad o0)])).length) Slot.unset).toArray = ls at hl ⊢
  have hl : lv_has ls 1 [(0, .ref (ad o0))] := hl
  unfold f_X6_anew at h
  refine lv_aload_n hx hb dX6_anew_0 rfl (lv_at hl 0 rfl) ?_
  replace h := gd_some h
  obtain ⟨g1, h⟩ := h
  replace h := bd_some h
  obtain ⟨q2, eq2, h⟩ := h
  refine r_getR hx hb hts iw6 hown hK hw o0 0 g1 (by decide) rfl (by decide) rfl (hq _ qw336) (fun _ h9 => h9) dX6_anew_1 eq2 ?_
  replace h := gd_some h
  obtain ⟨g4, h⟩ := h
  replace h := bd_some h
  obtain ⟨r3, er3, h⟩ := h
  refine r_callVi (As := []) (rest := []) hF (c_X1_forgetGames l D cy ad adK adV M q2 r3 er3) (gW_goodV hcm qw654 qw651 qw652 qw653 qw62) hdX1_forgetGames rfl ⟨Nat.le_of_ble_eq_true rfl, Nat.le_of_ble_eq_true rfl⟩ rfl rfl hZ hK hw g4 (by decide) rfl rfl hl.1 rfl (Nat.le_of_ble_eq_true rfl) ⟨Nat.zero_le _, Nat.zero_le _⟩ dX6_anew_4 (fun H locs hw => ?_)
  exact r_iret hx hb hr rfl hlocks hZ hK hw h dX6_anew_7
theorem dX6_leads_0 : decode cX6_leads 0 = .ok (.aload_n 0, 1) := by decide +kernel
theorem dX6_leads_1 : decode cX6_leads 1 = .ok (.getfield 10, 3) := by decide +kernel
theorem dX6_leads_4 : decode cX6_leads 4 = .ok (.getfield 63, 3) := by decide +kernel
theorem dX6_leads_7 : decode cX6_leads 7 = .ok (.ifCond .ne 9, 3) := by decide +kernel
theorem dX6_leads_10 : decode cX6_leads 10 = .ok (.aload_n 0, 1) := by decide +kernel
theorem dX6_leads_11 : decode cX6_leads 11 = .ok (.iconst 3, 1) := by decide +kernel
theorem dX6_leads_12 : decode cX6_leads 12 = .ok (.invokevirtual 59, 3) := by decide +kernel
theorem dX6_leads_15 : decode cX6_leads 15 = .ok (.ireturn, 1) := by decide +kernel
theorem dX6_leads_16 : decode cX6_leads 16 = .ok (.aload_n 0, 1) := by decide +kernel
theorem dX6_leads_17 : decode cX6_leads 17 = .ok (.getfield 10, 3) := by decide +kernel
theorem dX6_leads_20 : decode cX6_leads 20 = .ok (.invokevirtual 186, 3) := by decide +kernel
theorem dX6_leads_23 : decode cX6_leads 23 = .ok (.ireturn, 1) := by decide +kernel
set_option maxHeartbeats 4000000 in
set_option maxRecDepth 100000 in
theorem c_X6_leads (l : Launch) (D : va_G) (cy : Nat → ClassId) (ad adK adV : Nat → Nat) (M : Mm) (o0 : Nat) (res : Mm × Int32) (h : f_X6_leads M o0 = some res) : Met l yX6_leads (wU yX6_leads cX6_leads 1 (some .int)) rmX6_leads (va_Pc [.ref (ad o0)] (Pre D cy shX ad nX adK adV M)) (va_Qi (fun r (M2 : Mm) => r = res.2 ∧ M2 = res.1) (Pre D cy shX ad nX adK adV) (Aw ad nX)) 0 0 (Aw ad nX) := by
  refine Met.ofW (cc := cX6_leads) (maxL := 1) (ret := (some .int)) (by decide) rfl ?_
  intro p e s m args below meth c s₁ B hml hv
  obtain ⟨hargs, hPre⟩ := hv
  have hx := B.exec
  have hb := B.bytes
  have hr := B.returns
  have hts := atoms_spec (ws := wU yX6_leads cX6_leads 1 (some .int)) B.pre
  have hq : ∀ w ∈ gW, w.before args s = true := fun w hw => hts w (List.mem_cons_of_mem _ hw)
  have hcm : ∀ w ∈ gW, w ∈ wU yX6_leads cX6_leads 1 (some .int) := fun w hw => List.mem_cons_of_mem _ hw
  have hown : s.vm.findClass RX6 = some m.cls := findClass_of_methodNamed B.named
  have hlocks := B.notSynchronized
  have hF : CallFix p m c cX6_leads 1 s args (wU yX6_leads cX6_leads 1 (some .int)) RX6 := ⟨hx, hb, hml, hown, hts⟩
  have hK := hPre.2.1
  have hZ := hPre.2.2.2
  have hw : Wd D cy shX ad nX (Aw ad nX) s.heap M s.heap [] := ⟨hPre.1, hPre.2.2.1, va_S.rf⟩
  have iw1 : ∀ w ∈ u_ws RX1 TX1 11, w ∈ wU yX6_leads cX6_leads 1 (some .int) := fun w hw => List.mem_cons_of_mem _ (iX1 w hw)
  have iw6 : ∀ w ∈ u_ws RX6 TX6 8, w ∈ wU yX6_leads cX6_leads 1 (some .int) := fun w hw => List.mem_cons_of_mem _ (iX6 w hw)
  rw [show entryFrame m args 1 = entryFrame m ([.ref (ad o0)] : List Value).toArray 1 from by rw [hargs]]
  have hl := lv_entry ([.ref (ad o0)]) (n := 1) (Nat.le_of_ble_eq_true rfl)
  rw [lg_entry_eq]
  generalize (lg_sl ([.ref (ad o0)]) ++ List.replicate (1 - (lg_sl ([.ref (ad o0)])).length) Slot.unset).toArray = ls at hl ⊢
  have hl : lv_has ls 1 [(0, .ref (ad o0))] := hl
  unfold f_X6_leads at h
  refine lv_aload_n hx hb dX6_leads_0 rfl (lv_at hl 0 rfl) ?_
  replace h := gd_some h
  obtain ⟨g1, h⟩ := h
  replace h := bd_some h
  obtain ⟨q2, eq2, h⟩ := h
  refine r_getR hx hb hts iw6 hown hK hw o0 0 g1 (by decide) rfl (by decide) rfl (hq _ qw336) (fun _ h9 => h9) dX6_leads_1 eq2 ?_
  replace h := gd_some h
  obtain ⟨g3, h⟩ := h
  refine r_getI hx hb hts iw1 hown hK hw q2 3 g3 (by decide) rfl (by decide) rfl (hq _ qw191) (fun _ h9 => h9) dX6_leads_4 ?_
  refine lv_if_ne (tgt := 16) hx hb dX6_leads_7 (by decide) (fun c4 => ?_) (fun c4 => ?_)
  · replace h := if_some_f c4 h
    refine lv_aload_n hx hb dX6_leads_16 rfl (lv_at hl 0 rfl) ?_
    replace h := bd_some h
    obtain ⟨q5, eq5, h⟩ := h
    refine r_getR hx hb hts iw6 hown hK hw o0 0 g1 (by decide) rfl (by decide) rfl (hq _ qw336) (fun _ h9 => h9) dX6_leads_17 eq5 ?_
    replace h := gd_some h
    obtain ⟨g7, h⟩ := h
    replace h := bd_some h
    obtain ⟨r6, er6, h⟩ := h
    refine r_callVi (As := []) (rest := []) hF (c_X1_leader l D cy ad adK adV M q5 r6 er6) (gW_goodV hcm qw662 qw659 qw660 qw661 qw62) hdX1_leader rfl ⟨Nat.le_of_ble_eq_true rfl, Nat.le_of_ble_eq_true rfl⟩ rfl rfl hZ hK hw g7 (by decide) rfl rfl hl.1 rfl (Nat.le_of_ble_eq_true rfl) ⟨Nat.zero_le _, Nat.zero_le _⟩ dX6_leads_20 (fun H locs hw => ?_)
    exact r_iret hx hb hr rfl hlocks hZ hK hw h dX6_leads_23
  · replace h := if_some_t c4 h
    refine lv_aload_n hx hb dX6_leads_10 rfl (lv_at hl 0 rfl) ?_
    refine lv_iconst (v := (3 : Int32)) hx hb dX6_leads_11 (by decide) ?_
    replace h := bd_some h
    obtain ⟨r8, er8, h⟩ := h
    refine r_callVi (As := [.int (3 : Int32)]) (rest := []) hF (c_X6_finding l D cy ad adK adV M o0 (3 : Int32) r8 er8) (gW_goodV hcm qw374 qw371 qw373 qw0 qw61) hdX6_finding rfl ⟨Nat.le_of_ble_eq_true rfl, Nat.le_of_ble_eq_true rfl⟩ rfl rfl hZ hK hw g1 (by decide) rfl rfl hl.1 rfl (Nat.le_of_ble_eq_true rfl) ⟨Nat.zero_le _, Nat.zero_le _⟩ dX6_leads_12 (fun H locs hw => ?_)
    exact r_iret hx hb hr rfl hlocks hZ hK hw h dX6_leads_15
theorem dX6_place_0 : decode cX6_place 0 = .ok (.aload_n 0, 1) := by decide +kernel
theorem dX6_place_1 : decode cX6_place 1 = .ok (.getfield 10, 3) := by decide +kernel
theorem dX6_place_4 : decode cX6_place 4 = .ok (.iload_n 1, 1) := by decide +kernel
theorem dX6_place_5 : decode cX6_place 5 = .ok (.invokevirtual 71, 3) := by decide +kernel
theorem dX6_place_8 : decode cX6_place 8 = .ok (.ifCond .ne 9, 3) := by decide +kernel
theorem dX6_place_11 : decode cX6_place 11 = .ok (.aload_n 0, 1) := by decide +kernel
theorem dX6_place_12 : decode cX6_place 12 = .ok (.iconst 0, 1) := by decide +kernel
theorem dX6_place_13 : decode cX6_place 13 = .ok (.invokevirtual 59, 3) := by decide +kernel
theorem dX6_place_16 : decode cX6_place 16 = .ok (.ireturn, 1) := by decide +kernel
theorem dX6_place_17 : decode cX6_place 17 = .ok (.iconst 1, 1) := by decide +kernel
theorem dX6_place_18 : decode cX6_place 18 = .ok (.istore_n 2, 1) := by decide +kernel
theorem dX6_place_19 : decode cX6_place 19 = .ok (.iconst 0, 1) := by decide +kernel
theorem dX6_place_20 : decode cX6_place 20 = .ok (.istore_n 3, 1) := by decide +kernel
theorem dX6_place_21 : decode cX6_place 21 = .ok (.iload_n 3, 1) := by decide +kernel
theorem dX6_place_22 : decode cX6_place 22 = .ok (.aload_n 0, 1) := by decide +kernel
theorem dX6_place_23 : decode cX6_place 23 = .ok (.getfield 10, 3) := by decide +kernel
theorem dX6_place_26 : decode cX6_place 26 = .ok (.getfield 63, 3) := by decide +kernel
theorem dX6_place_29 : decode cX6_place 29 = .ok (.if_icmp .ge 39, 3) := by decide +kernel
theorem dX6_place_32 : decode cX6_place 32 = .ok (.aload_n 0, 1) := by decide +kernel
theorem dX6_place_33 : decode cX6_place 33 = .ok (.getfield 10, 3) := by decide +kernel
theorem dX6_place_36 : decode cX6_place 36 = .ok (.getfield 74, 3) := by decide +kernel
theorem dX6_place_39 : decode cX6_place 39 = .ok (.iload_n 3, 1) := by decide +kernel
theorem dX6_place_40 : decode cX6_place 40 = .ok (.aaload, 1) := by decide +kernel
theorem dX6_place_41 : decode cX6_place 41 = .ok (.getfield 89, 3) := by decide +kernel
theorem dX6_place_44 : decode cX6_place 44 = .ok (.aload_n 0, 1) := by decide +kernel
theorem dX6_place_45 : decode cX6_place 45 = .ok (.getfield 10, 3) := by decide +kernel
theorem dX6_place_48 : decode cX6_place 48 = .ok (.getfield 74, 3) := by decide +kernel
theorem dX6_place_51 : decode cX6_place 51 = .ok (.iload_n 1, 1) := by decide +kernel
theorem dX6_place_52 : decode cX6_place 52 = .ok (.aaload, 1) := by decide +kernel
theorem dX6_place_53 : decode cX6_place 53 = .ok (.getfield 89, 3) := by decide +kernel
theorem dX6_place_56 : decode cX6_place 56 = .ok (.if_icmp .le 6, 3) := by decide +kernel
theorem dX6_place_59 : decode cX6_place 59 = .ok (.iinc 2 1, 3) := by decide +kernel
theorem dX6_place_62 : decode cX6_place 62 = .ok (.iinc 3 1, 3) := by decide +kernel
theorem dX6_place_65 : decode cX6_place 65 = .ok (.goto (-44), 3) := by decide +kernel
theorem dX6_place_68 : decode cX6_place 68 = .ok (.iload_n 2, 1) := by decide +kernel
theorem dX6_place_69 : decode cX6_place 69 = .ok (.ireturn, 1) := by decide +kernel
set_option maxHeartbeats 4000000 in
set_option maxRecDepth 100000 in
theorem c_X6_place (l : Launch) (D : va_G) (cy : Nat → ClassId) (ad adK adV : Nat → Nat) (M : Mm) (o0 : Nat) (a1 : Int32) (res : Mm × Int32) (h : f_X6_place M o0 a1 = some res) : Met l yX6_place (wU yX6_place cX6_place 4 (some .int)) rmX6_place (va_Pc [.ref (ad o0), .int a1] (Pre D cy shX ad nX adK adV M)) (va_Qi (fun r (M2 : Mm) => r = res.2 ∧ M2 = res.1) (Pre D cy shX ad nX adK adV) (Aw ad nX)) 0 0 (Aw ad nX) := by
  refine Met.ofW (cc := cX6_place) (maxL := 4) (ret := (some .int)) (by decide) rfl ?_
  intro p e s m args below meth c s₁ B hml hv
  obtain ⟨hargs, hPre⟩ := hv
  have hx := B.exec
  have hb := B.bytes
  have hr := B.returns
  have hts := atoms_spec (ws := wU yX6_place cX6_place 4 (some .int)) B.pre
  have hq : ∀ w ∈ gW, w.before args s = true := fun w hw => hts w (List.mem_cons_of_mem _ hw)
  have hcm : ∀ w ∈ gW, w ∈ wU yX6_place cX6_place 4 (some .int) := fun w hw => List.mem_cons_of_mem _ hw
  have hown : s.vm.findClass RX6 = some m.cls := findClass_of_methodNamed B.named
  have hlocks := B.notSynchronized
  have hF : CallFix p m c cX6_place 4 s args (wU yX6_place cX6_place 4 (some .int)) RX6 := ⟨hx, hb, hml, hown, hts⟩
  have hK := hPre.2.1
  have hZ := hPre.2.2.2
  have hw : Wd D cy shX ad nX (Aw ad nX) s.heap M s.heap [] := ⟨hPre.1, hPre.2.2.1, va_S.rf⟩
  have iw1 : ∀ w ∈ u_ws RX1 TX1 11, w ∈ wU yX6_place cX6_place 4 (some .int) := fun w hw => List.mem_cons_of_mem _ (iX1 w hw)
  have iw3 : ∀ w ∈ u_ws RX3 TX3 6, w ∈ wU yX6_place cX6_place 4 (some .int) := fun w hw => List.mem_cons_of_mem _ (iX3 w hw)
  have iw6 : ∀ w ∈ u_ws RX6 TX6 8, w ∈ wU yX6_place cX6_place 4 (some .int) := fun w hw => List.mem_cons_of_mem _ (iX6 w hw)
  rw [show entryFrame m args 4 = entryFrame m ([.ref (ad o0), .int a1] : List Value).toArray 4 from by rw [hargs]]
  have hl := lv_entry ([.ref (ad o0), .int a1]) (n := 4) (Nat.le_of_ble_eq_true rfl)
  rw [lg_entry_eq]
  generalize (lg_sl ([.ref (ad o0), .int a1]) ++ List.replicate (4 - (lg_sl ([.ref (ad o0), .int a1])).length) Slot.unset).toArray = ls at hl ⊢
  have hl : lv_has ls 4 [(0, .ref (ad o0)), (1, .int a1)] := hl
  have hb62 : ∀ (k21 : Mm → Nat → Int32 → Int32 → Int32 → Option (Mm × Int32)) (hk21 : ∀ (M : Mm) (x0 : Nat) (x1 : Int32) (x2 : Int32) (x3 : Int32), k21 M x0 x1 x2 x3 = some res → ∀ (H : Heap) (locs : List Loc) (ls : Array Slot), Wd D cy shX ad nX (Aw ad nX) s.heap M H locs → lv_has ls 4 [(0, .ref (ad x0)), (1, .int x1), (2, .int x2), (3, .int x3)] → W p l e (headSpec (wU yX6_place cX6_place 4 (some .int)) rmX6_place).room s m args below meth c H locs 0 0 (QI D cy shX ad nX adK adV below args s res) (F0 m 21 ls [])), ∀ (M : Mm) (x0 : Nat) (x1 : Int32) (x2 : Int32) (x3 : Int32), f_X6_place_b62 k21 M x0 x1 x2 x3 = some res → ∀ (H : Heap) (locs : List Loc) (ls : Array Slot), Wd D cy shX ad nX (Aw ad nX) s.heap M H locs → lv_has ls 4 [(0, .ref (ad x0)), (1, .int x1), (2, .int x2), (3, .int x3)] → W p l e (headSpec (wU yX6_place cX6_place 4 (some .int)) rmX6_place).room s m args below meth c H locs 0 0 (QI D cy shX ad nX adK adV below args s res) (F0 m 62 ls []) := by
    intro k21 hk21
    intro M x0 x1 x2 x3 h H locs ls hw hl
    unfold f_X6_place_b62 at h
    refine lv_iinc (v := x3 + (1 : Int32)) (lv' := [(3, .int (x3 + (1 : Int32))), (0, .ref (ad x0)), (1, .int x1), (2, .int x2)]) hx hb dX6_place_62 hl (k := 3) rfl (congrArg (fun z => x3 + z) (by decide)) (by decide) rfl (fun ls hl => ?_)
    refine lv_goto (tgt := 21) hx hb dX6_place_65 (by decide) ?_
    exact hk21 _ _ _ _ _ h _ _ _ hw (lv_sub hl [1, 2, 3, 0] rfl)
  have hb21 : ∀ (nn : Nat), ∀ (M : Mm) (x0 : Nat) (x1 : Int32) (x2 : Int32) (x3 : Int32), f_X6_place_b21 nn M x0 x1 x2 x3 = some res → ∀ (H : Heap) (locs : List Loc) (ls : Array Slot), Wd D cy shX ad nX (Aw ad nX) s.heap M H locs → lv_has ls 4 [(0, .ref (ad x0)), (1, .int x1), (2, .int x2), (3, .int x3)] → W p l e (headSpec (wU yX6_place cX6_place 4 (some .int)) rmX6_place).room s m args below meth c H locs 0 0 (QI D cy shX ad nX adK adV below args s res) (F0 m 21 ls []) := by
    intro nn
    induction nn with
    | zero => intro M x0 x1 x2 x3 h; simp [f_X6_place_b21] at h
    | succ nn ih =>
      intro M x0 x1 x2 x3 h H locs ls hw hl
      unfold f_X6_place_b21 at h
      refine lv_iload_n hx hb dX6_place_21 rfl (lv_at hl 3 rfl) ?_
      refine lv_aload_n hx hb dX6_place_22 rfl (lv_at hl 0 rfl) ?_
      replace h := gd_some h
      obtain ⟨g1, h⟩ := h
      replace h := bd_some h
      obtain ⟨q2, eq2, h⟩ := h
      refine r_getR hx hb hts iw6 hown hK hw x0 0 g1 (by decide) rfl (by decide) rfl (hq _ qw336) (fun _ h9 => h9) dX6_place_23 eq2 ?_
      replace h := gd_some h
      obtain ⟨g3, h⟩ := h
      refine r_getI hx hb hts iw1 hown hK hw q2 3 g3 (by decide) rfl (by decide) rfl (hq _ qw191) (fun _ h9 => h9) dX6_place_26 ?_
      refine lv_icmp_ge (tgt := 68) hx hb dX6_place_29 (by decide) (fun c4 => ?_) (fun c4 => ?_)
      · replace h := if_some_t c4 h
        refine lv_iload_n hx hb dX6_place_68 rfl (lv_at hl 2 rfl) ?_
        exact r_iret hx hb hr rfl hlocks hZ hK hw h dX6_place_69
      · replace h := if_some_f c4 h
        refine lv_aload_n hx hb dX6_place_32 rfl (lv_at hl 0 rfl) ?_
        replace h := bd_some h
        obtain ⟨q5, eq5, h⟩ := h
        refine r_getR hx hb hts iw6 hown hK hw x0 0 g1 (by decide) rfl (by decide) rfl (hq _ qw336) (fun _ h9 => h9) dX6_place_33 eq5 ?_
        replace h := gd_some h
        obtain ⟨g6, h⟩ := h
        replace h := bd_some h
        obtain ⟨q7, eq7, h⟩ := h
        refine r_getR hx hb hts iw1 hown hK hw q5 0 g6 (by decide) rfl (by decide) rfl (hq _ qw183) (fun _ h9 => h9) dX6_place_36 eq7 ?_
        refine lv_iload_n hx hb dX6_place_39 rfl (lv_at hl 3 rfl) ?_
        replace h := gd_some h
        obtain ⟨g8, h⟩ := h
        replace h := bd_some h
        obtain ⟨q9, eq9, h⟩ := h
        refine r_aald hx hb hK hw q7 2 (by decide) rfl g8 dX6_place_40 eq9 ?_
        replace h := gd_some h
        obtain ⟨g10, h⟩ := h
        refine r_getI hx hb hts iw3 hown hK hw q9 3 g10 (by decide) rfl (by decide) rfl (hq _ qw108) (fun _ h9 => h9) dX6_place_41 ?_
        refine lv_aload_n hx hb dX6_place_44 rfl (lv_at hl 0 rfl) ?_
        replace h := bd_some h
        obtain ⟨q11, eq11, h⟩ := h
        refine r_getR hx hb hts iw6 hown hK hw x0 0 g1 (by decide) rfl (by decide) rfl (hq _ qw336) (fun _ h9 => h9) dX6_place_45 eq11 ?_
        replace h := gd_some h
        obtain ⟨g12, h⟩ := h
        replace h := bd_some h
        obtain ⟨q13, eq13, h⟩ := h
        refine r_getR hx hb hts iw1 hown hK hw q11 0 g12 (by decide) rfl (by decide) rfl (hq _ qw183) (fun _ h9 => h9) dX6_place_48 eq13 ?_
        refine lv_iload_n hx hb dX6_place_51 rfl (lv_at hl 1 rfl) ?_
        replace h := gd_some h
        obtain ⟨g14, h⟩ := h
        replace h := bd_some h
        obtain ⟨q15, eq15, h⟩ := h
        refine r_aald hx hb hK hw q13 2 (by decide) rfl g14 dX6_place_52 eq15 ?_
        replace h := gd_some h
        obtain ⟨g16, h⟩ := h
        refine r_getI hx hb hts iw3 hown hK hw q15 3 g16 (by decide) rfl (by decide) rfl (hq _ qw108) (fun _ h9 => h9) dX6_place_53 ?_
        refine lv_icmp_le (tgt := 62) hx hb dX6_place_56 (by decide) (fun c17 => ?_) (fun c17 => ?_)
        · replace h := if_some_t c17 h
          exact hb62 _ ih _ _ _ _ _ h _ _ _ hw (lv_sub hl [0, 1, 2, 3] rfl)
        · replace h := if_some_f c17 h
          refine lv_iinc (v := x2 + (1 : Int32)) (lv' := [(2, .int (x2 + (1 : Int32))), (0, .ref (ad x0)), (1, .int x1), (3, .int x3)]) hx hb dX6_place_59 hl (k := 2) rfl (congrArg (fun z => x2 + z) (by decide)) (by decide) rfl (fun ls hl => ?_)
          exact hb62 _ ih _ _ _ _ _ h _ _ _ hw (lv_sub hl [1, 2, 0, 3] rfl)
  unfold f_X6_place at h
  refine lv_aload_n hx hb dX6_place_0 rfl (lv_at hl 0 rfl) ?_
  replace h := gd_some h
  obtain ⟨g18, h⟩ := h
  replace h := bd_some h
  obtain ⟨q19, eq19, h⟩ := h
  refine r_getR hx hb hts iw6 hown hK hw o0 0 g18 (by decide) rfl (by decide) rfl (hq _ qw336) (fun _ h9 => h9) dX6_place_1 eq19 ?_
  refine lv_iload_n hx hb dX6_place_4 rfl (lv_at hl 1 rfl) ?_
  replace h := gd_some h
  obtain ⟨g21, h⟩ := h
  replace h := bd_some h
  obtain ⟨r20, er20, h⟩ := h
  refine r_callVi (As := [.int a1]) (rest := []) hF (c_X1_hasSide l D cy ad adK adV M q19 a1 r20 er20) (gW_goodV hcm qw391 qw388 qw389 qw390 qw62) hdX1_hasSide rfl ⟨Nat.le_of_ble_eq_true rfl, Nat.le_of_ble_eq_true rfl⟩ rfl rfl hZ hK hw g21 (by decide) rfl rfl hl.1 rfl (Nat.le_of_ble_eq_true rfl) ⟨Nat.zero_le _, Nat.zero_le _⟩ dX6_place_5 (fun H locs hw => ?_)
  refine lv_if_ne (tgt := 17) hx hb dX6_place_8 (by decide) (fun c22 => ?_) (fun c22 => ?_)
  · replace h := if_some_f c22 h
    refine lv_iconst (v := (1 : Int32)) hx hb dX6_place_17 (by decide) ?_
    refine lv_istore_n (lv' := [(2, .int (1 : Int32)), (0, .ref (ad o0)), (1, .int a1)]) hx hb dX6_place_18 rfl hl (by decide) rfl (fun ls hl => ?_)
    refine lv_iconst (v := (0 : Int32)) hx hb dX6_place_19 (by decide) ?_
    refine lv_istore_n (lv' := [(3, .int (0 : Int32)), (2, .int (1 : Int32)), (0, .ref (ad o0)), (1, .int a1)]) hx hb dX6_place_20 rfl hl (by decide) rfl (fun ls hl => ?_)
    exact hb21 1000 _ _ _ _ _ h _ _ _ hw (lv_sub hl [2, 3, 1, 0] rfl)
  · replace h := if_some_t c22 h
    refine lv_aload_n hx hb dX6_place_11 rfl (lv_at hl 0 rfl) ?_
    refine lv_iconst (v := (0 : Int32)) hx hb dX6_place_12 (by decide) ?_
    replace h := bd_some h
    obtain ⟨r23, er23, h⟩ := h
    refine r_callVi (As := [.int (0 : Int32)]) (rest := []) hF (c_X6_finding l D cy ad adK adV r20.1 o0 (0 : Int32) r23 er23) (gW_goodV hcm qw374 qw371 qw373 qw0 qw61) hdX6_finding rfl ⟨Nat.le_of_ble_eq_true rfl, Nat.le_of_ble_eq_true rfl⟩ rfl rfl hZ hK hw g18 (by decide) rfl rfl hl.1 rfl (Nat.le_of_ble_eq_true rfl) ⟨Nat.zero_le _, Nat.zero_le _⟩ dX6_place_13 (fun H locs hw => ?_)
    exact r_iret hx hb hr rfl hlocks hZ hK hw h dX6_place_16
theorem dX6_goLikelyWays_0 : decode cX6_goLikelyWays 0 = .ok (.aload_n 0, 1) := by decide +kernel
theorem dX6_goLikelyWays_1 : decode cX6_goLikelyWays 1 = .ok (.getfield 31, 3) := by decide +kernel
theorem dX6_goLikelyWays_4 : decode cX6_goLikelyWays 4 = .ok (.aload_n 0, 1) := by decide +kernel
theorem dX6_goLikelyWays_5 : decode cX6_goLikelyWays 5 = .ok (.getfield 10, 3) := by decide +kernel
theorem dX6_goLikelyWays_8 : decode cX6_goLikelyWays 8 = .ok (.invokevirtual 151, 3) := by decide +kernel
theorem dX6_goLikelyWays_11 : decode cX6_goLikelyWays 11 = .ok (.aload_n 0, 1) := by decide +kernel
theorem dX6_goLikelyWays_12 : decode cX6_goLikelyWays 12 = .ok (.getfield 26, 3) := by decide +kernel
theorem dX6_goLikelyWays_15 : decode cX6_goLikelyWays 15 = .ok (.iconst 0, 1) := by decide +kernel
theorem dX6_goLikelyWays_16 : decode cX6_goLikelyWays 16 = .ok (.iconst 0, 1) := by decide +kernel
theorem dX6_goLikelyWays_17 : decode cX6_goLikelyWays 17 = .ok (.iconst 0, 1) := by decide +kernel
theorem dX6_goLikelyWays_18 : decode cX6_goLikelyWays 18 = .ok (.invokevirtual 213, 3) := by decide +kernel
theorem dX6_goLikelyWays_21 : decode cX6_goLikelyWays 21 = .ok (.return_, 1) := by decide +kernel
set_option maxHeartbeats 4000000 in
set_option maxRecDepth 100000 in
theorem c_X6_goLikelyWays (l : Launch) (D : va_G) (cy : Nat → ClassId) (ad adK adV : Nat → Nat) (M : Mm) (o0 : Nat) (res : Mm × Unit) (h : f_X6_goLikelyWays M o0 = some res) : Met l yX6_goLikelyWays (wU yX6_goLikelyWays cX6_goLikelyWays 1 none) rmX6_goLikelyWays (va_Pc [.ref (ad o0)] (Pre D cy shX ad nX adK adV M)) (va_Qv (fun (M2 : Mm) => M2 = res.1) (Pre D cy shX ad nX adK adV) (Aw ad nX)) 0 0 (Aw ad nX) := by
  refine Met.ofW (cc := cX6_goLikelyWays) (maxL := 1) (ret := none) (by decide) rfl ?_
  intro p e s m args below meth c s₁ B hml hv
  obtain ⟨hargs, hPre⟩ := hv
  have hx := B.exec
  have hb := B.bytes
  have hr := B.returns
  have hts := atoms_spec (ws := wU yX6_goLikelyWays cX6_goLikelyWays 1 none) B.pre
  have hq : ∀ w ∈ gW, w.before args s = true := fun w hw => hts w (List.mem_cons_of_mem _ hw)
  have hcm : ∀ w ∈ gW, w ∈ wU yX6_goLikelyWays cX6_goLikelyWays 1 none := fun w hw => List.mem_cons_of_mem _ hw
  have hown : s.vm.findClass RX6 = some m.cls := findClass_of_methodNamed B.named
  have hlocks := B.notSynchronized
  have hF : CallFix p m c cX6_goLikelyWays 1 s args (wU yX6_goLikelyWays cX6_goLikelyWays 1 none) RX6 := ⟨hx, hb, hml, hown, hts⟩
  have hK := hPre.2.1
  have hZ := hPre.2.2.2
  have hw : Wd D cy shX ad nX (Aw ad nX) s.heap M s.heap [] := ⟨hPre.1, hPre.2.2.1, va_S.rf⟩
  have iw6 : ∀ w ∈ u_ws RX6 TX6 8, w ∈ wU yX6_goLikelyWays cX6_goLikelyWays 1 none := fun w hw => List.mem_cons_of_mem _ (iX6 w hw)
  rw [show entryFrame m args 1 = entryFrame m ([.ref (ad o0)] : List Value).toArray 1 from by rw [hargs]]
  have hl := lv_entry ([.ref (ad o0)]) (n := 1) (Nat.le_of_ble_eq_true rfl)
  rw [lg_entry_eq]
  generalize (lg_sl ([.ref (ad o0)]) ++ List.replicate (1 - (lg_sl ([.ref (ad o0)])).length) Slot.unset).toArray = ls at hl ⊢
  have hl : lv_has ls 1 [(0, .ref (ad o0))] := hl
  unfold f_X6_goLikelyWays at h
  refine lv_aload_n hx hb dX6_goLikelyWays_0 rfl (lv_at hl 0 rfl) ?_
  replace h := gd_some h
  obtain ⟨g1, h⟩ := h
  replace h := bd_some h
  obtain ⟨q2, eq2, h⟩ := h
  refine r_getR hx hb hts iw6 hown hK hw o0 4 g1 (by decide) rfl (by decide) rfl (hq _ qw340) (fun _ h9 => h9) dX6_goLikelyWays_1 eq2 ?_
  refine lv_aload_n hx hb dX6_goLikelyWays_4 rfl (lv_at hl 0 rfl) ?_
  replace h := bd_some h
  obtain ⟨q3, eq3, h⟩ := h
  refine r_getR hx hb hts iw6 hown hK hw o0 0 g1 (by decide) rfl (by decide) rfl (hq _ qw336) (fun _ h9 => h9) dX6_goLikelyWays_5 eq3 ?_
  replace h := gd_some h
  obtain ⟨g5, h⟩ := h
  replace h := bd_some h
  obtain ⟨r4, er4, h⟩ := h
  refine r_callVv (As := [.ref (ad q3)]) (rest := []) hF (c_X1_become l D cy ad adK adV M q2 q3 r4 er4) (gW_goodV hcm qw458 qw455 qw456 qw457 qw62) hdX1_become rfl ⟨Nat.le_of_ble_eq_true rfl, Nat.le_of_ble_eq_true rfl⟩ rfl rfl hZ hK hw g5 (by decide) rfl rfl hl.1 rfl (Nat.le_of_ble_eq_true rfl) ⟨Nat.zero_le _, Nat.zero_le _⟩ dX6_goLikelyWays_8 (fun H locs hw => ?_)
  refine lv_aload_n hx hb dX6_goLikelyWays_11 rfl (lv_at hl 0 rfl) ?_
  replace h := bd_some h
  obtain ⟨q6, eq6, h⟩ := h
  refine r_getR hx hb hts iw6 hown hK hw o0 3 g1 (by decide) rfl (by decide) rfl (hq _ qw339) (fun _ h9 => h9) dX6_goLikelyWays_12 eq6 ?_
  refine lv_iconst (v := (0 : Int32)) hx hb dX6_goLikelyWays_15 (by decide) ?_
  refine lv_iconst (v := (0 : Int32)) hx hb dX6_goLikelyWays_16 (by decide) ?_
  refine lv_iconst (v := (0 : Int32)) hx hb dX6_goLikelyWays_17 (by decide) ?_
  replace h := gd_some h
  obtain ⟨g8, h⟩ := h
  replace h := bd_some h
  obtain ⟨r7, er7, h⟩ := h
  refine r_callVv (As := [.int (0 : Int32), .int (0 : Int32), .int (0 : Int32)]) (rest := []) hF (c_X5_over l D cy ad adK adV r4.1 q6 (0 : Int32) (0 : Int32) (0 : Int32) r7 er7) (gW_goodV hcm qw681 qw678 qw679 qw680 qw65) hdX5_over rfl ⟨Nat.le_of_ble_eq_true rfl, Nat.le_of_ble_eq_true rfl⟩ rfl rfl hZ hK hw g8 (by decide) rfl rfl hl.1 rfl (Nat.le_of_ble_eq_true rfl) ⟨Nat.zero_le _, Nat.zero_le _⟩ dX6_goLikelyWays_18 (fun H locs hw => ?_)
  exact r_vret hx hb hr hlocks hZ hK hw h dX6_goLikelyWays_21
theorem dX6_inLowestTerms_0 : decode cX6_inLowestTerms 0 = .ok (.lload_n 2, 1) := by decide +kernel
theorem dX6_inLowestTerms_1 : decode cX6_inLowestTerms 1 = .ok (.lstore 5, 2) := by decide +kernel
theorem dX6_inLowestTerms_3 : decode cX6_inLowestTerms 3 = .ok (.lload_n 0, 1) := by decide +kernel
theorem dX6_inLowestTerms_4 : decode cX6_inLowestTerms 4 = .ok (.lstore 7, 2) := by decide +kernel
theorem dX6_inLowestTerms_6 : decode cX6_inLowestTerms 6 = .ok (.iconst 0, 1) := by decide +kernel
theorem dX6_inLowestTerms_7 : decode cX6_inLowestTerms 7 = .ok (.istore 9, 2) := by decide +kernel
theorem dX6_inLowestTerms_9 : decode cX6_inLowestTerms 9 = .ok (.iload 9, 2) := by decide +kernel
theorem dX6_inLowestTerms_11 : decode cX6_inLowestTerms 11 = .ok (.bipush 100, 2) := by decide +kernel
theorem dX6_inLowestTerms_13 : decode cX6_inLowestTerms 13 = .ok (.if_icmp .ge 31, 3) := by decide +kernel
theorem dX6_inLowestTerms_16 : decode cX6_inLowestTerms 16 = .ok (.lload 7, 2) := by decide +kernel
theorem dX6_inLowestTerms_18 : decode cX6_inLowestTerms 18 = .ok (.lconst 0, 1) := by decide +kernel
theorem dX6_inLowestTerms_19 : decode cX6_inLowestTerms 19 = .ok (.lcmp, 1) := by decide +kernel
theorem dX6_inLowestTerms_20 : decode cX6_inLowestTerms 20 = .ok (.ifCond .eq 24, 3) := by decide +kernel
theorem dX6_inLowestTerms_23 : decode cX6_inLowestTerms 23 = .ok (.lload 5, 2) := by decide +kernel
theorem dX6_inLowestTerms_25 : decode cX6_inLowestTerms 25 = .ok (.lload 7, 2) := by decide +kernel
theorem dX6_inLowestTerms_27 : decode cX6_inLowestTerms 27 = .ok (.lrem, 1) := by decide +kernel
theorem dX6_inLowestTerms_28 : decode cX6_inLowestTerms 28 = .ok (.lstore 10, 2) := by decide +kernel
theorem dX6_inLowestTerms_30 : decode cX6_inLowestTerms 30 = .ok (.lload 7, 2) := by decide +kernel
theorem dX6_inLowestTerms_32 : decode cX6_inLowestTerms 32 = .ok (.lstore 5, 2) := by decide +kernel
theorem dX6_inLowestTerms_34 : decode cX6_inLowestTerms 34 = .ok (.lload 10, 2) := by decide +kernel
theorem dX6_inLowestTerms_36 : decode cX6_inLowestTerms 36 = .ok (.lstore 7, 2) := by decide +kernel
theorem dX6_inLowestTerms_38 : decode cX6_inLowestTerms 38 = .ok (.iinc 9 1, 3) := by decide +kernel
theorem dX6_inLowestTerms_41 : decode cX6_inLowestTerms 41 = .ok (.goto (-32), 3) := by decide +kernel
theorem dX6_inLowestTerms_44 : decode cX6_inLowestTerms 44 = .ok (.lload 5, 2) := by decide +kernel
theorem dX6_inLowestTerms_46 : decode cX6_inLowestTerms 46 = .ok (.lconst 0, 1) := by decide +kernel
theorem dX6_inLowestTerms_47 : decode cX6_inLowestTerms 47 = .ok (.lcmp, 1) := by decide +kernel
theorem dX6_inLowestTerms_48 : decode cX6_inLowestTerms 48 = .ok (.ifCond .ne 5, 3) := by decide +kernel
theorem dX6_inLowestTerms_51 : decode cX6_inLowestTerms 51 = .ok (.lconst 0, 1) := by decide +kernel
theorem dX6_inLowestTerms_52 : decode cX6_inLowestTerms 52 = .ok (.lreturn, 1) := by decide +kernel
theorem dX6_inLowestTerms_53 : decode cX6_inLowestTerms 53 = .ok (.iload 4, 2) := by decide +kernel
theorem dX6_inLowestTerms_55 : decode cX6_inLowestTerms 55 = .ok (.ifCond .ne 7, 3) := by decide +kernel
theorem dX6_inLowestTerms_58 : decode cX6_inLowestTerms 58 = .ok (.lload_n 0, 1) := by decide +kernel
theorem dX6_inLowestTerms_59 : decode cX6_inLowestTerms 59 = .ok (.goto 4, 3) := by decide +kernel
theorem dX6_inLowestTerms_62 : decode cX6_inLowestTerms 62 = .ok (.lload_n 2, 1) := by decide +kernel
theorem dX6_inLowestTerms_63 : decode cX6_inLowestTerms 63 = .ok (.lload 5, 2) := by decide +kernel
theorem dX6_inLowestTerms_65 : decode cX6_inLowestTerms 65 = .ok (.ldiv, 1) := by decide +kernel
theorem dX6_inLowestTerms_66 : decode cX6_inLowestTerms 66 = .ok (.lreturn, 1) := by decide +kernel
set_option maxHeartbeats 4000000 in
set_option maxRecDepth 100000 in
theorem c_X6_inLowestTerms (l : Launch) (D : va_G) (cy : Nat → ClassId) (ad adK adV : Nat → Nat) (M : Mm) (a0 : Int64) (a2 : Int64) (a4 : Int32) (res : Mm × Int64) (h : f_X6_inLowestTerms M a0 a2 a4 = some res) : Met l yX6_inLowestTerms (wU yX6_inLowestTerms cX6_inLowestTerms 12 (some .long)) rmX6_inLowestTerms (va_Pc [.long a0, .long a2, .int a4] (Pre D cy shX ad nX adK adV M)) (va_Ql (fun r (M2 : Mm) => r = res.2 ∧ M2 = res.1) (Pre D cy shX ad nX adK adV) (Aw ad nX)) 0 0 (Aw ad nX) := by
  refine Met.ofW (cc := cX6_inLowestTerms) (maxL := 12) (ret := (some .long)) (by decide) rfl ?_
  intro p e s m args below meth c s₁ B hml hv
  obtain ⟨hargs, hPre⟩ := hv
  have hx := B.exec
  have hb := B.bytes
  have hr := B.returns
  have hts := atoms_spec (ws := wU yX6_inLowestTerms cX6_inLowestTerms 12 (some .long)) B.pre
  have hq : ∀ w ∈ gW, w.before args s = true := fun w hw => hts w (List.mem_cons_of_mem _ hw)
  have hcm : ∀ w ∈ gW, w ∈ wU yX6_inLowestTerms cX6_inLowestTerms 12 (some .long) := fun w hw => List.mem_cons_of_mem _ hw
  have hown : s.vm.findClass RX6 = some m.cls := findClass_of_methodNamed B.named
  have hlocks := B.notSynchronized
  have hF : CallFix p m c cX6_inLowestTerms 12 s args (wU yX6_inLowestTerms cX6_inLowestTerms 12 (some .long)) RX6 := ⟨hx, hb, hml, hown, hts⟩
  have hK := hPre.2.1
  have hZ := hPre.2.2.2
  have hw : Wd D cy shX ad nX (Aw ad nX) s.heap M s.heap [] := ⟨hPre.1, hPre.2.2.1, va_S.rf⟩
  rw [show entryFrame m args 12 = entryFrame m ([.long a0, .long a2, .int a4] : List Value).toArray 12 from by rw [hargs]]
  have hl := lv_entry ([.long a0, .long a2, .int a4]) (n := 12) (Nat.le_of_ble_eq_true rfl)
  rw [lg_entry_eq]
  generalize (lg_sl ([.long a0, .long a2, .int a4]) ++ List.replicate (12 - (lg_sl ([.long a0, .long a2, .int a4])).length) Slot.unset).toArray = ls at hl ⊢
  have hl : lv_has ls 12 [(0, .long a0), (2, .long a2), (4, .int a4)] := hl
  have hb63 : ∀ (M : Mm) (x5 : Int64) (t0 : Int64), f_X6_inLowestTerms_b63 M x5 t0 = some res → ∀ (H : Heap) (locs : List Loc) (ls : Array Slot), Wd D cy shX ad nX (Aw ad nX) s.heap M H locs → lv_has ls 12 [(5, .long x5)] → W p l e (headSpec (wU yX6_inLowestTerms cX6_inLowestTerms 12 (some .long)) rmX6_inLowestTerms).room s m args below meth c H locs 0 0 (QL D cy shX ad nX adK adV below args s res) (F0 m 63 ls [.long t0]) := by
    intro M x5 t0 h H locs ls hw hl
    unfold f_X6_inLowestTerms_b63 at h
    refine lv_lload hx hb dX6_inLowestTerms_63 (lv_at hl 0 rfl) ?_
    replace h := gd_some h
    obtain ⟨g1, h⟩ := h
    refine lv_ldiv hx hb dX6_inLowestTerms_65 g1 ?_
    exact r_lret hx hb hr hlocks hZ hK hw h dX6_inLowestTerms_66
  have hb44 : ∀ (M : Mm) (x0 : Int64) (x2 : Int64) (x4 : Int32) (x5 : Int64), f_X6_inLowestTerms_b44 M x0 x2 x4 x5 = some res → ∀ (H : Heap) (locs : List Loc) (ls : Array Slot), Wd D cy shX ad nX (Aw ad nX) s.heap M H locs → lv_has ls 12 [(0, .long x0), (2, .long x2), (4, .int x4), (5, .long x5)] → W p l e (headSpec (wU yX6_inLowestTerms cX6_inLowestTerms 12 (some .long)) rmX6_inLowestTerms).room s m args below meth c H locs 0 0 (QL D cy shX ad nX adK adV below args s res) (F0 m 44 ls []) := by
    intro M x0 x2 x4 x5 h H locs ls hw hl
    unfold f_X6_inLowestTerms_b44 at h
    refine lv_lload hx hb dX6_inLowestTerms_44 (lv_at hl 3 rfl) ?_
    refine lv_lconst (v := (0 : Int64)) hx hb dX6_inLowestTerms_46 (by decide) ?_
    refine W.lcmp hx hb dX6_inLowestTerms_47 ?_
    refine lv_if_ne (tgt := 53) hx hb dX6_inLowestTerms_48 (by decide) (fun c2 => ?_) (fun c2 => ?_)
    · replace h := if_some_f c2 h
      refine lv_iload hx hb dX6_inLowestTerms_53 (lv_at hl 2 rfl) ?_
      refine lv_if_ne (tgt := 62) hx hb dX6_inLowestTerms_55 (by decide) (fun c3 => ?_) (fun c3 => ?_)
      · replace h := if_some_f c3 h
        refine lv_lload_n hx hb dX6_inLowestTerms_62 rfl (lv_at hl 1 rfl) ?_
        exact hb63 _ _ _ h _ _ _ hw (lv_sub hl [3] rfl)
      · replace h := if_some_t c3 h
        refine lv_lload_n hx hb dX6_inLowestTerms_58 rfl (lv_at hl 0 rfl) ?_
        refine lv_goto (tgt := 63) hx hb dX6_inLowestTerms_59 (by decide) ?_
        exact hb63 _ _ _ h _ _ _ hw (lv_sub hl [3] rfl)
    · replace h := if_some_t c2 h
      refine lv_lconst (v := (0 : Int64)) hx hb dX6_inLowestTerms_51 (by decide) ?_
      exact r_lret hx hb hr hlocks hZ hK hw h dX6_inLowestTerms_52
  have hb9 : ∀ (nn : Nat), ∀ (M : Mm) (x0 : Int64) (x2 : Int64) (x4 : Int32) (x5 : Int64) (x7 : Int64) (x9 : Int32), f_X6_inLowestTerms_b9 nn M x0 x2 x4 x5 x7 x9 = some res → ∀ (H : Heap) (locs : List Loc) (ls : Array Slot), Wd D cy shX ad nX (Aw ad nX) s.heap M H locs → lv_has ls 12 [(0, .long x0), (2, .long x2), (4, .int x4), (5, .long x5), (7, .long x7), (9, .int x9)] → W p l e (headSpec (wU yX6_inLowestTerms cX6_inLowestTerms 12 (some .long)) rmX6_inLowestTerms).room s m args below meth c H locs 0 0 (QL D cy shX ad nX adK adV below args s res) (F0 m 9 ls []) := by
    intro nn
    induction nn with
    | zero => intro M x0 x2 x4 x5 x7 x9 h; simp [f_X6_inLowestTerms_b9] at h
    | succ nn ih =>
      intro M x0 x2 x4 x5 x7 x9 h H locs ls hw hl
      unfold f_X6_inLowestTerms_b9 at h
      refine lv_iload hx hb dX6_inLowestTerms_9 (lv_at hl 5 rfl) ?_
      refine lv_bipush (v := (100 : Int32)) hx hb dX6_inLowestTerms_11 (by decide) ?_
      refine lv_icmp_ge (tgt := 44) hx hb dX6_inLowestTerms_13 (by decide) (fun c4 => ?_) (fun c4 => ?_)
      · replace h := if_some_t c4 h
        exact hb44 _ _ _ _ _ h _ _ _ hw (lv_sub hl [0, 1, 2, 3] rfl)
      · replace h := if_some_f c4 h
        refine lv_lload hx hb dX6_inLowestTerms_16 (lv_at hl 4 rfl) ?_
        refine lv_lconst (v := (0 : Int64)) hx hb dX6_inLowestTerms_18 (by decide) ?_
        refine W.lcmp hx hb dX6_inLowestTerms_19 ?_
        refine lv_if_eq (tgt := 44) hx hb dX6_inLowestTerms_20 (by decide) (fun c5 => ?_) (fun c5 => ?_)
        · replace h := if_some_t c5 h
          exact hb44 _ _ _ _ _ h _ _ _ hw (lv_sub hl [0, 1, 2, 3] rfl)
        · replace h := if_some_f c5 h
          refine lv_lload hx hb dX6_inLowestTerms_23 (lv_at hl 3 rfl) ?_
          refine lv_lload hx hb dX6_inLowestTerms_25 (lv_at hl 4 rfl) ?_
          replace h := gd_some h
          obtain ⟨g6, h⟩ := h
          refine lv_lrem hx hb dX6_inLowestTerms_27 g6 ?_
          refine lv_lstore (lv' := [(10, .long (x5 - x5 / x7 * x7)), (0, .long x0), (2, .long x2), (4, .int x4), (5, .long x5), (7, .long x7), (9, .int x9)]) hx hb dX6_inLowestTerms_28 hl (by decide) rfl (fun ls hl => ?_)
          refine lv_lload hx hb dX6_inLowestTerms_30 (lv_at hl 5 rfl) ?_
          refine lv_lstore (lv' := [(5, .long x7), (10, .long (x5 - x5 / x7 * x7)), (0, .long x0), (2, .long x2), (4, .int x4), (7, .long x7), (9, .int x9)]) hx hb dX6_inLowestTerms_32 hl (by decide) rfl (fun ls hl => ?_)
          refine lv_lload hx hb dX6_inLowestTerms_34 (lv_at hl 1 rfl) ?_
          refine lv_lstore (lv' := [(7, .long (x5 - x5 / x7 * x7)), (5, .long x7), (10, .long (x5 - x5 / x7 * x7)), (0, .long x0), (2, .long x2), (4, .int x4), (9, .int x9)]) hx hb dX6_inLowestTerms_36 hl (by decide) rfl (fun ls hl => ?_)
          refine lv_iinc (v := x9 + (1 : Int32)) (lv' := [(9, .int (x9 + (1 : Int32))), (7, .long (x5 - x5 / x7 * x7)), (5, .long x7), (10, .long (x5 - x5 / x7 * x7)), (0, .long x0), (2, .long x2), (4, .int x4)]) hx hb dX6_inLowestTerms_38 hl (k := 6) rfl (congrArg (fun z => x9 + z) (by decide)) (by decide) rfl (fun ls hl => ?_)
          refine lv_goto (tgt := 9) hx hb dX6_inLowestTerms_41 (by decide) ?_
          exact ih _ _ _ _ _ _ _ h _ _ _ hw (lv_sub hl [4, 5, 6, 2, 1, 0] rfl)
  unfold f_X6_inLowestTerms at h
  refine lv_lload_n hx hb dX6_inLowestTerms_0 rfl (lv_at hl 1 rfl) ?_
  refine lv_lstore (lv' := [(5, .long a2), (0, .long a0), (2, .long a2), (4, .int a4)]) hx hb dX6_inLowestTerms_1 hl (by decide) rfl (fun ls hl => ?_)
  refine lv_lload_n hx hb dX6_inLowestTerms_3 rfl (lv_at hl 1 rfl) ?_
  refine lv_lstore (lv' := [(7, .long a0), (5, .long a2), (0, .long a0), (2, .long a2), (4, .int a4)]) hx hb dX6_inLowestTerms_4 hl (by decide) rfl (fun ls hl => ?_)
  refine lv_iconst (v := (0 : Int32)) hx hb dX6_inLowestTerms_6 (by decide) ?_
  refine lv_istore (lv' := [(9, .int (0 : Int32)), (7, .long a0), (5, .long a2), (0, .long a0), (2, .long a2), (4, .int a4)]) hx hb dX6_inLowestTerms_7 hl (by decide) rfl (fun ls hl => ?_)
  exact hb9 1000 _ _ _ _ _ _ _ h _ _ _ hw (lv_sub hl [3, 4, 5, 2, 1, 0] rfl)
theorem dX6_isPart_0 : decode cX6_isPart 0 = .ok (.iload_n 0, 1) := by decide +kernel
theorem dX6_isPart_1 : decode cX6_isPart 1 = .ok (.ifCond .eq 8, 3) := by decide +kernel
theorem dX6_isPart_4 : decode cX6_isPart 4 = .ok (.iload_n 0, 1) := by decide +kernel
theorem dX6_isPart_5 : decode cX6_isPart 5 = .ok (.iconst 1, 1) := by decide +kernel
theorem dX6_isPart_6 : decode cX6_isPart 6 = .ok (.if_icmp .ne 7, 3) := by decide +kernel
theorem dX6_isPart_9 : decode cX6_isPart 9 = .ok (.iconst 1, 1) := by decide +kernel
theorem dX6_isPart_10 : decode cX6_isPart 10 = .ok (.goto 4, 3) := by decide +kernel
theorem dX6_isPart_13 : decode cX6_isPart 13 = .ok (.iconst 0, 1) := by decide +kernel
theorem dX6_isPart_14 : decode cX6_isPart 14 = .ok (.ireturn, 1) := by decide +kernel
set_option maxHeartbeats 4000000 in
set_option maxRecDepth 100000 in
theorem c_X6_isPart (l : Launch) (D : va_G) (cy : Nat → ClassId) (ad adK adV : Nat → Nat) (M : Mm) (a0 : Int32) (res : Mm × Int32) (h : f_X6_isPart M a0 = some res) : Met l yX6_isPart (wU yX6_isPart cX6_isPart 1 (some .boolean)) rmX6_isPart (va_Pc [.int a0] (Pre D cy shX ad nX adK adV M)) (va_Qi (fun r (M2 : Mm) => r = res.2 ∧ M2 = res.1) (Pre D cy shX ad nX adK adV) (Aw ad nX)) 0 0 (Aw ad nX) := by
  refine Met.ofW (cc := cX6_isPart) (maxL := 1) (ret := (some .boolean)) (by decide) rfl ?_
  intro p e s m args below meth c s₁ B hml hv
  obtain ⟨hargs, hPre⟩ := hv
  have hx := B.exec
  have hb := B.bytes
  have hr := B.returns
  have hts := atoms_spec (ws := wU yX6_isPart cX6_isPart 1 (some .boolean)) B.pre
  have hq : ∀ w ∈ gW, w.before args s = true := fun w hw => hts w (List.mem_cons_of_mem _ hw)
  have hcm : ∀ w ∈ gW, w ∈ wU yX6_isPart cX6_isPart 1 (some .boolean) := fun w hw => List.mem_cons_of_mem _ hw
  have hown : s.vm.findClass RX6 = some m.cls := findClass_of_methodNamed B.named
  have hlocks := B.notSynchronized
  have hF : CallFix p m c cX6_isPart 1 s args (wU yX6_isPart cX6_isPart 1 (some .boolean)) RX6 := ⟨hx, hb, hml, hown, hts⟩
  have hK := hPre.2.1
  have hZ := hPre.2.2.2
  have hw : Wd D cy shX ad nX (Aw ad nX) s.heap M s.heap [] := ⟨hPre.1, hPre.2.2.1, va_S.rf⟩
  rw [show entryFrame m args 1 = entryFrame m ([.int a0] : List Value).toArray 1 from by rw [hargs]]
  have hl := lv_entry ([.int a0]) (n := 1) (Nat.le_of_ble_eq_true rfl)
  rw [lg_entry_eq]
  generalize (lg_sl ([.int a0]) ++ List.replicate (1 - (lg_sl ([.int a0])).length) Slot.unset).toArray = ls at hl ⊢
  have hl : lv_has ls 1 [(0, .int a0)] := hl
  have hb9 : ∀ (M : Mm) , f_X6_isPart_b9 M  = some res → ∀ (H : Heap) (locs : List Loc) (ls : Array Slot), Wd D cy shX ad nX (Aw ad nX) s.heap M H locs → lv_has ls 1 [] → W p l e (headSpec (wU yX6_isPart cX6_isPart 1 (some .boolean)) rmX6_isPart).room s m args below meth c H locs 0 0 (QI D cy shX ad nX adK adV below args s res) (F0 m 9 ls []) := by
    intro M h H locs ls hw hl
    unfold f_X6_isPart_b9 at h
    refine lv_iconst (v := (1 : Int32)) hx hb dX6_isPart_9 (by decide) ?_
    refine lv_goto (tgt := 14) hx hb dX6_isPart_10 (by decide) ?_
    exact r_iret hx hb hr rfl hlocks hZ hK hw h dX6_isPart_14
  unfold f_X6_isPart at h
  refine lv_iload_n hx hb dX6_isPart_0 rfl (lv_at hl 0 rfl) ?_
  refine lv_if_eq (tgt := 9) hx hb dX6_isPart_1 (by decide) (fun c1 => ?_) (fun c1 => ?_)
  · replace h := if_some_t c1 h
    exact hb9 _ h _ _ _ hw (lv_sub hl [] rfl)
  · replace h := if_some_f c1 h
    refine lv_iload_n hx hb dX6_isPart_4 rfl (lv_at hl 0 rfl) ?_
    refine lv_iconst (v := (1 : Int32)) hx hb dX6_isPart_5 (by decide) ?_
    refine lv_icmp_ne (tgt := 13) hx hb dX6_isPart_6 (by decide) (fun c2 => ?_) (fun c2 => ?_)
    · replace h := if_some_f c2 h
      refine lv_iconst (v := (0 : Int32)) hx hb dX6_isPart_13 (by decide) ?_
      exact r_iret hx hb hr rfl hlocks hZ hK hw h dX6_isPart_14
    · replace h := if_some_t c2 h
      exact hb9 _ h _ _ _ hw (lv_sub hl [] rfl)
theorem dX6_gets_0 : decode cX6_gets 0 = .ok (.aload_n 0, 1) := by decide +kernel
theorem dX6_gets_1 : decode cX6_gets 1 = .ok (.getfield 10, 3) := by decide +kernel
theorem dX6_gets_4 : decode cX6_gets 4 = .ok (.iload_n 1, 1) := by decide +kernel
theorem dX6_gets_5 : decode cX6_gets 5 = .ok (.invokevirtual 114, 3) := by decide +kernel
theorem dX6_gets_8 : decode cX6_gets 8 = .ok (.ifCond .eq 21, 3) := by decide +kernel
theorem dX6_gets_11 : decode cX6_gets 11 = .ok (.aload_n 0, 1) := by decide +kernel
theorem dX6_gets_12 : decode cX6_gets 12 = .ok (.getfield 10, 3) := by decide +kernel
theorem dX6_gets_15 : decode cX6_gets 15 = .ok (.iload_n 2, 1) := by decide +kernel
theorem dX6_gets_16 : decode cX6_gets 16 = .ok (.invokevirtual 71, 3) := by decide +kernel
theorem dX6_gets_19 : decode cX6_gets 19 = .ok (.ifCond .eq 10, 3) := by decide +kernel
theorem dX6_gets_22 : decode cX6_gets 22 = .ok (.iload_n 3, 1) := by decide +kernel
theorem dX6_gets_23 : decode cX6_gets 23 = .ok (.invokestatic 189, 3) := by decide +kernel
theorem dX6_gets_26 : decode cX6_gets 26 = .ok (.ifCond .ne 10, 3) := by decide +kernel
theorem dX6_gets_29 : decode cX6_gets 29 = .ok (.aload_n 0, 1) := by decide +kernel
theorem dX6_gets_30 : decode cX6_gets 30 = .ok (.iconst 0, 1) := by decide +kernel
theorem dX6_gets_31 : decode cX6_gets 31 = .ok (.invokevirtual 59, 3) := by decide +kernel
theorem dX6_gets_34 : decode cX6_gets 34 = .ok (.i2l, 1) := by decide +kernel
theorem dX6_gets_35 : decode cX6_gets 35 = .ok (.lreturn, 1) := by decide +kernel
theorem dX6_gets_36 : decode cX6_gets 36 = .ok (.aload_n 0, 1) := by decide +kernel
theorem dX6_gets_37 : decode cX6_gets 37 = .ok (.invokevirtual 192, 3) := by decide +kernel
theorem dX6_gets_40 : decode cX6_gets 40 = .ok (.aload_n 0, 1) := by decide +kernel
theorem dX6_gets_41 : decode cX6_gets 41 = .ok (.getfield 10, 3) := by decide +kernel
theorem dX6_gets_44 : decode cX6_gets 44 = .ok (.getfield 120, 3) := by decide +kernel
theorem dX6_gets_47 : decode cX6_gets 47 = .ok (.iload_n 1, 1) := by decide +kernel
theorem dX6_gets_48 : decode cX6_gets 48 = .ok (.aaload, 1) := by decide +kernel
theorem dX6_gets_49 : decode cX6_gets 49 = .ok (.astore 4, 2) := by decide +kernel
theorem dX6_gets_51 : decode cX6_gets 51 = .ok (.lconst 0, 1) := by decide +kernel
theorem dX6_gets_52 : decode cX6_gets 52 = .ok (.lstore 5, 2) := by decide +kernel
theorem dX6_gets_54 : decode cX6_gets 54 = .ok (.iload_n 2, 1) := by decide +kernel
theorem dX6_gets_55 : decode cX6_gets 55 = .ok (.aload 4, 2) := by decide +kernel
theorem dX6_gets_57 : decode cX6_gets 57 = .ok (.getfield 124, 3) := by decide +kernel
theorem dX6_gets_60 : decode cX6_gets 60 = .ok (.if_icmp .ne 17, 3) := by decide +kernel
theorem dX6_gets_63 : decode cX6_gets 63 = .ok (.aload_n 0, 1) := by decide +kernel
theorem dX6_gets_64 : decode cX6_gets 64 = .ok (.getfield 26, 3) := by decide +kernel
theorem dX6_gets_67 : decode cX6_gets 67 = .ok (.getfield 195, 3) := by decide +kernel
theorem dX6_gets_70 : decode cX6_gets 70 = .ok (.iload_n 1, 1) := by decide +kernel
theorem dX6_gets_71 : decode cX6_gets 71 = .ok (.laload, 1) := by decide +kernel
theorem dX6_gets_72 : decode cX6_gets 72 = .ok (.lstore 5, 2) := by decide +kernel
theorem dX6_gets_74 : decode cX6_gets 74 = .ok (.goto 31, 3) := by decide +kernel
theorem dX6_gets_77 : decode cX6_gets 77 = .ok (.iload_n 2, 1) := by decide +kernel
theorem dX6_gets_78 : decode cX6_gets 78 = .ok (.aload 4, 2) := by decide +kernel
theorem dX6_gets_80 : decode cX6_gets 80 = .ok (.getfield 129, 3) := by decide +kernel
theorem dX6_gets_83 : decode cX6_gets 83 = .ok (.if_icmp .ne 22, 3) := by decide +kernel
theorem dX6_gets_86 : decode cX6_gets 86 = .ok (.aload_n 0, 1) := by decide +kernel
theorem dX6_gets_87 : decode cX6_gets 87 = .ok (.getfield 26, 3) := by decide +kernel
theorem dX6_gets_90 : decode cX6_gets 90 = .ok (.getfield 199, 3) := by decide +kernel
theorem dX6_gets_93 : decode cX6_gets 93 = .ok (.aload_n 0, 1) := by decide +kernel
theorem dX6_gets_94 : decode cX6_gets 94 = .ok (.getfield 26, 3) := by decide +kernel
theorem dX6_gets_97 : decode cX6_gets 97 = .ok (.getfield 195, 3) := by decide +kernel
theorem dX6_gets_100 : decode cX6_gets 100 = .ok (.iload_n 1, 1) := by decide +kernel
theorem dX6_gets_101 : decode cX6_gets 101 = .ok (.laload, 1) := by decide +kernel
theorem dX6_gets_102 : decode cX6_gets 102 = .ok (.lsub, 1) := by decide +kernel
theorem dX6_gets_103 : decode cX6_gets 103 = .ok (.lstore 5, 2) := by decide +kernel
theorem dX6_gets_105 : decode cX6_gets 105 = .ok (.lload 5, 2) := by decide +kernel
theorem dX6_gets_107 : decode cX6_gets 107 = .ok (.aload_n 0, 1) := by decide +kernel
theorem dX6_gets_108 : decode cX6_gets 108 = .ok (.getfield 26, 3) := by decide +kernel
theorem dX6_gets_111 : decode cX6_gets 111 = .ok (.getfield 199, 3) := by decide +kernel
theorem dX6_gets_114 : decode cX6_gets 114 = .ok (.iload_n 3, 1) := by decide +kernel
theorem dX6_gets_115 : decode cX6_gets 115 = .ok (.invokestatic 203, 3) := by decide +kernel
theorem dX6_gets_118 : decode cX6_gets 118 = .ok (.lreturn, 1) := by decide +kernel
set_option maxHeartbeats 4000000 in
set_option maxRecDepth 100000 in
theorem c_X6_gets (l : Launch) (D : va_G) (cy : Nat → ClassId) (ad adK adV : Nat → Nat) (M : Mm) (o0 : Nat) (a1 : Int32) (a2 : Int32) (a3 : Int32) (res : Mm × Int64) (h : f_X6_gets M o0 a1 a2 a3 = some res) : Met l yX6_gets (wU yX6_gets cX6_gets 7 (some .long)) rmX6_gets (va_Pc [.ref (ad o0), .int a1, .int a2, .int a3] (Pre D cy shX ad nX adK adV M)) (va_Ql (fun r (M2 : Mm) => r = res.2 ∧ M2 = res.1) (Pre D cy shX ad nX adK adV) (Aw ad nX)) 0 0 (Aw ad nX) := by
  refine Met.ofW (cc := cX6_gets) (maxL := 7) (ret := (some .long)) (by decide) rfl ?_
  intro p e s m args below meth c s₁ B hml hv
  obtain ⟨hargs, hPre⟩ := hv
  have hx := B.exec
  have hb := B.bytes
  have hr := B.returns
  have hts := atoms_spec (ws := wU yX6_gets cX6_gets 7 (some .long)) B.pre
  have hq : ∀ w ∈ gW, w.before args s = true := fun w hw => hts w (List.mem_cons_of_mem _ hw)
  have hcm : ∀ w ∈ gW, w ∈ wU yX6_gets cX6_gets 7 (some .long) := fun w hw => List.mem_cons_of_mem _ hw
  have hown : s.vm.findClass RX6 = some m.cls := findClass_of_methodNamed B.named
  have hlocks := B.notSynchronized
  have hF : CallFix p m c cX6_gets 7 s args (wU yX6_gets cX6_gets 7 (some .long)) RX6 := ⟨hx, hb, hml, hown, hts⟩
  have hK := hPre.2.1
  have hZ := hPre.2.2.2
  have hw : Wd D cy shX ad nX (Aw ad nX) s.heap M s.heap [] := ⟨hPre.1, hPre.2.2.1, va_S.rf⟩
  have iw0 : ∀ w ∈ u_ws RX0 TX0 9, w ∈ wU yX6_gets cX6_gets 7 (some .long) := fun w hw => List.mem_cons_of_mem _ (iX0 w hw)
  have iw1 : ∀ w ∈ u_ws RX1 TX1 11, w ∈ wU yX6_gets cX6_gets 7 (some .long) := fun w hw => List.mem_cons_of_mem _ (iX1 w hw)
  have iw5 : ∀ w ∈ u_ws RX5 TX5 13, w ∈ wU yX6_gets cX6_gets 7 (some .long) := fun w hw => List.mem_cons_of_mem _ (iX5 w hw)
  have iw6 : ∀ w ∈ u_ws RX6 TX6 8, w ∈ wU yX6_gets cX6_gets 7 (some .long) := fun w hw => List.mem_cons_of_mem _ (iX6 w hw)
  rw [show entryFrame m args 7 = entryFrame m ([.ref (ad o0), .int a1, .int a2, .int a3] : List Value).toArray 7 from by rw [hargs]]
  have hl := lv_entry ([.ref (ad o0), .int a1, .int a2, .int a3]) (n := 7) (Nat.le_of_ble_eq_true rfl)
  rw [lg_entry_eq]
  generalize (lg_sl ([.ref (ad o0), .int a1, .int a2, .int a3]) ++ List.replicate (7 - (lg_sl ([.ref (ad o0), .int a1, .int a2, .int a3])).length) Slot.unset).toArray = ls at hl ⊢
  have hl : lv_has ls 7 [(0, .ref (ad o0)), (1, .int a1), (2, .int a2), (3, .int a3)] := hl
  have hb105 : ∀ (M : Mm) (x0 : Nat) (x3 : Int32) (x5 : Int64), f_X6_gets_b105 M x0 x3 x5 = some res → ∀ (H : Heap) (locs : List Loc) (ls : Array Slot), Wd D cy shX ad nX (Aw ad nX) s.heap M H locs → lv_has ls 7 [(0, .ref (ad x0)), (3, .int x3), (5, .long x5)] → W p l e (headSpec (wU yX6_gets cX6_gets 7 (some .long)) rmX6_gets).room s m args below meth c H locs 0 0 (QL D cy shX ad nX adK adV below args s res) (F0 m 105 ls []) := by
    intro M x0 x3 x5 h H locs ls hw hl
    unfold f_X6_gets_b105 at h
    refine lv_lload hx hb dX6_gets_105 (lv_at hl 2 rfl) ?_
    refine lv_aload_n hx hb dX6_gets_107 rfl (lv_at hl 0 rfl) ?_
    replace h := gd_some h
    obtain ⟨g1, h⟩ := h
    replace h := bd_some h
    obtain ⟨q2, eq2, h⟩ := h
    refine r_getR hx hb hts iw6 hown hK hw x0 3 g1 (by decide) rfl (by decide) rfl (hq _ qw339) (fun _ h9 => h9) dX6_gets_108 eq2 ?_
    replace h := gd_some h
    obtain ⟨g3, h⟩ := h
    refine r_getL hx hb hts iw5 hown hK hw q2 6 g3 (by decide) rfl (by decide) rfl (hq _ qw252) (fun _ h9 => h9) dX6_gets_111 ?_
    refine lv_iload_n hx hb dX6_gets_114 rfl (lv_at hl 1 rfl) ?_
    replace h := bd_some h
    obtain ⟨r4, er4, h⟩ := h
    refine r_callSl (As := [.long x5, .long (M.2.1 q2 6), .int x3]) (rest := []) hF (c_X6_inLowestTerms l D cy ad adK adV M x5 (M.2.1 q2 6) x3 r4 er4) (gW_goodS hcm qw707 qw705 qw706 qw61) hdX6_inLowestTerms ⟨Nat.le_of_ble_eq_true rfl, Nat.le_of_ble_eq_true rfl⟩ rfl rfl hZ hK hw rfl hl.1 rfl (Nat.le_of_ble_eq_true rfl) ⟨Nat.zero_le _, Nat.zero_le _⟩ dX6_gets_115 (fun H locs hw => ?_)
    exact r_lret hx hb hr hlocks hZ hK hw h dX6_gets_118
  have hb29 : ∀ (M : Mm) (x0 : Nat), f_X6_gets_b29 M x0 = some res → ∀ (H : Heap) (locs : List Loc) (ls : Array Slot), Wd D cy shX ad nX (Aw ad nX) s.heap M H locs → lv_has ls 7 [(0, .ref (ad x0))] → W p l e (headSpec (wU yX6_gets cX6_gets 7 (some .long)) rmX6_gets).room s m args below meth c H locs 0 0 (QL D cy shX ad nX adK adV below args s res) (F0 m 29 ls []) := by
    intro M x0 h H locs ls hw hl
    unfold f_X6_gets_b29 at h
    refine lv_aload_n hx hb dX6_gets_29 rfl (lv_at hl 0 rfl) ?_
    refine lv_iconst (v := (0 : Int32)) hx hb dX6_gets_30 (by decide) ?_
    replace h := gd_some h
    obtain ⟨g6, h⟩ := h
    replace h := bd_some h
    obtain ⟨r5, er5, h⟩ := h
    refine r_callVi (As := [.int (0 : Int32)]) (rest := []) hF (c_X6_finding l D cy ad adK adV M x0 (0 : Int32) r5 er5) (gW_goodV hcm qw374 qw371 qw373 qw0 qw61) hdX6_finding rfl ⟨Nat.le_of_ble_eq_true rfl, Nat.le_of_ble_eq_true rfl⟩ rfl rfl hZ hK hw g6 (by decide) rfl rfl hl.1 rfl (Nat.le_of_ble_eq_true rfl) ⟨Nat.zero_le _, Nat.zero_le _⟩ dX6_gets_31 (fun H locs hw => ?_)
    refine lv_i2l (v := r5.2.toInt64) hx hb dX6_gets_34 rfl ?_
    exact r_lret hx hb hr hlocks hZ hK hw h dX6_gets_35
  unfold f_X6_gets at h
  refine lv_aload_n hx hb dX6_gets_0 rfl (lv_at hl 0 rfl) ?_
  replace h := gd_some h
  obtain ⟨g7, h⟩ := h
  replace h := bd_some h
  obtain ⟨q8, eq8, h⟩ := h
  refine r_getR hx hb hts iw6 hown hK hw o0 0 g7 (by decide) rfl (by decide) rfl (hq _ qw336) (fun _ h9 => h9) dX6_gets_1 eq8 ?_
  refine lv_iload_n hx hb dX6_gets_4 rfl (lv_at hl 1 rfl) ?_
  replace h := gd_some h
  obtain ⟨g10, h⟩ := h
  replace h := bd_some h
  obtain ⟨r9, er9, h⟩ := h
  refine r_callVi (As := [.int a1]) (rest := []) hF (c_X1_hasGame l D cy ad adK adV M q8 a1 r9 er9) (gW_goodV hcm qw430 qw427 qw428 qw429 qw62) hdX1_hasGame rfl ⟨Nat.le_of_ble_eq_true rfl, Nat.le_of_ble_eq_true rfl⟩ rfl rfl hZ hK hw g10 (by decide) rfl rfl hl.1 rfl (Nat.le_of_ble_eq_true rfl) ⟨Nat.zero_le _, Nat.zero_le _⟩ dX6_gets_5 (fun H locs hw => ?_)
  refine lv_if_eq (tgt := 29) hx hb dX6_gets_8 (by decide) (fun c11 => ?_) (fun c11 => ?_)
  · replace h := if_some_t c11 h
    exact hb29 _ _ h _ _ _ hw (lv_sub hl [0] rfl)
  · replace h := if_some_f c11 h
    refine lv_aload_n hx hb dX6_gets_11 rfl (lv_at hl 0 rfl) ?_
    replace h := bd_some h
    obtain ⟨q12, eq12, h⟩ := h
    refine r_getR hx hb hts iw6 hown hK hw o0 0 g7 (by decide) rfl (by decide) rfl (hq _ qw336) (fun _ h9 => h9) dX6_gets_12 eq12 ?_
    refine lv_iload_n hx hb dX6_gets_15 rfl (lv_at hl 2 rfl) ?_
    replace h := gd_some h
    obtain ⟨g14, h⟩ := h
    replace h := bd_some h
    obtain ⟨r13, er13, h⟩ := h
    refine r_callVi (As := [.int a2]) (rest := []) hF (c_X1_hasSide l D cy ad adK adV r9.1 q12 a2 r13 er13) (gW_goodV hcm qw391 qw388 qw389 qw390 qw62) hdX1_hasSide rfl ⟨Nat.le_of_ble_eq_true rfl, Nat.le_of_ble_eq_true rfl⟩ rfl rfl hZ hK hw g14 (by decide) rfl rfl hl.1 rfl (Nat.le_of_ble_eq_true rfl) ⟨Nat.zero_le _, Nat.zero_le _⟩ dX6_gets_16 (fun H locs hw => ?_)
    refine lv_if_eq (tgt := 29) hx hb dX6_gets_19 (by decide) (fun c15 => ?_) (fun c15 => ?_)
    · replace h := if_some_t c15 h
      exact hb29 _ _ h _ _ _ hw (lv_sub hl [0] rfl)
    · replace h := if_some_f c15 h
      refine lv_iload_n hx hb dX6_gets_22 rfl (lv_at hl 3 rfl) ?_
      replace h := bd_some h
      obtain ⟨r16, er16, h⟩ := h
      refine r_callSi (As := [.int a3]) (rest := []) hF (c_X6_isPart l D cy ad adK adV r13.1 a3 r16 er16) (gW_goodS hcm qw673 qw671 qw672 qw61) hdX6_isPart ⟨Nat.le_of_ble_eq_true rfl, Nat.le_of_ble_eq_true rfl⟩ rfl rfl hZ hK hw rfl hl.1 rfl (Nat.le_of_ble_eq_true rfl) ⟨Nat.zero_le _, Nat.zero_le _⟩ dX6_gets_23 (fun H locs hw => ?_)
      refine lv_if_ne (tgt := 36) hx hb dX6_gets_26 (by decide) (fun c17 => ?_) (fun c17 => ?_)
      · replace h := if_some_f c17 h
        refine lv_aload_n hx hb dX6_gets_36 rfl (lv_at hl 0 rfl) ?_
        replace h := bd_some h
        obtain ⟨r18, er18, h⟩ := h
        refine r_callVv (As := []) (rest := []) hF (c_X6_goLikelyWays l D cy ad adK adV r16.1 o0 r18 er18) (gW_goodV hcm qw677 qw674 qw676 qw11 qw61) hdX6_goLikelyWays rfl ⟨Nat.le_of_ble_eq_true rfl, Nat.le_of_ble_eq_true rfl⟩ rfl rfl hZ hK hw g7 (by decide) rfl rfl hl.1 rfl (Nat.le_of_ble_eq_true rfl) ⟨Nat.zero_le _, Nat.zero_le _⟩ dX6_gets_37 (fun H locs hw => ?_)
        refine lv_aload_n hx hb dX6_gets_40 rfl (lv_at hl 0 rfl) ?_
        replace h := bd_some h
        obtain ⟨q19, eq19, h⟩ := h
        refine r_getR hx hb hts iw6 hown hK hw o0 0 g7 (by decide) rfl (by decide) rfl (hq _ qw336) (fun _ h9 => h9) dX6_gets_41 eq19 ?_
        replace h := gd_some h
        obtain ⟨g20, h⟩ := h
        replace h := bd_some h
        obtain ⟨q21, eq21, h⟩ := h
        refine r_getR hx hb hts iw1 hown hK hw q19 1 g20 (by decide) rfl (by decide) rfl (hq _ qw187) (fun _ h9 => h9) dX6_gets_44 eq21 ?_
        refine lv_iload_n hx hb dX6_gets_47 rfl (lv_at hl 1 rfl) ?_
        replace h := gd_some h
        obtain ⟨g22, h⟩ := h
        replace h := bd_some h
        obtain ⟨q23, eq23, h⟩ := h
        refine r_aald hx hb hK hw q21 3 (by decide) rfl g22 dX6_gets_48 eq23 ?_
        refine lv_astore (lv' := [(4, .ref (ad q23)), (0, .ref (ad o0)), (1, .int a1), (2, .int a2), (3, .int a3)]) hx hb dX6_gets_49 hl (by decide) rfl (fun ls hl => ?_)
        refine lv_lconst (v := (0 : Int64)) hx hb dX6_gets_51 (by decide) ?_
        refine lv_lstore (lv' := [(5, .long (0 : Int64)), (4, .ref (ad q23)), (0, .ref (ad o0)), (1, .int a1), (2, .int a2), (3, .int a3)]) hx hb dX6_gets_52 hl (by decide) rfl (fun ls hl => ?_)
        refine lv_iload_n hx hb dX6_gets_54 rfl (lv_at hl 4 rfl) ?_
        refine lv_aload hx hb dX6_gets_55 (lv_at hl 1 rfl) ?_
        replace h := gd_some h
        obtain ⟨g24, h⟩ := h
        refine r_getI hx hb hts iw0 hown hK hw q23 0 g24 (by decide) rfl (by decide) rfl (hq _ qw137) (fun _ h9 => h9) dX6_gets_57 ?_
        refine lv_icmp_ne (tgt := 77) hx hb dX6_gets_60 (by decide) (fun c25 => ?_) (fun c25 => ?_)
        · replace h := if_some_f c25 h
          refine lv_iload_n hx hb dX6_gets_77 rfl (lv_at hl 4 rfl) ?_
          refine lv_aload hx hb dX6_gets_78 (lv_at hl 1 rfl) ?_
          refine r_getI hx hb hts iw0 hown hK hw q23 1 g24 (by decide) rfl (by decide) rfl (hq _ qw141) (fun _ h9 => h9) dX6_gets_80 ?_
          refine lv_icmp_ne (tgt := 105) hx hb dX6_gets_83 (by decide) (fun c26 => ?_) (fun c26 => ?_)
          · replace h := if_some_f c26 h
            exact hb105 _ _ _ _ h _ _ _ hw (lv_sub hl [2, 5, 0] rfl)
          · replace h := if_some_t c26 h
            refine lv_aload_n hx hb dX6_gets_86 rfl (lv_at hl 2 rfl) ?_
            replace h := bd_some h
            obtain ⟨q27, eq27, h⟩ := h
            refine r_getR hx hb hts iw6 hown hK hw o0 3 g7 (by decide) rfl (by decide) rfl (hq _ qw339) (fun _ h9 => h9) dX6_gets_87 eq27 ?_
            replace h := gd_some h
            obtain ⟨g28, h⟩ := h
            refine r_getL hx hb hts iw5 hown hK hw q27 6 g28 (by decide) rfl (by decide) rfl (hq _ qw252) (fun _ h9 => h9) dX6_gets_90 ?_
            refine lv_aload_n hx hb dX6_gets_93 rfl (lv_at hl 2 rfl) ?_
            replace h := bd_some h
            obtain ⟨q29, eq29, h⟩ := h
            refine r_getR hx hb hts iw6 hown hK hw o0 3 g7 (by decide) rfl (by decide) rfl (hq _ qw339) (fun _ h9 => h9) dX6_gets_94 eq29 ?_
            replace h := gd_some h
            obtain ⟨g30, h⟩ := h
            replace h := bd_some h
            obtain ⟨q31, eq31, h⟩ := h
            refine r_getR hx hb hts iw5 hown hK hw q29 3 g30 (by decide) rfl (by decide) rfl (hq _ qw247) (fun _ h9 => h9) dX6_gets_97 eq31 ?_
            refine lv_iload_n hx hb dX6_gets_100 rfl (lv_at hl 3 rfl) ?_
            replace h := gd_some h
            obtain ⟨g32, h⟩ := h
            refine r_lald hx hb hK hw q31 g32 dX6_gets_101 ?_
            refine lv_lsub hx hb dX6_gets_102 ?_
            refine lv_topl (fun y33 ey33 => ?_)
            replace h := lt_at ey33 h
            refine lv_lstore (lv' := [(5, .long y33), (4, .ref (ad q23)), (0, .ref (ad o0)), (1, .int a1), (2, .int a2), (3, .int a3)]) hx hb dX6_gets_103 hl (by decide) rfl (fun ls hl => ?_)
            exact hb105 _ _ _ _ h _ _ _ hw (lv_sub hl [2, 5, 0] rfl)
        · replace h := if_some_t c25 h
          refine lv_aload_n hx hb dX6_gets_63 rfl (lv_at hl 2 rfl) ?_
          replace h := bd_some h
          obtain ⟨q34, eq34, h⟩ := h
          refine r_getR hx hb hts iw6 hown hK hw o0 3 g7 (by decide) rfl (by decide) rfl (hq _ qw339) (fun _ h9 => h9) dX6_gets_64 eq34 ?_
          replace h := gd_some h
          obtain ⟨g35, h⟩ := h
          replace h := bd_some h
          obtain ⟨q36, eq36, h⟩ := h
          refine r_getR hx hb hts iw5 hown hK hw q34 3 g35 (by decide) rfl (by decide) rfl (hq _ qw247) (fun _ h9 => h9) dX6_gets_67 eq36 ?_
          refine lv_iload_n hx hb dX6_gets_70 rfl (lv_at hl 3 rfl) ?_
          replace h := gd_some h
          obtain ⟨g37, h⟩ := h
          refine r_lald hx hb hK hw q36 g37 dX6_gets_71 ?_
          refine lv_lstore (lv' := [(5, .long (r18.1.2.1 q36 a1.toNatClampNeg)), (4, .ref (ad q23)), (0, .ref (ad o0)), (1, .int a1), (2, .int a2), (3, .int a3)]) hx hb dX6_gets_72 hl (by decide) rfl (fun ls hl => ?_)
          refine lv_goto (tgt := 105) hx hb dX6_gets_74 (by decide) ?_
          exact hb105 _ _ _ _ h _ _ _ hw (lv_sub hl [2, 5, 0] rfl)
      · replace h := if_some_t c17 h
        exact hb29 _ _ h _ _ _ hw (lv_sub hl [0] rfl)
theorem dX6_first_0 : decode cX6_first 0 = .ok (.aload_n 0, 1) := by decide +kernel
theorem dX6_first_1 : decode cX6_first 1 = .ok (.getfield 10, 3) := by decide +kernel
theorem dX6_first_4 : decode cX6_first 4 = .ok (.iload_n 1, 1) := by decide +kernel
theorem dX6_first_5 : decode cX6_first 5 = .ok (.invokevirtual 71, 3) := by decide +kernel
theorem dX6_first_8 : decode cX6_first 8 = .ok (.ifCond .eq 10, 3) := by decide +kernel
theorem dX6_first_11 : decode cX6_first 11 = .ok (.iload_n 2, 1) := by decide +kernel
theorem dX6_first_12 : decode cX6_first 12 = .ok (.invokestatic 189, 3) := by decide +kernel
theorem dX6_first_15 : decode cX6_first 15 = .ok (.ifCond .ne 10, 3) := by decide +kernel
theorem dX6_first_18 : decode cX6_first 18 = .ok (.aload_n 0, 1) := by decide +kernel
theorem dX6_first_19 : decode cX6_first 19 = .ok (.iconst 0, 1) := by decide +kernel
theorem dX6_first_20 : decode cX6_first 20 = .ok (.invokevirtual 59, 3) := by decide +kernel
theorem dX6_first_23 : decode cX6_first 23 = .ok (.i2l, 1) := by decide +kernel
theorem dX6_first_24 : decode cX6_first 24 = .ok (.lreturn, 1) := by decide +kernel
theorem dX6_first_25 : decode cX6_first 25 = .ok (.aload_n 0, 1) := by decide +kernel
theorem dX6_first_26 : decode cX6_first 26 = .ok (.invokevirtual 192, 3) := by decide +kernel
theorem dX6_first_29 : decode cX6_first 29 = .ok (.aload_n 0, 1) := by decide +kernel
theorem dX6_first_30 : decode cX6_first 30 = .ok (.getfield 26, 3) := by decide +kernel
theorem dX6_first_33 : decode cX6_first 33 = .ok (.getfield 207, 3) := by decide +kernel
theorem dX6_first_36 : decode cX6_first 36 = .ok (.iload_n 1, 1) := by decide +kernel
theorem dX6_first_37 : decode cX6_first 37 = .ok (.laload, 1) := by decide +kernel
theorem dX6_first_38 : decode cX6_first 38 = .ok (.aload_n 0, 1) := by decide +kernel
theorem dX6_first_39 : decode cX6_first 39 = .ok (.getfield 26, 3) := by decide +kernel
theorem dX6_first_42 : decode cX6_first 42 = .ok (.getfield 199, 3) := by decide +kernel
theorem dX6_first_45 : decode cX6_first 45 = .ok (.iload_n 2, 1) := by decide +kernel
theorem dX6_first_46 : decode cX6_first 46 = .ok (.invokestatic 203, 3) := by decide +kernel
theorem dX6_first_49 : decode cX6_first 49 = .ok (.lreturn, 1) := by decide +kernel
set_option maxHeartbeats 4000000 in
set_option maxRecDepth 100000 in
theorem c_X6_first (l : Launch) (D : va_G) (cy : Nat → ClassId) (ad adK adV : Nat → Nat) (M : Mm) (o0 : Nat) (a1 : Int32) (a2 : Int32) (res : Mm × Int64) (h : f_X6_first M o0 a1 a2 = some res) : Met l yX6_first (wU yX6_first cX6_first 3 (some .long)) rmX6_first (va_Pc [.ref (ad o0), .int a1, .int a2] (Pre D cy shX ad nX adK adV M)) (va_Ql (fun r (M2 : Mm) => r = res.2 ∧ M2 = res.1) (Pre D cy shX ad nX adK adV) (Aw ad nX)) 0 0 (Aw ad nX) := by
  refine Met.ofW (cc := cX6_first) (maxL := 3) (ret := (some .long)) (by decide) rfl ?_
  intro p e s m args below meth c s₁ B hml hv
  obtain ⟨hargs, hPre⟩ := hv
  have hx := B.exec
  have hb := B.bytes
  have hr := B.returns
  have hts := atoms_spec (ws := wU yX6_first cX6_first 3 (some .long)) B.pre
  have hq : ∀ w ∈ gW, w.before args s = true := fun w hw => hts w (List.mem_cons_of_mem _ hw)
  have hcm : ∀ w ∈ gW, w ∈ wU yX6_first cX6_first 3 (some .long) := fun w hw => List.mem_cons_of_mem _ hw
  have hown : s.vm.findClass RX6 = some m.cls := findClass_of_methodNamed B.named
  have hlocks := B.notSynchronized
  have hF : CallFix p m c cX6_first 3 s args (wU yX6_first cX6_first 3 (some .long)) RX6 := ⟨hx, hb, hml, hown, hts⟩
  have hK := hPre.2.1
  have hZ := hPre.2.2.2
  have hw : Wd D cy shX ad nX (Aw ad nX) s.heap M s.heap [] := ⟨hPre.1, hPre.2.2.1, va_S.rf⟩
  have iw5 : ∀ w ∈ u_ws RX5 TX5 13, w ∈ wU yX6_first cX6_first 3 (some .long) := fun w hw => List.mem_cons_of_mem _ (iX5 w hw)
  have iw6 : ∀ w ∈ u_ws RX6 TX6 8, w ∈ wU yX6_first cX6_first 3 (some .long) := fun w hw => List.mem_cons_of_mem _ (iX6 w hw)
  rw [show entryFrame m args 3 = entryFrame m ([.ref (ad o0), .int a1, .int a2] : List Value).toArray 3 from by rw [hargs]]
  have hl := lv_entry ([.ref (ad o0), .int a1, .int a2]) (n := 3) (Nat.le_of_ble_eq_true rfl)
  rw [lg_entry_eq]
  generalize (lg_sl ([.ref (ad o0), .int a1, .int a2]) ++ List.replicate (3 - (lg_sl ([.ref (ad o0), .int a1, .int a2])).length) Slot.unset).toArray = ls at hl ⊢
  have hl : lv_has ls 3 [(0, .ref (ad o0)), (1, .int a1), (2, .int a2)] := hl
  have hb18 : ∀ (M : Mm) (x0 : Nat), f_X6_first_b18 M x0 = some res → ∀ (H : Heap) (locs : List Loc) (ls : Array Slot), Wd D cy shX ad nX (Aw ad nX) s.heap M H locs → lv_has ls 3 [(0, .ref (ad x0))] → W p l e (headSpec (wU yX6_first cX6_first 3 (some .long)) rmX6_first).room s m args below meth c H locs 0 0 (QL D cy shX ad nX adK adV below args s res) (F0 m 18 ls []) := by
    intro M x0 h H locs ls hw hl
    unfold f_X6_first_b18 at h
    refine lv_aload_n hx hb dX6_first_18 rfl (lv_at hl 0 rfl) ?_
    refine lv_iconst (v := (0 : Int32)) hx hb dX6_first_19 (by decide) ?_
    replace h := gd_some h
    obtain ⟨g2, h⟩ := h
    replace h := bd_some h
    obtain ⟨r1, er1, h⟩ := h
    refine r_callVi (As := [.int (0 : Int32)]) (rest := []) hF (c_X6_finding l D cy ad adK adV M x0 (0 : Int32) r1 er1) (gW_goodV hcm qw374 qw371 qw373 qw0 qw61) hdX6_finding rfl ⟨Nat.le_of_ble_eq_true rfl, Nat.le_of_ble_eq_true rfl⟩ rfl rfl hZ hK hw g2 (by decide) rfl rfl hl.1 rfl (Nat.le_of_ble_eq_true rfl) ⟨Nat.zero_le _, Nat.zero_le _⟩ dX6_first_20 (fun H locs hw => ?_)
    refine lv_i2l (v := r1.2.toInt64) hx hb dX6_first_23 rfl ?_
    exact r_lret hx hb hr hlocks hZ hK hw h dX6_first_24
  unfold f_X6_first at h
  refine lv_aload_n hx hb dX6_first_0 rfl (lv_at hl 0 rfl) ?_
  replace h := gd_some h
  obtain ⟨g3, h⟩ := h
  replace h := bd_some h
  obtain ⟨q4, eq4, h⟩ := h
  refine r_getR hx hb hts iw6 hown hK hw o0 0 g3 (by decide) rfl (by decide) rfl (hq _ qw336) (fun _ h9 => h9) dX6_first_1 eq4 ?_
  refine lv_iload_n hx hb dX6_first_4 rfl (lv_at hl 1 rfl) ?_
  replace h := gd_some h
  obtain ⟨g6, h⟩ := h
  replace h := bd_some h
  obtain ⟨r5, er5, h⟩ := h
  refine r_callVi (As := [.int a1]) (rest := []) hF (c_X1_hasSide l D cy ad adK adV M q4 a1 r5 er5) (gW_goodV hcm qw391 qw388 qw389 qw390 qw62) hdX1_hasSide rfl ⟨Nat.le_of_ble_eq_true rfl, Nat.le_of_ble_eq_true rfl⟩ rfl rfl hZ hK hw g6 (by decide) rfl rfl hl.1 rfl (Nat.le_of_ble_eq_true rfl) ⟨Nat.zero_le _, Nat.zero_le _⟩ dX6_first_5 (fun H locs hw => ?_)
  refine lv_if_eq (tgt := 18) hx hb dX6_first_8 (by decide) (fun c7 => ?_) (fun c7 => ?_)
  · replace h := if_some_t c7 h
    exact hb18 _ _ h _ _ _ hw (lv_sub hl [0] rfl)
  · replace h := if_some_f c7 h
    refine lv_iload_n hx hb dX6_first_11 rfl (lv_at hl 2 rfl) ?_
    replace h := bd_some h
    obtain ⟨r8, er8, h⟩ := h
    refine r_callSi (As := [.int a2]) (rest := []) hF (c_X6_isPart l D cy ad adK adV r5.1 a2 r8 er8) (gW_goodS hcm qw673 qw671 qw672 qw61) hdX6_isPart ⟨Nat.le_of_ble_eq_true rfl, Nat.le_of_ble_eq_true rfl⟩ rfl rfl hZ hK hw rfl hl.1 rfl (Nat.le_of_ble_eq_true rfl) ⟨Nat.zero_le _, Nat.zero_le _⟩ dX6_first_12 (fun H locs hw => ?_)
    refine lv_if_ne (tgt := 25) hx hb dX6_first_15 (by decide) (fun c9 => ?_) (fun c9 => ?_)
    · replace h := if_some_f c9 h
      refine lv_aload_n hx hb dX6_first_25 rfl (lv_at hl 0 rfl) ?_
      replace h := bd_some h
      obtain ⟨r10, er10, h⟩ := h
      refine r_callVv (As := []) (rest := []) hF (c_X6_goLikelyWays l D cy ad adK adV r8.1 o0 r10 er10) (gW_goodV hcm qw677 qw674 qw676 qw11 qw61) hdX6_goLikelyWays rfl ⟨Nat.le_of_ble_eq_true rfl, Nat.le_of_ble_eq_true rfl⟩ rfl rfl hZ hK hw g3 (by decide) rfl rfl hl.1 rfl (Nat.le_of_ble_eq_true rfl) ⟨Nat.zero_le _, Nat.zero_le _⟩ dX6_first_26 (fun H locs hw => ?_)
      refine lv_aload_n hx hb dX6_first_29 rfl (lv_at hl 0 rfl) ?_
      replace h := bd_some h
      obtain ⟨q11, eq11, h⟩ := h
      refine r_getR hx hb hts iw6 hown hK hw o0 3 g3 (by decide) rfl (by decide) rfl (hq _ qw339) (fun _ h9 => h9) dX6_first_30 eq11 ?_
      replace h := gd_some h
      obtain ⟨g12, h⟩ := h
      replace h := bd_some h
      obtain ⟨q13, eq13, h⟩ := h
      refine r_getR hx hb hts iw5 hown hK hw q11 2 g12 (by decide) rfl (by decide) rfl (hq _ qw245) (fun _ h9 => h9) dX6_first_33 eq13 ?_
      refine lv_iload_n hx hb dX6_first_36 rfl (lv_at hl 1 rfl) ?_
      replace h := gd_some h
      obtain ⟨g14, h⟩ := h
      refine r_lald hx hb hK hw q13 g14 dX6_first_37 ?_
      refine lv_aload_n hx hb dX6_first_38 rfl (lv_at hl 0 rfl) ?_
      replace h := bd_some h
      obtain ⟨q15, eq15, h⟩ := h
      refine r_getR hx hb hts iw6 hown hK hw o0 3 g3 (by decide) rfl (by decide) rfl (hq _ qw339) (fun _ h9 => h9) dX6_first_39 eq15 ?_
      replace h := gd_some h
      obtain ⟨g16, h⟩ := h
      refine r_getL hx hb hts iw5 hown hK hw q15 6 g16 (by decide) rfl (by decide) rfl (hq _ qw252) (fun _ h9 => h9) dX6_first_42 ?_
      refine lv_iload_n hx hb dX6_first_45 rfl (lv_at hl 2 rfl) ?_
      replace h := bd_some h
      obtain ⟨r17, er17, h⟩ := h
      refine r_callSl (As := [.long (r10.1.2.1 q13 a1.toNatClampNeg), .long (r10.1.2.1 q15 6), .int a2]) (rest := []) hF (c_X6_inLowestTerms l D cy ad adK adV r10.1 (r10.1.2.1 q13 a1.toNatClampNeg) (r10.1.2.1 q15 6) a2 r17 er17) (gW_goodS hcm qw707 qw705 qw706 qw61) hdX6_inLowestTerms ⟨Nat.le_of_ble_eq_true rfl, Nat.le_of_ble_eq_true rfl⟩ rfl rfl hZ hK hw rfl hl.1 rfl (Nat.le_of_ble_eq_true rfl) ⟨Nat.zero_le _, Nat.zero_le _⟩ dX6_first_46 (fun H locs hw => ?_)
      exact r_lret hx hb hr hlocks hZ hK hw h dX6_first_49
    · replace h := if_some_t c9 h
      exact hb18 _ _ h _ _ _ hw (lv_sub hl [0] rfl)
theorem dX6_mean_0 : decode cX6_mean 0 = .ok (.aload_n 0, 1) := by decide +kernel
theorem dX6_mean_1 : decode cX6_mean 1 = .ok (.getfield 10, 3) := by decide +kernel
theorem dX6_mean_4 : decode cX6_mean 4 = .ok (.iload_n 1, 1) := by decide +kernel
theorem dX6_mean_5 : decode cX6_mean 5 = .ok (.invokevirtual 71, 3) := by decide +kernel
theorem dX6_mean_8 : decode cX6_mean 8 = .ok (.ifCond .eq 10, 3) := by decide +kernel
theorem dX6_mean_11 : decode cX6_mean 11 = .ok (.iload_n 2, 1) := by decide +kernel
theorem dX6_mean_12 : decode cX6_mean 12 = .ok (.invokestatic 189, 3) := by decide +kernel
theorem dX6_mean_15 : decode cX6_mean 15 = .ok (.ifCond .ne 10, 3) := by decide +kernel
theorem dX6_mean_18 : decode cX6_mean 18 = .ok (.aload_n 0, 1) := by decide +kernel
theorem dX6_mean_19 : decode cX6_mean 19 = .ok (.iconst 0, 1) := by decide +kernel
theorem dX6_mean_20 : decode cX6_mean 20 = .ok (.invokevirtual 59, 3) := by decide +kernel
theorem dX6_mean_23 : decode cX6_mean 23 = .ok (.i2l, 1) := by decide +kernel
theorem dX6_mean_24 : decode cX6_mean 24 = .ok (.lreturn, 1) := by decide +kernel
theorem dX6_mean_25 : decode cX6_mean 25 = .ok (.aload_n 0, 1) := by decide +kernel
theorem dX6_mean_26 : decode cX6_mean 26 = .ok (.invokevirtual 192, 3) := by decide +kernel
theorem dX6_mean_29 : decode cX6_mean 29 = .ok (.aload_n 0, 1) := by decide +kernel
theorem dX6_mean_30 : decode cX6_mean 30 = .ok (.getfield 26, 3) := by decide +kernel
theorem dX6_mean_33 : decode cX6_mean 33 = .ok (.getfield 210, 3) := by decide +kernel
theorem dX6_mean_36 : decode cX6_mean 36 = .ok (.iload_n 1, 1) := by decide +kernel
theorem dX6_mean_37 : decode cX6_mean 37 = .ok (.laload, 1) := by decide +kernel
theorem dX6_mean_38 : decode cX6_mean 38 = .ok (.aload_n 0, 1) := by decide +kernel
theorem dX6_mean_39 : decode cX6_mean 39 = .ok (.getfield 26, 3) := by decide +kernel
theorem dX6_mean_42 : decode cX6_mean 42 = .ok (.getfield 199, 3) := by decide +kernel
theorem dX6_mean_45 : decode cX6_mean 45 = .ok (.iload_n 2, 1) := by decide +kernel
theorem dX6_mean_46 : decode cX6_mean 46 = .ok (.invokestatic 203, 3) := by decide +kernel
theorem dX6_mean_49 : decode cX6_mean 49 = .ok (.lreturn, 1) := by decide +kernel
set_option maxHeartbeats 4000000 in
set_option maxRecDepth 100000 in
theorem c_X6_mean (l : Launch) (D : va_G) (cy : Nat → ClassId) (ad adK adV : Nat → Nat) (M : Mm) (o0 : Nat) (a1 : Int32) (a2 : Int32) (res : Mm × Int64) (h : f_X6_mean M o0 a1 a2 = some res) : Met l yX6_mean (wU yX6_mean cX6_mean 3 (some .long)) rmX6_mean (va_Pc [.ref (ad o0), .int a1, .int a2] (Pre D cy shX ad nX adK adV M)) (va_Ql (fun r (M2 : Mm) => r = res.2 ∧ M2 = res.1) (Pre D cy shX ad nX adK adV) (Aw ad nX)) 0 0 (Aw ad nX) := by
  refine Met.ofW (cc := cX6_mean) (maxL := 3) (ret := (some .long)) (by decide) rfl ?_
  intro p e s m args below meth c s₁ B hml hv
  obtain ⟨hargs, hPre⟩ := hv
  have hx := B.exec
  have hb := B.bytes
  have hr := B.returns
  have hts := atoms_spec (ws := wU yX6_mean cX6_mean 3 (some .long)) B.pre
  have hq : ∀ w ∈ gW, w.before args s = true := fun w hw => hts w (List.mem_cons_of_mem _ hw)
  have hcm : ∀ w ∈ gW, w ∈ wU yX6_mean cX6_mean 3 (some .long) := fun w hw => List.mem_cons_of_mem _ hw
  have hown : s.vm.findClass RX6 = some m.cls := findClass_of_methodNamed B.named
  have hlocks := B.notSynchronized
  have hF : CallFix p m c cX6_mean 3 s args (wU yX6_mean cX6_mean 3 (some .long)) RX6 := ⟨hx, hb, hml, hown, hts⟩
  have hK := hPre.2.1
  have hZ := hPre.2.2.2
  have hw : Wd D cy shX ad nX (Aw ad nX) s.heap M s.heap [] := ⟨hPre.1, hPre.2.2.1, va_S.rf⟩
  have iw5 : ∀ w ∈ u_ws RX5 TX5 13, w ∈ wU yX6_mean cX6_mean 3 (some .long) := fun w hw => List.mem_cons_of_mem _ (iX5 w hw)
  have iw6 : ∀ w ∈ u_ws RX6 TX6 8, w ∈ wU yX6_mean cX6_mean 3 (some .long) := fun w hw => List.mem_cons_of_mem _ (iX6 w hw)
  rw [show entryFrame m args 3 = entryFrame m ([.ref (ad o0), .int a1, .int a2] : List Value).toArray 3 from by rw [hargs]]
  have hl := lv_entry ([.ref (ad o0), .int a1, .int a2]) (n := 3) (Nat.le_of_ble_eq_true rfl)
  rw [lg_entry_eq]
  generalize (lg_sl ([.ref (ad o0), .int a1, .int a2]) ++ List.replicate (3 - (lg_sl ([.ref (ad o0), .int a1, .int a2])).length) Slot.unset).toArray = ls at hl ⊢
  have hl : lv_has ls 3 [(0, .ref (ad o0)), (1, .int a1), (2, .int a2)] := hl
  have hb18 : ∀ (M : Mm) (x0 : Nat), f_X6_mean_b18 M x0 = some res → ∀ (H : Heap) (locs : List Loc) (ls : Array Slot), Wd D cy shX ad nX (Aw ad nX) s.heap M H locs → lv_has ls 3 [(0, .ref (ad x0))] → W p l e (headSpec (wU yX6_mean cX6_mean 3 (some .long)) rmX6_mean).room s m args below meth c H locs 0 0 (QL D cy shX ad nX adK adV below args s res) (F0 m 18 ls []) := by
    intro M x0 h H locs ls hw hl
    unfold f_X6_mean_b18 at h
    refine lv_aload_n hx hb dX6_mean_18 rfl (lv_at hl 0 rfl) ?_
    refine lv_iconst (v := (0 : Int32)) hx hb dX6_mean_19 (by decide) ?_
    replace h := gd_some h
    obtain ⟨g2, h⟩ := h
    replace h := bd_some h
    obtain ⟨r1, er1, h⟩ := h
    refine r_callVi (As := [.int (0 : Int32)]) (rest := []) hF (c_X6_finding l D cy ad adK adV M x0 (0 : Int32) r1 er1) (gW_goodV hcm qw374 qw371 qw373 qw0 qw61) hdX6_finding rfl ⟨Nat.le_of_ble_eq_true rfl, Nat.le_of_ble_eq_true rfl⟩ rfl rfl hZ hK hw g2 (by decide) rfl rfl hl.1 rfl (Nat.le_of_ble_eq_true rfl) ⟨Nat.zero_le _, Nat.zero_le _⟩ dX6_mean_20 (fun H locs hw => ?_)
    refine lv_i2l (v := r1.2.toInt64) hx hb dX6_mean_23 rfl ?_
    exact r_lret hx hb hr hlocks hZ hK hw h dX6_mean_24
  unfold f_X6_mean at h
  refine lv_aload_n hx hb dX6_mean_0 rfl (lv_at hl 0 rfl) ?_
  replace h := gd_some h
  obtain ⟨g3, h⟩ := h
  replace h := bd_some h
  obtain ⟨q4, eq4, h⟩ := h
  refine r_getR hx hb hts iw6 hown hK hw o0 0 g3 (by decide) rfl (by decide) rfl (hq _ qw336) (fun _ h9 => h9) dX6_mean_1 eq4 ?_
  refine lv_iload_n hx hb dX6_mean_4 rfl (lv_at hl 1 rfl) ?_
  replace h := gd_some h
  obtain ⟨g6, h⟩ := h
  replace h := bd_some h
  obtain ⟨r5, er5, h⟩ := h
  refine r_callVi (As := [.int a1]) (rest := []) hF (c_X1_hasSide l D cy ad adK adV M q4 a1 r5 er5) (gW_goodV hcm qw391 qw388 qw389 qw390 qw62) hdX1_hasSide rfl ⟨Nat.le_of_ble_eq_true rfl, Nat.le_of_ble_eq_true rfl⟩ rfl rfl hZ hK hw g6 (by decide) rfl rfl hl.1 rfl (Nat.le_of_ble_eq_true rfl) ⟨Nat.zero_le _, Nat.zero_le _⟩ dX6_mean_5 (fun H locs hw => ?_)
  refine lv_if_eq (tgt := 18) hx hb dX6_mean_8 (by decide) (fun c7 => ?_) (fun c7 => ?_)
  · replace h := if_some_t c7 h
    exact hb18 _ _ h _ _ _ hw (lv_sub hl [0] rfl)
  · replace h := if_some_f c7 h
    refine lv_iload_n hx hb dX6_mean_11 rfl (lv_at hl 2 rfl) ?_
    replace h := bd_some h
    obtain ⟨r8, er8, h⟩ := h
    refine r_callSi (As := [.int a2]) (rest := []) hF (c_X6_isPart l D cy ad adK adV r5.1 a2 r8 er8) (gW_goodS hcm qw673 qw671 qw672 qw61) hdX6_isPart ⟨Nat.le_of_ble_eq_true rfl, Nat.le_of_ble_eq_true rfl⟩ rfl rfl hZ hK hw rfl hl.1 rfl (Nat.le_of_ble_eq_true rfl) ⟨Nat.zero_le _, Nat.zero_le _⟩ dX6_mean_12 (fun H locs hw => ?_)
    refine lv_if_ne (tgt := 25) hx hb dX6_mean_15 (by decide) (fun c9 => ?_) (fun c9 => ?_)
    · replace h := if_some_f c9 h
      refine lv_aload_n hx hb dX6_mean_25 rfl (lv_at hl 0 rfl) ?_
      replace h := bd_some h
      obtain ⟨r10, er10, h⟩ := h
      refine r_callVv (As := []) (rest := []) hF (c_X6_goLikelyWays l D cy ad adK adV r8.1 o0 r10 er10) (gW_goodV hcm qw677 qw674 qw676 qw11 qw61) hdX6_goLikelyWays rfl ⟨Nat.le_of_ble_eq_true rfl, Nat.le_of_ble_eq_true rfl⟩ rfl rfl hZ hK hw g3 (by decide) rfl rfl hl.1 rfl (Nat.le_of_ble_eq_true rfl) ⟨Nat.zero_le _, Nat.zero_le _⟩ dX6_mean_26 (fun H locs hw => ?_)
      refine lv_aload_n hx hb dX6_mean_29 rfl (lv_at hl 0 rfl) ?_
      replace h := bd_some h
      obtain ⟨q11, eq11, h⟩ := h
      refine r_getR hx hb hts iw6 hown hK hw o0 3 g3 (by decide) rfl (by decide) rfl (hq _ qw339) (fun _ h9 => h9) dX6_mean_30 eq11 ?_
      replace h := gd_some h
      obtain ⟨g12, h⟩ := h
      replace h := bd_some h
      obtain ⟨q13, eq13, h⟩ := h
      refine r_getR hx hb hts iw5 hown hK hw q11 1 g12 (by decide) rfl (by decide) rfl (hq _ qw243) (fun _ h9 => h9) dX6_mean_33 eq13 ?_
      refine lv_iload_n hx hb dX6_mean_36 rfl (lv_at hl 1 rfl) ?_
      replace h := gd_some h
      obtain ⟨g14, h⟩ := h
      refine r_lald hx hb hK hw q13 g14 dX6_mean_37 ?_
      refine lv_aload_n hx hb dX6_mean_38 rfl (lv_at hl 0 rfl) ?_
      replace h := bd_some h
      obtain ⟨q15, eq15, h⟩ := h
      refine r_getR hx hb hts iw6 hown hK hw o0 3 g3 (by decide) rfl (by decide) rfl (hq _ qw339) (fun _ h9 => h9) dX6_mean_39 eq15 ?_
      replace h := gd_some h
      obtain ⟨g16, h⟩ := h
      refine r_getL hx hb hts iw5 hown hK hw q15 6 g16 (by decide) rfl (by decide) rfl (hq _ qw252) (fun _ h9 => h9) dX6_mean_42 ?_
      refine lv_iload_n hx hb dX6_mean_45 rfl (lv_at hl 2 rfl) ?_
      replace h := bd_some h
      obtain ⟨r17, er17, h⟩ := h
      refine r_callSl (As := [.long (r10.1.2.1 q13 a1.toNatClampNeg), .long (r10.1.2.1 q15 6), .int a2]) (rest := []) hF (c_X6_inLowestTerms l D cy ad adK adV r10.1 (r10.1.2.1 q13 a1.toNatClampNeg) (r10.1.2.1 q15 6) a2 r17 er17) (gW_goodS hcm qw707 qw705 qw706 qw61) hdX6_inLowestTerms ⟨Nat.le_of_ble_eq_true rfl, Nat.le_of_ble_eq_true rfl⟩ rfl rfl hZ hK hw rfl hl.1 rfl (Nat.le_of_ble_eq_true rfl) ⟨Nat.zero_le _, Nat.zero_le _⟩ dX6_mean_46 (fun H locs hw => ?_)
      exact r_lret hx hb hr hlocks hZ hK hw h dX6_mean_49
    · replace h := if_some_t c9 h
      exact hb18 _ _ h _ _ _ hw (lv_sub hl [0] rfl)
theorem dX6_least_0 : decode cX6_least 0 = .ok (.aload_n 0, 1) := by decide +kernel
theorem dX6_least_1 : decode cX6_least 1 = .ok (.getfield 10, 3) := by decide +kernel
theorem dX6_least_4 : decode cX6_least 4 = .ok (.iload_n 1, 1) := by decide +kernel
theorem dX6_least_5 : decode cX6_least 5 = .ok (.invokevirtual 71, 3) := by decide +kernel
theorem dX6_least_8 : decode cX6_least 8 = .ok (.ifCond .eq 20, 3) := by decide +kernel
theorem dX6_least_11 : decode cX6_least 11 = .ok (.iload_n 2, 1) := by decide +kernel
theorem dX6_least_12 : decode cX6_least 12 = .ok (.ifCond .lt 16, 3) := by decide +kernel
theorem dX6_least_15 : decode cX6_least 15 = .ok (.iload_n 2, 1) := by decide +kernel
theorem dX6_least_16 : decode cX6_least 16 = .ok (.bipush 99, 2) := by decide +kernel
theorem dX6_least_18 : decode cX6_least 18 = .ok (.if_icmp .gt 10, 3) := by decide +kernel
theorem dX6_least_21 : decode cX6_least 21 = .ok (.iload_n 3, 1) := by decide +kernel
theorem dX6_least_22 : decode cX6_least 22 = .ok (.invokestatic 189, 3) := by decide +kernel
theorem dX6_least_25 : decode cX6_least 25 = .ok (.ifCond .ne 10, 3) := by decide +kernel
theorem dX6_least_28 : decode cX6_least 28 = .ok (.aload_n 0, 1) := by decide +kernel
theorem dX6_least_29 : decode cX6_least 29 = .ok (.iconst 0, 1) := by decide +kernel
theorem dX6_least_30 : decode cX6_least 30 = .ok (.invokevirtual 59, 3) := by decide +kernel
theorem dX6_least_33 : decode cX6_least 33 = .ok (.i2l, 1) := by decide +kernel
theorem dX6_least_34 : decode cX6_least 34 = .ok (.lreturn, 1) := by decide +kernel
theorem dX6_least_35 : decode cX6_least 35 = .ok (.aload_n 0, 1) := by decide +kernel
theorem dX6_least_36 : decode cX6_least 36 = .ok (.getfield 31, 3) := by decide +kernel
theorem dX6_least_39 : decode cX6_least 39 = .ok (.aload_n 0, 1) := by decide +kernel
theorem dX6_least_40 : decode cX6_least 40 = .ok (.getfield 10, 3) := by decide +kernel
theorem dX6_least_43 : decode cX6_least 43 = .ok (.invokevirtual 151, 3) := by decide +kernel
theorem dX6_least_46 : decode cX6_least 46 = .ok (.aload_n 0, 1) := by decide +kernel
theorem dX6_least_47 : decode cX6_least 47 = .ok (.getfield 26, 3) := by decide +kernel
theorem dX6_least_50 : decode cX6_least 50 = .ok (.iload_n 1, 1) := by decide +kernel
theorem dX6_least_51 : decode cX6_least 51 = .ok (.iload_n 2, 1) := by decide +kernel
theorem dX6_least_52 : decode cX6_least 52 = .ok (.iconst 0, 1) := by decide +kernel
theorem dX6_least_53 : decode cX6_least 53 = .ok (.invokevirtual 213, 3) := by decide +kernel
theorem dX6_least_56 : decode cX6_least 56 = .ok (.aload_n 0, 1) := by decide +kernel
theorem dX6_least_57 : decode cX6_least 57 = .ok (.getfield 26, 3) := by decide +kernel
theorem dX6_least_60 : decode cX6_least 60 = .ok (.getfield 217, 3) := by decide +kernel
theorem dX6_least_63 : decode cX6_least 63 = .ok (.aload_n 0, 1) := by decide +kernel
theorem dX6_least_64 : decode cX6_least 64 = .ok (.getfield 26, 3) := by decide +kernel
theorem dX6_least_67 : decode cX6_least 67 = .ok (.getfield 199, 3) := by decide +kernel
theorem dX6_least_70 : decode cX6_least 70 = .ok (.iload_n 3, 1) := by decide +kernel
theorem dX6_least_71 : decode cX6_least 71 = .ok (.invokestatic 203, 3) := by decide +kernel
theorem dX6_least_74 : decode cX6_least 74 = .ok (.lreturn, 1) := by decide +kernel
set_option maxHeartbeats 4000000 in
set_option maxRecDepth 100000 in
theorem c_X6_least (l : Launch) (D : va_G) (cy : Nat → ClassId) (ad adK adV : Nat → Nat) (M : Mm) (o0 : Nat) (a1 : Int32) (a2 : Int32) (a3 : Int32) (res : Mm × Int64) (h : f_X6_least M o0 a1 a2 a3 = some res) : Met l yX6_least (wU yX6_least cX6_least 4 (some .long)) rmX6_least (va_Pc [.ref (ad o0), .int a1, .int a2, .int a3] (Pre D cy shX ad nX adK adV M)) (va_Ql (fun r (M2 : Mm) => r = res.2 ∧ M2 = res.1) (Pre D cy shX ad nX adK adV) (Aw ad nX)) 0 0 (Aw ad nX) := by
  refine Met.ofW (cc := cX6_least) (maxL := 4) (ret := (some .long)) (by decide) rfl ?_
  intro p e s m args below meth c s₁ B hml hv
  obtain ⟨hargs, hPre⟩ := hv
  have hx := B.exec
  have hb := B.bytes
  have hr := B.returns
  have hts := atoms_spec (ws := wU yX6_least cX6_least 4 (some .long)) B.pre
  have hq : ∀ w ∈ gW, w.before args s = true := fun w hw => hts w (List.mem_cons_of_mem _ hw)
  have hcm : ∀ w ∈ gW, w ∈ wU yX6_least cX6_least 4 (some .long) := fun w hw => List.mem_cons_of_mem _ hw
  have hown : s.vm.findClass RX6 = some m.cls := findClass_of_methodNamed B.named
  have hlocks := B.notSynchronized
  have hF : CallFix p m c cX6_least 4 s args (wU yX6_least cX6_least 4 (some .long)) RX6 := ⟨hx, hb, hml, hown, hts⟩
  have hK := hPre.2.1
  have hZ := hPre.2.2.2
  have hw : Wd D cy shX ad nX (Aw ad nX) s.heap M s.heap [] := ⟨hPre.1, hPre.2.2.1, va_S.rf⟩
  have iw5 : ∀ w ∈ u_ws RX5 TX5 13, w ∈ wU yX6_least cX6_least 4 (some .long) := fun w hw => List.mem_cons_of_mem _ (iX5 w hw)
  have iw6 : ∀ w ∈ u_ws RX6 TX6 8, w ∈ wU yX6_least cX6_least 4 (some .long) := fun w hw => List.mem_cons_of_mem _ (iX6 w hw)
  rw [show entryFrame m args 4 = entryFrame m ([.ref (ad o0), .int a1, .int a2, .int a3] : List Value).toArray 4 from by rw [hargs]]
  have hl := lv_entry ([.ref (ad o0), .int a1, .int a2, .int a3]) (n := 4) (Nat.le_of_ble_eq_true rfl)
  rw [lg_entry_eq]
  generalize (lg_sl ([.ref (ad o0), .int a1, .int a2, .int a3]) ++ List.replicate (4 - (lg_sl ([.ref (ad o0), .int a1, .int a2, .int a3])).length) Slot.unset).toArray = ls at hl ⊢
  have hl : lv_has ls 4 [(0, .ref (ad o0)), (1, .int a1), (2, .int a2), (3, .int a3)] := hl
  have hb28 : ∀ (M : Mm) (x0 : Nat), f_X6_least_b28 M x0 = some res → ∀ (H : Heap) (locs : List Loc) (ls : Array Slot), Wd D cy shX ad nX (Aw ad nX) s.heap M H locs → lv_has ls 4 [(0, .ref (ad x0))] → W p l e (headSpec (wU yX6_least cX6_least 4 (some .long)) rmX6_least).room s m args below meth c H locs 0 0 (QL D cy shX ad nX adK adV below args s res) (F0 m 28 ls []) := by
    intro M x0 h H locs ls hw hl
    unfold f_X6_least_b28 at h
    refine lv_aload_n hx hb dX6_least_28 rfl (lv_at hl 0 rfl) ?_
    refine lv_iconst (v := (0 : Int32)) hx hb dX6_least_29 (by decide) ?_
    replace h := gd_some h
    obtain ⟨g2, h⟩ := h
    replace h := bd_some h
    obtain ⟨r1, er1, h⟩ := h
    refine r_callVi (As := [.int (0 : Int32)]) (rest := []) hF (c_X6_finding l D cy ad adK adV M x0 (0 : Int32) r1 er1) (gW_goodV hcm qw374 qw371 qw373 qw0 qw61) hdX6_finding rfl ⟨Nat.le_of_ble_eq_true rfl, Nat.le_of_ble_eq_true rfl⟩ rfl rfl hZ hK hw g2 (by decide) rfl rfl hl.1 rfl (Nat.le_of_ble_eq_true rfl) ⟨Nat.zero_le _, Nat.zero_le _⟩ dX6_least_30 (fun H locs hw => ?_)
    refine lv_i2l (v := r1.2.toInt64) hx hb dX6_least_33 rfl ?_
    exact r_lret hx hb hr hlocks hZ hK hw h dX6_least_34
  unfold f_X6_least at h
  refine lv_aload_n hx hb dX6_least_0 rfl (lv_at hl 0 rfl) ?_
  replace h := gd_some h
  obtain ⟨g3, h⟩ := h
  replace h := bd_some h
  obtain ⟨q4, eq4, h⟩ := h
  refine r_getR hx hb hts iw6 hown hK hw o0 0 g3 (by decide) rfl (by decide) rfl (hq _ qw336) (fun _ h9 => h9) dX6_least_1 eq4 ?_
  refine lv_iload_n hx hb dX6_least_4 rfl (lv_at hl 1 rfl) ?_
  replace h := gd_some h
  obtain ⟨g6, h⟩ := h
  replace h := bd_some h
  obtain ⟨r5, er5, h⟩ := h
  refine r_callVi (As := [.int a1]) (rest := []) hF (c_X1_hasSide l D cy ad adK adV M q4 a1 r5 er5) (gW_goodV hcm qw391 qw388 qw389 qw390 qw62) hdX1_hasSide rfl ⟨Nat.le_of_ble_eq_true rfl, Nat.le_of_ble_eq_true rfl⟩ rfl rfl hZ hK hw g6 (by decide) rfl rfl hl.1 rfl (Nat.le_of_ble_eq_true rfl) ⟨Nat.zero_le _, Nat.zero_le _⟩ dX6_least_5 (fun H locs hw => ?_)
  refine lv_if_eq (tgt := 28) hx hb dX6_least_8 (by decide) (fun c7 => ?_) (fun c7 => ?_)
  · replace h := if_some_t c7 h
    exact hb28 _ _ h _ _ _ hw (lv_sub hl [0] rfl)
  · replace h := if_some_f c7 h
    refine lv_iload_n hx hb dX6_least_11 rfl (lv_at hl 2 rfl) ?_
    refine lv_if_lt (tgt := 28) hx hb dX6_least_12 (by decide) (fun c8 => ?_) (fun c8 => ?_)
    · replace h := if_some_t c8 h
      exact hb28 _ _ h _ _ _ hw (lv_sub hl [0] rfl)
    · replace h := if_some_f c8 h
      refine lv_iload_n hx hb dX6_least_15 rfl (lv_at hl 2 rfl) ?_
      refine lv_bipush (v := (99 : Int32)) hx hb dX6_least_16 (by decide) ?_
      refine lv_icmp_gt (tgt := 28) hx hb dX6_least_18 (by decide) (fun c9 => ?_) (fun c9 => ?_)
      · replace h := if_some_t c9 h
        exact hb28 _ _ h _ _ _ hw (lv_sub hl [0] rfl)
      · replace h := if_some_f c9 h
        refine lv_iload_n hx hb dX6_least_21 rfl (lv_at hl 3 rfl) ?_
        replace h := bd_some h
        obtain ⟨r10, er10, h⟩ := h
        refine r_callSi (As := [.int a3]) (rest := []) hF (c_X6_isPart l D cy ad adK adV r5.1 a3 r10 er10) (gW_goodS hcm qw673 qw671 qw672 qw61) hdX6_isPart ⟨Nat.le_of_ble_eq_true rfl, Nat.le_of_ble_eq_true rfl⟩ rfl rfl hZ hK hw rfl hl.1 rfl (Nat.le_of_ble_eq_true rfl) ⟨Nat.zero_le _, Nat.zero_le _⟩ dX6_least_22 (fun H locs hw => ?_)
        refine lv_if_ne (tgt := 35) hx hb dX6_least_25 (by decide) (fun c11 => ?_) (fun c11 => ?_)
        · replace h := if_some_f c11 h
          refine lv_aload_n hx hb dX6_least_35 rfl (lv_at hl 0 rfl) ?_
          replace h := bd_some h
          obtain ⟨q12, eq12, h⟩ := h
          refine r_getR hx hb hts iw6 hown hK hw o0 4 g3 (by decide) rfl (by decide) rfl (hq _ qw340) (fun _ h9 => h9) dX6_least_36 eq12 ?_
          refine lv_aload_n hx hb dX6_least_39 rfl (lv_at hl 0 rfl) ?_
          replace h := bd_some h
          obtain ⟨q13, eq13, h⟩ := h
          refine r_getR hx hb hts iw6 hown hK hw o0 0 g3 (by decide) rfl (by decide) rfl (hq _ qw336) (fun _ h9 => h9) dX6_least_40 eq13 ?_
          replace h := gd_some h
          obtain ⟨g15, h⟩ := h
          replace h := bd_some h
          obtain ⟨r14, er14, h⟩ := h
          refine r_callVv (As := [.ref (ad q13)]) (rest := []) hF (c_X1_become l D cy ad adK adV r10.1 q12 q13 r14 er14) (gW_goodV hcm qw458 qw455 qw456 qw457 qw62) hdX1_become rfl ⟨Nat.le_of_ble_eq_true rfl, Nat.le_of_ble_eq_true rfl⟩ rfl rfl hZ hK hw g15 (by decide) rfl rfl hl.1 rfl (Nat.le_of_ble_eq_true rfl) ⟨Nat.zero_le _, Nat.zero_le _⟩ dX6_least_43 (fun H locs hw => ?_)
          refine lv_aload_n hx hb dX6_least_46 rfl (lv_at hl 0 rfl) ?_
          replace h := bd_some h
          obtain ⟨q16, eq16, h⟩ := h
          refine r_getR hx hb hts iw6 hown hK hw o0 3 g3 (by decide) rfl (by decide) rfl (hq _ qw339) (fun _ h9 => h9) dX6_least_47 eq16 ?_
          refine lv_iload_n hx hb dX6_least_50 rfl (lv_at hl 1 rfl) ?_
          refine lv_iload_n hx hb dX6_least_51 rfl (lv_at hl 2 rfl) ?_
          refine lv_iconst (v := (0 : Int32)) hx hb dX6_least_52 (by decide) ?_
          replace h := gd_some h
          obtain ⟨g18, h⟩ := h
          replace h := bd_some h
          obtain ⟨r17, er17, h⟩ := h
          refine r_callVv (As := [.int a1, .int a2, .int (0 : Int32)]) (rest := []) hF (c_X5_over l D cy ad adK adV r14.1 q16 a1 a2 (0 : Int32) r17 er17) (gW_goodV hcm qw681 qw678 qw679 qw680 qw65) hdX5_over rfl ⟨Nat.le_of_ble_eq_true rfl, Nat.le_of_ble_eq_true rfl⟩ rfl rfl hZ hK hw g18 (by decide) rfl rfl hl.1 rfl (Nat.le_of_ble_eq_true rfl) ⟨Nat.zero_le _, Nat.zero_le _⟩ dX6_least_53 (fun H locs hw => ?_)
          refine lv_aload_n hx hb dX6_least_56 rfl (lv_at hl 0 rfl) ?_
          replace h := bd_some h
          obtain ⟨q19, eq19, h⟩ := h
          refine r_getR hx hb hts iw6 hown hK hw o0 3 g3 (by decide) rfl (by decide) rfl (hq _ qw339) (fun _ h9 => h9) dX6_least_57 eq19 ?_
          replace h := gd_some h
          obtain ⟨g20, h⟩ := h
          refine r_getL hx hb hts iw5 hown hK hw q19 11 g20 (by decide) rfl (by decide) rfl (hq _ qw259) (fun _ h9 => h9) dX6_least_60 ?_
          refine lv_aload_n hx hb dX6_least_63 rfl (lv_at hl 0 rfl) ?_
          replace h := bd_some h
          obtain ⟨q21, eq21, h⟩ := h
          refine r_getR hx hb hts iw6 hown hK hw o0 3 g3 (by decide) rfl (by decide) rfl (hq _ qw339) (fun _ h9 => h9) dX6_least_64 eq21 ?_
          replace h := gd_some h
          obtain ⟨g22, h⟩ := h
          refine r_getL hx hb hts iw5 hown hK hw q21 6 g22 (by decide) rfl (by decide) rfl (hq _ qw252) (fun _ h9 => h9) dX6_least_67 ?_
          refine lv_iload_n hx hb dX6_least_70 rfl (lv_at hl 3 rfl) ?_
          replace h := bd_some h
          obtain ⟨r23, er23, h⟩ := h
          refine r_callSl (As := [.long (r17.1.2.1 q19 11), .long (r17.1.2.1 q21 6), .int a3]) (rest := []) hF (c_X6_inLowestTerms l D cy ad adK adV r17.1 (r17.1.2.1 q19 11) (r17.1.2.1 q21 6) a3 r23 er23) (gW_goodS hcm qw707 qw705 qw706 qw61) hdX6_inLowestTerms ⟨Nat.le_of_ble_eq_true rfl, Nat.le_of_ble_eq_true rfl⟩ rfl rfl hZ hK hw rfl hl.1 rfl (Nat.le_of_ble_eq_true rfl) ⟨Nat.zero_le _, Nat.zero_le _⟩ dX6_least_71 (fun H locs hw => ?_)
          exact r_lret hx hb hr hlocks hZ hK hw h dX6_least_74
        · replace h := if_some_t c11 h
          exact hb28 _ _ h _ _ _ hw (lv_sub hl [0] rfl)
theorem dX6_most_0 : decode cX6_most 0 = .ok (.aload_n 0, 1) := by decide +kernel
theorem dX6_most_1 : decode cX6_most 1 = .ok (.getfield 10, 3) := by decide +kernel
theorem dX6_most_4 : decode cX6_most 4 = .ok (.iload_n 1, 1) := by decide +kernel
theorem dX6_most_5 : decode cX6_most 5 = .ok (.invokevirtual 71, 3) := by decide +kernel
theorem dX6_most_8 : decode cX6_most 8 = .ok (.ifCond .ne 9, 3) := by decide +kernel
theorem dX6_most_11 : decode cX6_most 11 = .ok (.aload_n 0, 1) := by decide +kernel
theorem dX6_most_12 : decode cX6_most 12 = .ok (.iconst 0, 1) := by decide +kernel
theorem dX6_most_13 : decode cX6_most 13 = .ok (.invokevirtual 59, 3) := by decide +kernel
theorem dX6_most_16 : decode cX6_most 16 = .ok (.ireturn, 1) := by decide +kernel
theorem dX6_most_17 : decode cX6_most 17 = .ok (.aload_n 0, 1) := by decide +kernel
theorem dX6_most_18 : decode cX6_most 18 = .ok (.getfield 31, 3) := by decide +kernel
theorem dX6_most_21 : decode cX6_most 21 = .ok (.aload_n 0, 1) := by decide +kernel
theorem dX6_most_22 : decode cX6_most 22 = .ok (.getfield 10, 3) := by decide +kernel
theorem dX6_most_25 : decode cX6_most 25 = .ok (.invokevirtual 151, 3) := by decide +kernel
theorem dX6_most_28 : decode cX6_most 28 = .ok (.aload_n 0, 1) := by decide +kernel
theorem dX6_most_29 : decode cX6_most 29 = .ok (.getfield 26, 3) := by decide +kernel
theorem dX6_most_32 : decode cX6_most 32 = .ok (.iload_n 1, 1) := by decide +kernel
theorem dX6_most_33 : decode cX6_most 33 = .ok (.iconst 0, 1) := by decide +kernel
theorem dX6_most_34 : decode cX6_most 34 = .ok (.iconst 1, 1) := by decide +kernel
theorem dX6_most_35 : decode cX6_most 35 = .ok (.invokevirtual 213, 3) := by decide +kernel
theorem dX6_most_38 : decode cX6_most 38 = .ok (.aload_n 0, 1) := by decide +kernel
theorem dX6_most_39 : decode cX6_most 39 = .ok (.getfield 26, 3) := by decide +kernel
theorem dX6_most_42 : decode cX6_most 42 = .ok (.getfield 220, 3) := by decide +kernel
theorem dX6_most_45 : decode cX6_most 45 = .ok (.ireturn, 1) := by decide +kernel
set_option maxHeartbeats 4000000 in
set_option maxRecDepth 100000 in
theorem c_X6_most (l : Launch) (D : va_G) (cy : Nat → ClassId) (ad adK adV : Nat → Nat) (M : Mm) (o0 : Nat) (a1 : Int32) (res : Mm × Int32) (h : f_X6_most M o0 a1 = some res) : Met l yX6_most (wU yX6_most cX6_most 2 (some .int)) rmX6_most (va_Pc [.ref (ad o0), .int a1] (Pre D cy shX ad nX adK adV M)) (va_Qi (fun r (M2 : Mm) => r = res.2 ∧ M2 = res.1) (Pre D cy shX ad nX adK adV) (Aw ad nX)) 0 0 (Aw ad nX) := by
  refine Met.ofW (cc := cX6_most) (maxL := 2) (ret := (some .int)) (by decide) rfl ?_
  intro p e s m args below meth c s₁ B hml hv
  obtain ⟨hargs, hPre⟩ := hv
  have hx := B.exec
  have hb := B.bytes
  have hr := B.returns
  have hts := atoms_spec (ws := wU yX6_most cX6_most 2 (some .int)) B.pre
  have hq : ∀ w ∈ gW, w.before args s = true := fun w hw => hts w (List.mem_cons_of_mem _ hw)
  have hcm : ∀ w ∈ gW, w ∈ wU yX6_most cX6_most 2 (some .int) := fun w hw => List.mem_cons_of_mem _ hw
  have hown : s.vm.findClass RX6 = some m.cls := findClass_of_methodNamed B.named
  have hlocks := B.notSynchronized
  have hF : CallFix p m c cX6_most 2 s args (wU yX6_most cX6_most 2 (some .int)) RX6 := ⟨hx, hb, hml, hown, hts⟩
  have hK := hPre.2.1
  have hZ := hPre.2.2.2
  have hw : Wd D cy shX ad nX (Aw ad nX) s.heap M s.heap [] := ⟨hPre.1, hPre.2.2.1, va_S.rf⟩
  have iw5 : ∀ w ∈ u_ws RX5 TX5 13, w ∈ wU yX6_most cX6_most 2 (some .int) := fun w hw => List.mem_cons_of_mem _ (iX5 w hw)
  have iw6 : ∀ w ∈ u_ws RX6 TX6 8, w ∈ wU yX6_most cX6_most 2 (some .int) := fun w hw => List.mem_cons_of_mem _ (iX6 w hw)
  rw [show entryFrame m args 2 = entryFrame m ([.ref (ad o0), .int a1] : List Value).toArray 2 from by rw [hargs]]
  have hl := lv_entry ([.ref (ad o0), .int a1]) (n := 2) (Nat.le_of_ble_eq_true rfl)
  rw [lg_entry_eq]
  generalize (lg_sl ([.ref (ad o0), .int a1]) ++ List.replicate (2 - (lg_sl ([.ref (ad o0), .int a1])).length) Slot.unset).toArray = ls at hl ⊢
  have hl : lv_has ls 2 [(0, .ref (ad o0)), (1, .int a1)] := hl
  unfold f_X6_most at h
  refine lv_aload_n hx hb dX6_most_0 rfl (lv_at hl 0 rfl) ?_
  replace h := gd_some h
  obtain ⟨g1, h⟩ := h
  replace h := bd_some h
  obtain ⟨q2, eq2, h⟩ := h
  refine r_getR hx hb hts iw6 hown hK hw o0 0 g1 (by decide) rfl (by decide) rfl (hq _ qw336) (fun _ h9 => h9) dX6_most_1 eq2 ?_
  refine lv_iload_n hx hb dX6_most_4 rfl (lv_at hl 1 rfl) ?_
  replace h := gd_some h
  obtain ⟨g4, h⟩ := h
  replace h := bd_some h
  obtain ⟨r3, er3, h⟩ := h
  refine r_callVi (As := [.int a1]) (rest := []) hF (c_X1_hasSide l D cy ad adK adV M q2 a1 r3 er3) (gW_goodV hcm qw391 qw388 qw389 qw390 qw62) hdX1_hasSide rfl ⟨Nat.le_of_ble_eq_true rfl, Nat.le_of_ble_eq_true rfl⟩ rfl rfl hZ hK hw g4 (by decide) rfl rfl hl.1 rfl (Nat.le_of_ble_eq_true rfl) ⟨Nat.zero_le _, Nat.zero_le _⟩ dX6_most_5 (fun H locs hw => ?_)
  refine lv_if_ne (tgt := 17) hx hb dX6_most_8 (by decide) (fun c5 => ?_) (fun c5 => ?_)
  · replace h := if_some_f c5 h
    refine lv_aload_n hx hb dX6_most_17 rfl (lv_at hl 0 rfl) ?_
    replace h := bd_some h
    obtain ⟨q6, eq6, h⟩ := h
    refine r_getR hx hb hts iw6 hown hK hw o0 4 g1 (by decide) rfl (by decide) rfl (hq _ qw340) (fun _ h9 => h9) dX6_most_18 eq6 ?_
    refine lv_aload_n hx hb dX6_most_21 rfl (lv_at hl 0 rfl) ?_
    replace h := bd_some h
    obtain ⟨q7, eq7, h⟩ := h
    refine r_getR hx hb hts iw6 hown hK hw o0 0 g1 (by decide) rfl (by decide) rfl (hq _ qw336) (fun _ h9 => h9) dX6_most_22 eq7 ?_
    replace h := gd_some h
    obtain ⟨g9, h⟩ := h
    replace h := bd_some h
    obtain ⟨r8, er8, h⟩ := h
    refine r_callVv (As := [.ref (ad q7)]) (rest := []) hF (c_X1_become l D cy ad adK adV r3.1 q6 q7 r8 er8) (gW_goodV hcm qw458 qw455 qw456 qw457 qw62) hdX1_become rfl ⟨Nat.le_of_ble_eq_true rfl, Nat.le_of_ble_eq_true rfl⟩ rfl rfl hZ hK hw g9 (by decide) rfl rfl hl.1 rfl (Nat.le_of_ble_eq_true rfl) ⟨Nat.zero_le _, Nat.zero_le _⟩ dX6_most_25 (fun H locs hw => ?_)
    refine lv_aload_n hx hb dX6_most_28 rfl (lv_at hl 0 rfl) ?_
    replace h := bd_some h
    obtain ⟨q10, eq10, h⟩ := h
    refine r_getR hx hb hts iw6 hown hK hw o0 3 g1 (by decide) rfl (by decide) rfl (hq _ qw339) (fun _ h9 => h9) dX6_most_29 eq10 ?_
    refine lv_iload_n hx hb dX6_most_32 rfl (lv_at hl 1 rfl) ?_
    refine lv_iconst (v := (0 : Int32)) hx hb dX6_most_33 (by decide) ?_
    refine lv_iconst (v := (1 : Int32)) hx hb dX6_most_34 (by decide) ?_
    replace h := gd_some h
    obtain ⟨g12, h⟩ := h
    replace h := bd_some h
    obtain ⟨r11, er11, h⟩ := h
    refine r_callVv (As := [.int a1, .int (0 : Int32), .int (1 : Int32)]) (rest := []) hF (c_X5_over l D cy ad adK adV r8.1 q10 a1 (0 : Int32) (1 : Int32) r11 er11) (gW_goodV hcm qw681 qw678 qw679 qw680 qw65) hdX5_over rfl ⟨Nat.le_of_ble_eq_true rfl, Nat.le_of_ble_eq_true rfl⟩ rfl rfl hZ hK hw g12 (by decide) rfl rfl hl.1 rfl (Nat.le_of_ble_eq_true rfl) ⟨Nat.zero_le _, Nat.zero_le _⟩ dX6_most_35 (fun H locs hw => ?_)
    refine lv_aload_n hx hb dX6_most_38 rfl (lv_at hl 0 rfl) ?_
    replace h := bd_some h
    obtain ⟨q13, eq13, h⟩ := h
    refine r_getR hx hb hts iw6 hown hK hw o0 3 g1 (by decide) rfl (by decide) rfl (hq _ qw339) (fun _ h9 => h9) dX6_most_39 eq13 ?_
    replace h := gd_some h
    obtain ⟨g14, h⟩ := h
    refine r_getI hx hb hts iw5 hown hK hw q13 12 g14 (by decide) rfl (by decide) rfl (hq _ qw261) (fun _ h9 => h9) dX6_most_42 ?_
    exact r_iret hx hb hr rfl hlocks hZ hK hw h dX6_most_45
  · replace h := if_some_t c5 h
    refine lv_aload_n hx hb dX6_most_11 rfl (lv_at hl 0 rfl) ?_
    refine lv_iconst (v := (0 : Int32)) hx hb dX6_most_12 (by decide) ?_
    replace h := bd_some h
    obtain ⟨r15, er15, h⟩ := h
    refine r_callVi (As := [.int (0 : Int32)]) (rest := []) hF (c_X6_finding l D cy ad adK adV r3.1 o0 (0 : Int32) r15 er15) (gW_goodV hcm qw374 qw371 qw373 qw0 qw61) hdX6_finding rfl ⟨Nat.le_of_ble_eq_true rfl, Nat.le_of_ble_eq_true rfl⟩ rfl rfl hZ hK hw g1 (by decide) rfl rfl hl.1 rfl (Nat.le_of_ble_eq_true rfl) ⟨Nat.zero_le _, Nat.zero_le _⟩ dX6_most_13 (fun H locs hw => ?_)
    exact r_iret hx hb hr rfl hlocks hZ hK hw h dX6_most_16
theorem dX6_ways_0 : decode cX6_ways 0 = .ok (.aload_n 0, 1) := by decide +kernel
theorem dX6_ways_1 : decode cX6_ways 1 = .ok (.invokevirtual 192, 3) := by decide +kernel
theorem dX6_ways_4 : decode cX6_ways 4 = .ok (.aload_n 0, 1) := by decide +kernel
theorem dX6_ways_5 : decode cX6_ways 5 = .ok (.getfield 26, 3) := by decide +kernel
theorem dX6_ways_8 : decode cX6_ways 8 = .ok (.getfield 223, 3) := by decide +kernel
theorem dX6_ways_11 : decode cX6_ways 11 = .ok (.ireturn, 1) := by decide +kernel
set_option maxHeartbeats 4000000 in
set_option maxRecDepth 100000 in
theorem c_X6_ways (l : Launch) (D : va_G) (cy : Nat → ClassId) (ad adK adV : Nat → Nat) (M : Mm) (o0 : Nat) (res : Mm × Int32) (h : f_X6_ways M o0 = some res) : Met l yX6_ways (wU yX6_ways cX6_ways 1 (some .int)) rmX6_ways (va_Pc [.ref (ad o0)] (Pre D cy shX ad nX adK adV M)) (va_Qi (fun r (M2 : Mm) => r = res.2 ∧ M2 = res.1) (Pre D cy shX ad nX adK adV) (Aw ad nX)) 0 0 (Aw ad nX) := by
  refine Met.ofW (cc := cX6_ways) (maxL := 1) (ret := (some .int)) (by decide) rfl ?_
  intro p e s m args below meth c s₁ B hml hv
  obtain ⟨hargs, hPre⟩ := hv
  have hx := B.exec
  have hb := B.bytes
  have hr := B.returns
  have hts := atoms_spec (ws := wU yX6_ways cX6_ways 1 (some .int)) B.pre
  have hq : ∀ w ∈ gW, w.before args s = true := fun w hw => hts w (List.mem_cons_of_mem _ hw)
  have hcm : ∀ w ∈ gW, w ∈ wU yX6_ways cX6_ways 1 (some .int) := fun w hw => List.mem_cons_of_mem _ hw
  have hown : s.vm.findClass RX6 = some m.cls := findClass_of_methodNamed B.named
  have hlocks := B.notSynchronized
  have hF : CallFix p m c cX6_ways 1 s args (wU yX6_ways cX6_ways 1 (some .int)) RX6 := ⟨hx, hb, hml, hown, hts⟩
  have hK := hPre.2.1
  have hZ := hPre.2.2.2
  have hw : Wd D cy shX ad nX (Aw ad nX) s.heap M s.heap [] := ⟨hPre.1, hPre.2.2.1, va_S.rf⟩
  have iw5 : ∀ w ∈ u_ws RX5 TX5 13, w ∈ wU yX6_ways cX6_ways 1 (some .int) := fun w hw => List.mem_cons_of_mem _ (iX5 w hw)
  have iw6 : ∀ w ∈ u_ws RX6 TX6 8, w ∈ wU yX6_ways cX6_ways 1 (some .int) := fun w hw => List.mem_cons_of_mem _ (iX6 w hw)
  rw [show entryFrame m args 1 = entryFrame m ([.ref (ad o0)] : List Value).toArray 1 from by rw [hargs]]
  have hl := lv_entry ([.ref (ad o0)]) (n := 1) (Nat.le_of_ble_eq_true rfl)
  rw [lg_entry_eq]
  generalize (lg_sl ([.ref (ad o0)]) ++ List.replicate (1 - (lg_sl ([.ref (ad o0)])).length) Slot.unset).toArray = ls at hl ⊢
  have hl : lv_has ls 1 [(0, .ref (ad o0))] := hl
  unfold f_X6_ways at h
  refine lv_aload_n hx hb dX6_ways_0 rfl (lv_at hl 0 rfl) ?_
  replace h := gd_some h
  obtain ⟨g2, h⟩ := h
  replace h := bd_some h
  obtain ⟨r1, er1, h⟩ := h
  refine r_callVv (As := []) (rest := []) hF (c_X6_goLikelyWays l D cy ad adK adV M o0 r1 er1) (gW_goodV hcm qw677 qw674 qw676 qw11 qw61) hdX6_goLikelyWays rfl ⟨Nat.le_of_ble_eq_true rfl, Nat.le_of_ble_eq_true rfl⟩ rfl rfl hZ hK hw g2 (by decide) rfl rfl hl.1 rfl (Nat.le_of_ble_eq_true rfl) ⟨Nat.zero_le _, Nat.zero_le _⟩ dX6_ways_1 (fun H locs hw => ?_)
  refine lv_aload_n hx hb dX6_ways_4 rfl (lv_at hl 0 rfl) ?_
  replace h := bd_some h
  obtain ⟨q3, eq3, h⟩ := h
  refine r_getR hx hb hts iw6 hown hK hw o0 3 g2 (by decide) rfl (by decide) rfl (hq _ qw339) (fun _ h9 => h9) dX6_ways_5 eq3 ?_
  replace h := gd_some h
  obtain ⟨g4, h⟩ := h
  refine r_getI hx hb hts iw5 hown hK hw q3 7 g4 (by decide) rfl (by decide) rfl (hq _ qw254) (fun _ h9 => h9) dX6_ways_8 ?_
  exact r_iret hx hb hr rfl hlocks hZ hK hw h dX6_ways_11
theorem dX6_moved_0 : decode cX6_moved 0 = .ok (.aload_n 0, 1) := by decide +kernel
theorem dX6_moved_1 : decode cX6_moved 1 = .ok (.getfield 10, 3) := by decide +kernel
theorem dX6_moved_4 : decode cX6_moved 4 = .ok (.iload_n 1, 1) := by decide +kernel
theorem dX6_moved_5 : decode cX6_moved 5 = .ok (.invokevirtual 114, 3) := by decide +kernel
theorem dX6_moved_8 : decode cX6_moved 8 = .ok (.ifCond .eq 10, 3) := by decide +kernel
theorem dX6_moved_11 : decode cX6_moved 11 = .ok (.iload_n 2, 1) := by decide +kernel
theorem dX6_moved_12 : decode cX6_moved 12 = .ok (.invokestatic 189, 3) := by decide +kernel
theorem dX6_moved_15 : decode cX6_moved 15 = .ok (.ifCond .ne 10, 3) := by decide +kernel
theorem dX6_moved_18 : decode cX6_moved 18 = .ok (.aload_n 0, 1) := by decide +kernel
theorem dX6_moved_19 : decode cX6_moved 19 = .ok (.iconst 0, 1) := by decide +kernel
theorem dX6_moved_20 : decode cX6_moved 20 = .ok (.invokevirtual 59, 3) := by decide +kernel
theorem dX6_moved_23 : decode cX6_moved 23 = .ok (.i2l, 1) := by decide +kernel
theorem dX6_moved_24 : decode cX6_moved 24 = .ok (.lreturn, 1) := by decide +kernel
theorem dX6_moved_25 : decode cX6_moved 25 = .ok (.aload_n 0, 1) := by decide +kernel
theorem dX6_moved_26 : decode cX6_moved 26 = .ok (.invokevirtual 192, 3) := by decide +kernel
theorem dX6_moved_29 : decode cX6_moved 29 = .ok (.aload_n 0, 1) := by decide +kernel
theorem dX6_moved_30 : decode cX6_moved 30 = .ok (.getfield 26, 3) := by decide +kernel
theorem dX6_moved_33 : decode cX6_moved 33 = .ok (.getfield 226, 3) := by decide +kernel
theorem dX6_moved_36 : decode cX6_moved 36 = .ok (.iload_n 1, 1) := by decide +kernel
theorem dX6_moved_37 : decode cX6_moved 37 = .ok (.laload, 1) := by decide +kernel
theorem dX6_moved_38 : decode cX6_moved 38 = .ok (.aload_n 0, 1) := by decide +kernel
theorem dX6_moved_39 : decode cX6_moved 39 = .ok (.getfield 26, 3) := by decide +kernel
theorem dX6_moved_42 : decode cX6_moved 42 = .ok (.getfield 199, 3) := by decide +kernel
theorem dX6_moved_45 : decode cX6_moved 45 = .ok (.iload_n 2, 1) := by decide +kernel
theorem dX6_moved_46 : decode cX6_moved 46 = .ok (.invokestatic 203, 3) := by decide +kernel
theorem dX6_moved_49 : decode cX6_moved 49 = .ok (.lreturn, 1) := by decide +kernel
set_option maxHeartbeats 4000000 in
set_option maxRecDepth 100000 in
theorem c_X6_moved (l : Launch) (D : va_G) (cy : Nat → ClassId) (ad adK adV : Nat → Nat) (M : Mm) (o0 : Nat) (a1 : Int32) (a2 : Int32) (res : Mm × Int64) (h : f_X6_moved M o0 a1 a2 = some res) : Met l yX6_moved (wU yX6_moved cX6_moved 3 (some .long)) rmX6_moved (va_Pc [.ref (ad o0), .int a1, .int a2] (Pre D cy shX ad nX adK adV M)) (va_Ql (fun r (M2 : Mm) => r = res.2 ∧ M2 = res.1) (Pre D cy shX ad nX adK adV) (Aw ad nX)) 0 0 (Aw ad nX) := by
  refine Met.ofW (cc := cX6_moved) (maxL := 3) (ret := (some .long)) (by decide) rfl ?_
  intro p e s m args below meth c s₁ B hml hv
  obtain ⟨hargs, hPre⟩ := hv
  have hx := B.exec
  have hb := B.bytes
  have hr := B.returns
  have hts := atoms_spec (ws := wU yX6_moved cX6_moved 3 (some .long)) B.pre
  have hq : ∀ w ∈ gW, w.before args s = true := fun w hw => hts w (List.mem_cons_of_mem _ hw)
  have hcm : ∀ w ∈ gW, w ∈ wU yX6_moved cX6_moved 3 (some .long) := fun w hw => List.mem_cons_of_mem _ hw
  have hown : s.vm.findClass RX6 = some m.cls := findClass_of_methodNamed B.named
  have hlocks := B.notSynchronized
  have hF : CallFix p m c cX6_moved 3 s args (wU yX6_moved cX6_moved 3 (some .long)) RX6 := ⟨hx, hb, hml, hown, hts⟩
  have hK := hPre.2.1
  have hZ := hPre.2.2.2
  have hw : Wd D cy shX ad nX (Aw ad nX) s.heap M s.heap [] := ⟨hPre.1, hPre.2.2.1, va_S.rf⟩
  have iw5 : ∀ w ∈ u_ws RX5 TX5 13, w ∈ wU yX6_moved cX6_moved 3 (some .long) := fun w hw => List.mem_cons_of_mem _ (iX5 w hw)
  have iw6 : ∀ w ∈ u_ws RX6 TX6 8, w ∈ wU yX6_moved cX6_moved 3 (some .long) := fun w hw => List.mem_cons_of_mem _ (iX6 w hw)
  rw [show entryFrame m args 3 = entryFrame m ([.ref (ad o0), .int a1, .int a2] : List Value).toArray 3 from by rw [hargs]]
  have hl := lv_entry ([.ref (ad o0), .int a1, .int a2]) (n := 3) (Nat.le_of_ble_eq_true rfl)
  rw [lg_entry_eq]
  generalize (lg_sl ([.ref (ad o0), .int a1, .int a2]) ++ List.replicate (3 - (lg_sl ([.ref (ad o0), .int a1, .int a2])).length) Slot.unset).toArray = ls at hl ⊢
  have hl : lv_has ls 3 [(0, .ref (ad o0)), (1, .int a1), (2, .int a2)] := hl
  have hb18 : ∀ (M : Mm) (x0 : Nat), f_X6_moved_b18 M x0 = some res → ∀ (H : Heap) (locs : List Loc) (ls : Array Slot), Wd D cy shX ad nX (Aw ad nX) s.heap M H locs → lv_has ls 3 [(0, .ref (ad x0))] → W p l e (headSpec (wU yX6_moved cX6_moved 3 (some .long)) rmX6_moved).room s m args below meth c H locs 0 0 (QL D cy shX ad nX adK adV below args s res) (F0 m 18 ls []) := by
    intro M x0 h H locs ls hw hl
    unfold f_X6_moved_b18 at h
    refine lv_aload_n hx hb dX6_moved_18 rfl (lv_at hl 0 rfl) ?_
    refine lv_iconst (v := (0 : Int32)) hx hb dX6_moved_19 (by decide) ?_
    replace h := gd_some h
    obtain ⟨g2, h⟩ := h
    replace h := bd_some h
    obtain ⟨r1, er1, h⟩ := h
    refine r_callVi (As := [.int (0 : Int32)]) (rest := []) hF (c_X6_finding l D cy ad adK adV M x0 (0 : Int32) r1 er1) (gW_goodV hcm qw374 qw371 qw373 qw0 qw61) hdX6_finding rfl ⟨Nat.le_of_ble_eq_true rfl, Nat.le_of_ble_eq_true rfl⟩ rfl rfl hZ hK hw g2 (by decide) rfl rfl hl.1 rfl (Nat.le_of_ble_eq_true rfl) ⟨Nat.zero_le _, Nat.zero_le _⟩ dX6_moved_20 (fun H locs hw => ?_)
    refine lv_i2l (v := r1.2.toInt64) hx hb dX6_moved_23 rfl ?_
    exact r_lret hx hb hr hlocks hZ hK hw h dX6_moved_24
  unfold f_X6_moved at h
  refine lv_aload_n hx hb dX6_moved_0 rfl (lv_at hl 0 rfl) ?_
  replace h := gd_some h
  obtain ⟨g3, h⟩ := h
  replace h := bd_some h
  obtain ⟨q4, eq4, h⟩ := h
  refine r_getR hx hb hts iw6 hown hK hw o0 0 g3 (by decide) rfl (by decide) rfl (hq _ qw336) (fun _ h9 => h9) dX6_moved_1 eq4 ?_
  refine lv_iload_n hx hb dX6_moved_4 rfl (lv_at hl 1 rfl) ?_
  replace h := gd_some h
  obtain ⟨g6, h⟩ := h
  replace h := bd_some h
  obtain ⟨r5, er5, h⟩ := h
  refine r_callVi (As := [.int a1]) (rest := []) hF (c_X1_hasGame l D cy ad adK adV M q4 a1 r5 er5) (gW_goodV hcm qw430 qw427 qw428 qw429 qw62) hdX1_hasGame rfl ⟨Nat.le_of_ble_eq_true rfl, Nat.le_of_ble_eq_true rfl⟩ rfl rfl hZ hK hw g6 (by decide) rfl rfl hl.1 rfl (Nat.le_of_ble_eq_true rfl) ⟨Nat.zero_le _, Nat.zero_le _⟩ dX6_moved_5 (fun H locs hw => ?_)
  refine lv_if_eq (tgt := 18) hx hb dX6_moved_8 (by decide) (fun c7 => ?_) (fun c7 => ?_)
  · replace h := if_some_t c7 h
    exact hb18 _ _ h _ _ _ hw (lv_sub hl [0] rfl)
  · replace h := if_some_f c7 h
    refine lv_iload_n hx hb dX6_moved_11 rfl (lv_at hl 2 rfl) ?_
    replace h := bd_some h
    obtain ⟨r8, er8, h⟩ := h
    refine r_callSi (As := [.int a2]) (rest := []) hF (c_X6_isPart l D cy ad adK adV r5.1 a2 r8 er8) (gW_goodS hcm qw673 qw671 qw672 qw61) hdX6_isPart ⟨Nat.le_of_ble_eq_true rfl, Nat.le_of_ble_eq_true rfl⟩ rfl rfl hZ hK hw rfl hl.1 rfl (Nat.le_of_ble_eq_true rfl) ⟨Nat.zero_le _, Nat.zero_le _⟩ dX6_moved_12 (fun H locs hw => ?_)
    refine lv_if_ne (tgt := 25) hx hb dX6_moved_15 (by decide) (fun c9 => ?_) (fun c9 => ?_)
    · replace h := if_some_f c9 h
      refine lv_aload_n hx hb dX6_moved_25 rfl (lv_at hl 0 rfl) ?_
      replace h := bd_some h
      obtain ⟨r10, er10, h⟩ := h
      refine r_callVv (As := []) (rest := []) hF (c_X6_goLikelyWays l D cy ad adK adV r8.1 o0 r10 er10) (gW_goodV hcm qw677 qw674 qw676 qw11 qw61) hdX6_goLikelyWays rfl ⟨Nat.le_of_ble_eq_true rfl, Nat.le_of_ble_eq_true rfl⟩ rfl rfl hZ hK hw g3 (by decide) rfl rfl hl.1 rfl (Nat.le_of_ble_eq_true rfl) ⟨Nat.zero_le _, Nat.zero_le _⟩ dX6_moved_26 (fun H locs hw => ?_)
      refine lv_aload_n hx hb dX6_moved_29 rfl (lv_at hl 0 rfl) ?_
      replace h := bd_some h
      obtain ⟨q11, eq11, h⟩ := h
      refine r_getR hx hb hts iw6 hown hK hw o0 3 g3 (by decide) rfl (by decide) rfl (hq _ qw339) (fun _ h9 => h9) dX6_moved_30 eq11 ?_
      replace h := gd_some h
      obtain ⟨g12, h⟩ := h
      replace h := bd_some h
      obtain ⟨q13, eq13, h⟩ := h
      refine r_getR hx hb hts iw5 hown hK hw q11 4 g12 (by decide) rfl (by decide) rfl (hq _ qw249) (fun _ h9 => h9) dX6_moved_33 eq13 ?_
      refine lv_iload_n hx hb dX6_moved_36 rfl (lv_at hl 1 rfl) ?_
      replace h := gd_some h
      obtain ⟨g14, h⟩ := h
      refine r_lald hx hb hK hw q13 g14 dX6_moved_37 ?_
      refine lv_aload_n hx hb dX6_moved_38 rfl (lv_at hl 0 rfl) ?_
      replace h := bd_some h
      obtain ⟨q15, eq15, h⟩ := h
      refine r_getR hx hb hts iw6 hown hK hw o0 3 g3 (by decide) rfl (by decide) rfl (hq _ qw339) (fun _ h9 => h9) dX6_moved_39 eq15 ?_
      replace h := gd_some h
      obtain ⟨g16, h⟩ := h
      refine r_getL hx hb hts iw5 hown hK hw q15 6 g16 (by decide) rfl (by decide) rfl (hq _ qw252) (fun _ h9 => h9) dX6_moved_42 ?_
      refine lv_iload_n hx hb dX6_moved_45 rfl (lv_at hl 2 rfl) ?_
      replace h := bd_some h
      obtain ⟨r17, er17, h⟩ := h
      refine r_callSl (As := [.long (r10.1.2.1 q13 a1.toNatClampNeg), .long (r10.1.2.1 q15 6), .int a2]) (rest := []) hF (c_X6_inLowestTerms l D cy ad adK adV r10.1 (r10.1.2.1 q13 a1.toNatClampNeg) (r10.1.2.1 q15 6) a2 r17 er17) (gW_goodS hcm qw707 qw705 qw706 qw61) hdX6_inLowestTerms ⟨Nat.le_of_ble_eq_true rfl, Nat.le_of_ble_eq_true rfl⟩ rfl rfl hZ hK hw rfl hl.1 rfl (Nat.le_of_ble_eq_true rfl) ⟨Nat.zero_le _, Nat.zero_le _⟩ dX6_moved_46 (fun H locs hw => ?_)
      exact r_lret hx hb hr hlocks hZ hK hw h dX6_moved_49
    · replace h := if_some_t c9 h
      exact hb18 _ _ h _ _ _ hw (lv_sub hl [0] rfl)
theorem dX6_suppose_0 : decode cX6_suppose 0 = .ok (.iload_n 2, 1) := by decide +kernel
theorem dX6_suppose_1 : decode cX6_suppose 1 = .ok (.tableswitch 70 0 2 #[27, 43, 59], 27) := by decide +kernel
theorem dX6_suppose_28 : decode cX6_suppose 28 = .ok (.aload_n 0, 1) := by decide +kernel
theorem dX6_suppose_29 : decode cX6_suppose 29 = .ok (.getfield 31, 3) := by decide +kernel
theorem dX6_suppose_32 : decode cX6_suppose 32 = .ok (.getfield 74, 3) := by decide +kernel
theorem dX6_suppose_35 : decode cX6_suppose 35 = .ok (.iload_n 1, 1) := by decide +kernel
theorem dX6_suppose_36 : decode cX6_suppose 36 = .ok (.aaload, 1) := by decide +kernel
theorem dX6_suppose_37 : decode cX6_suppose 37 = .ok (.iload_n 3, 1) := by decide +kernel
theorem dX6_suppose_38 : decode cX6_suppose 38 = .ok (.putfield 78, 3) := by decide +kernel
theorem dX6_suppose_41 : decode cX6_suppose 41 = .ok (.goto 39, 3) := by decide +kernel
theorem dX6_suppose_44 : decode cX6_suppose 44 = .ok (.aload_n 0, 1) := by decide +kernel
theorem dX6_suppose_45 : decode cX6_suppose 45 = .ok (.getfield 31, 3) := by decide +kernel
theorem dX6_suppose_48 : decode cX6_suppose 48 = .ok (.getfield 74, 3) := by decide +kernel
theorem dX6_suppose_51 : decode cX6_suppose 51 = .ok (.iload_n 1, 1) := by decide +kernel
theorem dX6_suppose_52 : decode cX6_suppose 52 = .ok (.aaload, 1) := by decide +kernel
theorem dX6_suppose_53 : decode cX6_suppose 53 = .ok (.iload_n 3, 1) := by decide +kernel
theorem dX6_suppose_54 : decode cX6_suppose 54 = .ok (.putfield 86, 3) := by decide +kernel
theorem dX6_suppose_57 : decode cX6_suppose 57 = .ok (.goto 23, 3) := by decide +kernel
theorem dX6_suppose_60 : decode cX6_suppose 60 = .ok (.aload_n 0, 1) := by decide +kernel
theorem dX6_suppose_61 : decode cX6_suppose 61 = .ok (.getfield 31, 3) := by decide +kernel
theorem dX6_suppose_64 : decode cX6_suppose 64 = .ok (.iload_n 3, 1) := by decide +kernel
theorem dX6_suppose_65 : decode cX6_suppose 65 = .ok (.putfield 141, 3) := by decide +kernel
theorem dX6_suppose_68 : decode cX6_suppose 68 = .ok (.goto 12, 3) := by decide +kernel
theorem dX6_suppose_71 : decode cX6_suppose 71 = .ok (.aload_n 0, 1) := by decide +kernel
theorem dX6_suppose_72 : decode cX6_suppose 72 = .ok (.getfield 31, 3) := by decide +kernel
theorem dX6_suppose_75 : decode cX6_suppose 75 = .ok (.iload_n 1, 1) := by decide +kernel
theorem dX6_suppose_76 : decode cX6_suppose 76 = .ok (.iload_n 3, 1) := by decide +kernel
theorem dX6_suppose_77 : decode cX6_suppose 77 = .ok (.invokevirtual 303, 3) := by decide +kernel
theorem dX6_suppose_80 : decode cX6_suppose 80 = .ok (.return_, 1) := by decide +kernel
set_option maxHeartbeats 4000000 in
set_option maxRecDepth 100000 in
theorem c_X6_suppose (l : Launch) (D : va_G) (cy : Nat → ClassId) (ad adK adV : Nat → Nat) (M : Mm) (o0 : Nat) (a1 : Int32) (a2 : Int32) (a3 : Int32) (res : Mm × Unit) (h : f_X6_suppose M o0 a1 a2 a3 = some res) : Met l yX6_suppose (wU yX6_suppose cX6_suppose 4 none) rmX6_suppose (va_Pc [.ref (ad o0), .int a1, .int a2, .int a3] (Pre D cy shX ad nX adK adV M)) (va_Qv (fun (M2 : Mm) => M2 = res.1) (Pre D cy shX ad nX adK adV) (Aw ad nX)) 0 0 (Aw ad nX) := by
  refine Met.ofW (cc := cX6_suppose) (maxL := 4) (ret := none) (by decide) rfl ?_
  intro p e s m args below meth c s₁ B hml hv
  obtain ⟨hargs, hPre⟩ := hv
  have hx := B.exec
  have hb := B.bytes
  have hr := B.returns
  have hts := atoms_spec (ws := wU yX6_suppose cX6_suppose 4 none) B.pre
  have hq : ∀ w ∈ gW, w.before args s = true := fun w hw => hts w (List.mem_cons_of_mem _ hw)
  have hcm : ∀ w ∈ gW, w ∈ wU yX6_suppose cX6_suppose 4 none := fun w hw => List.mem_cons_of_mem _ hw
  have hown : s.vm.findClass RX6 = some m.cls := findClass_of_methodNamed B.named
  have hlocks := B.notSynchronized
  have hF : CallFix p m c cX6_suppose 4 s args (wU yX6_suppose cX6_suppose 4 none) RX6 := ⟨hx, hb, hml, hown, hts⟩
  have hK := hPre.2.1
  have hZ := hPre.2.2.2
  have hw : Wd D cy shX ad nX (Aw ad nX) s.heap M s.heap [] := ⟨hPre.1, hPre.2.2.1, va_S.rf⟩
  have iw1 : ∀ w ∈ u_ws RX1 TX1 11, w ∈ wU yX6_suppose cX6_suppose 4 none := fun w hw => List.mem_cons_of_mem _ (iX1 w hw)
  have iw3 : ∀ w ∈ u_ws RX3 TX3 6, w ∈ wU yX6_suppose cX6_suppose 4 none := fun w hw => List.mem_cons_of_mem _ (iX3 w hw)
  have iw6 : ∀ w ∈ u_ws RX6 TX6 8, w ∈ wU yX6_suppose cX6_suppose 4 none := fun w hw => List.mem_cons_of_mem _ (iX6 w hw)
  rw [show entryFrame m args 4 = entryFrame m ([.ref (ad o0), .int a1, .int a2, .int a3] : List Value).toArray 4 from by rw [hargs]]
  have hl := lv_entry ([.ref (ad o0), .int a1, .int a2, .int a3]) (n := 4) (Nat.le_of_ble_eq_true rfl)
  rw [lg_entry_eq]
  generalize (lg_sl ([.ref (ad o0), .int a1, .int a2, .int a3]) ++ List.replicate (4 - (lg_sl ([.ref (ad o0), .int a1, .int a2, .int a3])).length) Slot.unset).toArray = ls at hl ⊢
  have hl : lv_has ls 4 [(0, .ref (ad o0)), (1, .int a1), (2, .int a2), (3, .int a3)] := hl
  unfold f_X6_suppose at h
  refine lv_iload_n hx hb dX6_suppose_0 rfl (lv_at hl 2 rfl) ?_
  by_cases s1 : a2 = 0
  · replace h := if_some_t s1 h
    refine lv_tableIn (off := 27) (tgt := 28) hx hb dX6_suppose_1 (by rw [s1]; decide) (by rw [s1]; decide) (by rw [s1]; decide) (by decide) ?_
    refine lv_aload_n hx hb dX6_suppose_28 rfl (lv_at hl 0 rfl) ?_
    replace h := gd_some h
    obtain ⟨g2, h⟩ := h
    replace h := bd_some h
    obtain ⟨q3, eq3, h⟩ := h
    refine r_getR hx hb hts iw6 hown hK hw o0 4 g2 (by decide) rfl (by decide) rfl (hq _ qw340) (fun _ h9 => h9) dX6_suppose_29 eq3 ?_
    replace h := gd_some h
    obtain ⟨g4, h⟩ := h
    replace h := bd_some h
    obtain ⟨q5, eq5, h⟩ := h
    refine r_getR hx hb hts iw1 hown hK hw q3 0 g4 (by decide) rfl (by decide) rfl (hq _ qw183) (fun _ h9 => h9) dX6_suppose_32 eq5 ?_
    refine lv_iload_n hx hb dX6_suppose_35 rfl (lv_at hl 1 rfl) ?_
    replace h := gd_some h
    obtain ⟨g6, h⟩ := h
    replace h := bd_some h
    obtain ⟨q7, eq7, h⟩ := h
    refine r_aald hx hb hK hw q5 2 (by decide) rfl g6 dX6_suppose_36 eq7 ?_
    refine lv_iload_n hx hb dX6_suppose_37 rfl (lv_at hl 3 rfl) ?_
    replace h := gd_some h
    obtain ⟨g8, h⟩ := h
    refine r_putI hx hb hts iw3 tyX3 tyX3_ok nmX3 hown hK hw q7 0 g8 (by decide) rfl (by decide) rfl (hq _ qw99) (fun _ h9 => h9) rfl rfl rfl dX6_suppose_38 (fun H locs hw => ?_)
    replace h := lt_some h
    obtain ⟨M9, eM9, h⟩ := h
    rw [← eM9] at hw
    refine lv_goto (tgt := 80) hx hb dX6_suppose_41 (by decide) ?_
    exact r_vret hx hb hr hlocks hZ hK hw h dX6_suppose_80
  replace h := if_some_f s1 h
  by_cases s10 : a2 = 1
  · replace h := if_some_t s10 h
    refine lv_tableIn (off := 43) (tgt := 44) hx hb dX6_suppose_1 (by rw [s10]; decide) (by rw [s10]; decide) (by rw [s10]; decide) (by decide) ?_
    refine lv_aload_n hx hb dX6_suppose_44 rfl (lv_at hl 0 rfl) ?_
    replace h := gd_some h
    obtain ⟨g11, h⟩ := h
    replace h := bd_some h
    obtain ⟨q12, eq12, h⟩ := h
    refine r_getR hx hb hts iw6 hown hK hw o0 4 g11 (by decide) rfl (by decide) rfl (hq _ qw340) (fun _ h9 => h9) dX6_suppose_45 eq12 ?_
    replace h := gd_some h
    obtain ⟨g13, h⟩ := h
    replace h := bd_some h
    obtain ⟨q14, eq14, h⟩ := h
    refine r_getR hx hb hts iw1 hown hK hw q12 0 g13 (by decide) rfl (by decide) rfl (hq _ qw183) (fun _ h9 => h9) dX6_suppose_48 eq14 ?_
    refine lv_iload_n hx hb dX6_suppose_51 rfl (lv_at hl 1 rfl) ?_
    replace h := gd_some h
    obtain ⟨g15, h⟩ := h
    replace h := bd_some h
    obtain ⟨q16, eq16, h⟩ := h
    refine r_aald hx hb hK hw q14 2 (by decide) rfl g15 dX6_suppose_52 eq16 ?_
    refine lv_iload_n hx hb dX6_suppose_53 rfl (lv_at hl 3 rfl) ?_
    replace h := gd_some h
    obtain ⟨g17, h⟩ := h
    refine r_putI hx hb hts iw3 tyX3 tyX3_ok nmX3 hown hK hw q16 2 g17 (by decide) rfl (by decide) rfl (hq _ qw105) (fun _ h9 => h9) rfl rfl rfl dX6_suppose_54 (fun H locs hw => ?_)
    replace h := lt_some h
    obtain ⟨M18, eM18, h⟩ := h
    rw [← eM18] at hw
    refine lv_goto (tgt := 80) hx hb dX6_suppose_57 (by decide) ?_
    exact r_vret hx hb hr hlocks hZ hK hw h dX6_suppose_80
  replace h := if_some_f s10 h
  by_cases s19 : a2 = 2
  · replace h := if_some_t s19 h
    refine lv_tableIn (off := 59) (tgt := 60) hx hb dX6_suppose_1 (by rw [s19]; decide) (by rw [s19]; decide) (by rw [s19]; decide) (by decide) ?_
    refine lv_aload_n hx hb dX6_suppose_60 rfl (lv_at hl 0 rfl) ?_
    replace h := gd_some h
    obtain ⟨g20, h⟩ := h
    replace h := bd_some h
    obtain ⟨q21, eq21, h⟩ := h
    refine r_getR hx hb hts iw6 hown hK hw o0 4 g20 (by decide) rfl (by decide) rfl (hq _ qw340) (fun _ h9 => h9) dX6_suppose_61 eq21 ?_
    refine lv_iload_n hx hb dX6_suppose_64 rfl (lv_at hl 3 rfl) ?_
    replace h := gd_some h
    obtain ⟨g22, h⟩ := h
    refine r_putI hx hb hts iw1 tyX1 tyX1_ok nmX1 hown hK hw q21 6 g22 (by decide) rfl (by decide) rfl (hq _ qw203) (fun _ h9 => h9) rfl rfl rfl dX6_suppose_65 (fun H locs hw => ?_)
    replace h := lt_some h
    obtain ⟨M23, eM23, h⟩ := h
    rw [← eM23] at hw
    refine lv_goto (tgt := 80) hx hb dX6_suppose_68 (by decide) ?_
    exact r_vret hx hb hr hlocks hZ hK hw h dX6_suppose_80
  replace h := if_some_f s19 h
  have hout28 : a2.toInt < 0 ∨ 2 < a2.toInt := by
    refine tsw_out (fun cz h1 h2 => ?_)
    rcases (show cz = 0 ∨ cz = 1 ∨ cz = 2 by omega) with rfl | rfl | rfl
    · exact fun e9 => s1 (e9.trans (by decide))
    · exact fun e9 => s10 (e9.trans (by decide))
    · exact fun e9 => s19 (e9.trans (by decide))
  refine lv_tableOut (tgt := 71) hx hb dX6_suppose_1 hout28 (by decide) ?_
  refine lv_aload_n hx hb dX6_suppose_71 rfl (lv_at hl 0 rfl) ?_
  replace h := gd_some h
  obtain ⟨g24, h⟩ := h
  replace h := bd_some h
  obtain ⟨q25, eq25, h⟩ := h
  refine r_getR hx hb hts iw6 hown hK hw o0 4 g24 (by decide) rfl (by decide) rfl (hq _ qw340) (fun _ h9 => h9) dX6_suppose_72 eq25 ?_
  refine lv_iload_n hx hb dX6_suppose_75 rfl (lv_at hl 1 rfl) ?_
  refine lv_iload_n hx hb dX6_suppose_76 rfl (lv_at hl 3 rfl) ?_
  replace h := gd_some h
  obtain ⟨g27, h⟩ := h
  replace h := bd_some h
  obtain ⟨r26, er26, h⟩ := h
  refine r_callVv (As := [.int a1, .int a3]) (rest := []) hF (c_X1_force l D cy ad adK adV M q25 a1 a3 r26 er26) (gW_goodV hcm qw748 qw745 qw746 qw747 qw62) hdX1_force rfl ⟨Nat.le_of_ble_eq_true rfl, Nat.le_of_ble_eq_true rfl⟩ rfl rfl hZ hK hw g27 (by decide) rfl rfl hl.1 rfl (Nat.le_of_ble_eq_true rfl) ⟨Nat.zero_le _, Nat.zero_le _⟩ dX6_suppose_77 (fun H locs hw => ?_)
  exact r_vret hx hb hr hlocks hZ hK hw h dX6_suppose_80

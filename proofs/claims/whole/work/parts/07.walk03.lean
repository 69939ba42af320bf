theorem dX4_kindOfWord_0 : decode cX4_kindOfWord 0 = .ok (.aload_n 0, 1) := by decide +kernel
theorem dX4_kindOfWord_1 : decode cX4_kindOfWord 1 = .ok (.ldc 97, 2) := by decide +kernel
theorem dX4_kindOfWord_3 : decode cX4_kindOfWord 3 = .ok (.invokevirtual 48, 3) := by decide +kernel
theorem dX4_kindOfWord_6 : decode cX4_kindOfWord 6 = .ok (.ifCond .eq 5, 3) := by decide +kernel
theorem dX4_kindOfWord_9 : decode cX4_kindOfWord 9 = .ok (.iconst 0, 1) := by decide +kernel
theorem dX4_kindOfWord_10 : decode cX4_kindOfWord 10 = .ok (.ireturn, 1) := by decide +kernel
theorem dX4_kindOfWord_11 : decode cX4_kindOfWord 11 = .ok (.aload_n 0, 1) := by decide +kernel
theorem dX4_kindOfWord_12 : decode cX4_kindOfWord 12 = .ok (.ldc 99, 2) := by decide +kernel
theorem dX4_kindOfWord_14 : decode cX4_kindOfWord 14 = .ok (.invokevirtual 48, 3) := by decide +kernel
theorem dX4_kindOfWord_17 : decode cX4_kindOfWord 17 = .ok (.ifCond .eq 5, 3) := by decide +kernel
theorem dX4_kindOfWord_20 : decode cX4_kindOfWord 20 = .ok (.iconst 1, 1) := by decide +kernel
theorem dX4_kindOfWord_21 : decode cX4_kindOfWord 21 = .ok (.ireturn, 1) := by decide +kernel
theorem dX4_kindOfWord_22 : decode cX4_kindOfWord 22 = .ok (.aload_n 0, 1) := by decide +kernel
theorem dX4_kindOfWord_23 : decode cX4_kindOfWord 23 = .ok (.ldc 101, 2) := by decide +kernel
theorem dX4_kindOfWord_25 : decode cX4_kindOfWord 25 = .ok (.invokevirtual 48, 3) := by decide +kernel
theorem dX4_kindOfWord_28 : decode cX4_kindOfWord 28 = .ok (.ifCond .eq 5, 3) := by decide +kernel
theorem dX4_kindOfWord_31 : decode cX4_kindOfWord 31 = .ok (.iconst 2, 1) := by decide +kernel
theorem dX4_kindOfWord_32 : decode cX4_kindOfWord 32 = .ok (.ireturn, 1) := by decide +kernel
theorem dX4_kindOfWord_33 : decode cX4_kindOfWord 33 = .ok (.aload_n 0, 1) := by decide +kernel
theorem dX4_kindOfWord_34 : decode cX4_kindOfWord 34 = .ok (.ldc 103, 2) := by decide +kernel
theorem dX4_kindOfWord_36 : decode cX4_kindOfWord 36 = .ok (.invokevirtual 48, 3) := by decide +kernel
theorem dX4_kindOfWord_39 : decode cX4_kindOfWord 39 = .ok (.ifCond .eq 5, 3) := by decide +kernel
theorem dX4_kindOfWord_42 : decode cX4_kindOfWord 42 = .ok (.iconst 3, 1) := by decide +kernel
theorem dX4_kindOfWord_43 : decode cX4_kindOfWord 43 = .ok (.ireturn, 1) := by decide +kernel
theorem dX4_kindOfWord_44 : decode cX4_kindOfWord 44 = .ok (.aload_n 0, 1) := by decide +kernel
theorem dX4_kindOfWord_45 : decode cX4_kindOfWord 45 = .ok (.ldc 105, 2) := by decide +kernel
theorem dX4_kindOfWord_47 : decode cX4_kindOfWord 47 = .ok (.invokevirtual 48, 3) := by decide +kernel
theorem dX4_kindOfWord_50 : decode cX4_kindOfWord 50 = .ok (.ifCond .eq 5, 3) := by decide +kernel
theorem dX4_kindOfWord_53 : decode cX4_kindOfWord 53 = .ok (.iconst 4, 1) := by decide +kernel
theorem dX4_kindOfWord_54 : decode cX4_kindOfWord 54 = .ok (.ireturn, 1) := by decide +kernel
theorem dX4_kindOfWord_55 : decode cX4_kindOfWord 55 = .ok (.aload_n 0, 1) := by decide +kernel
theorem dX4_kindOfWord_56 : decode cX4_kindOfWord 56 = .ok (.ldc 107, 2) := by decide +kernel
theorem dX4_kindOfWord_58 : decode cX4_kindOfWord 58 = .ok (.invokevirtual 48, 3) := by decide +kernel
theorem dX4_kindOfWord_61 : decode cX4_kindOfWord 61 = .ok (.ifCond .eq 5, 3) := by decide +kernel
theorem dX4_kindOfWord_64 : decode cX4_kindOfWord 64 = .ok (.iconst 5, 1) := by decide +kernel
theorem dX4_kindOfWord_65 : decode cX4_kindOfWord 65 = .ok (.ireturn, 1) := by decide +kernel
theorem dX4_kindOfWord_66 : decode cX4_kindOfWord 66 = .ok (.aload_n 0, 1) := by decide +kernel
theorem dX4_kindOfWord_67 : decode cX4_kindOfWord 67 = .ok (.ldc 109, 2) := by decide +kernel
theorem dX4_kindOfWord_69 : decode cX4_kindOfWord 69 = .ok (.invokevirtual 48, 3) := by decide +kernel
theorem dX4_kindOfWord_72 : decode cX4_kindOfWord 72 = .ok (.ifCond .eq 8, 3) := by decide +kernel
theorem dX4_kindOfWord_75 : decode cX4_kindOfWord 75 = .ok (.bipush 6, 2) := by decide +kernel
theorem dX4_kindOfWord_77 : decode cX4_kindOfWord 77 = .ok (.goto 4, 3) := by decide +kernel
theorem dX4_kindOfWord_80 : decode cX4_kindOfWord 80 = .ok (.iconst (-1), 1) := by decide +kernel
theorem dX4_kindOfWord_81 : decode cX4_kindOfWord 81 = .ok (.ireturn, 1) := by decide +kernel
set_option maxHeartbeats 4000000 in
set_option maxRecDepth 100000 in
theorem c_X4_kindOfWord (l : Launch) (D : va_G) (cy : Nat → ClassId) (ad adK adV : Nat → Nat) (M : Mm) (o0 : Nat) (res : Mm × Int32) (h : f_X4_kindOfWord M o0 = some res) : Met l yX4_kindOfWord (wU yX4_kindOfWord cX4_kindOfWord 1 (some .int)) rmX4_kindOfWord (va_Pc [.ref (ad o0)] (Pre D cy shX ad nX adK adV M)) (va_Qi (fun r (M2 : Mm) => r = res.2 ∧ M2 = res.1) (Pre D cy shX ad nX adK adV) (Aw ad nX)) 0 0 (Aw ad nX) := by
  refine Met.ofW (cc := cX4_kindOfWord) (maxL := 1) (ret := (some .int)) (by decide) rfl ?_
  intro p e s m args below meth c s₁ B hml hv
  obtain ⟨hargs, hPre⟩ := hv
  have hx := B.exec
  have hb := B.bytes
  have hr := B.returns
  have hts := atoms_spec (ws := wU yX4_kindOfWord cX4_kindOfWord 1 (some .int)) B.pre
  have hq : ∀ w ∈ gW, w.before args s = true := fun w hw => hts w (List.mem_cons_of_mem _ hw)
  have hcm : ∀ w ∈ gW, w ∈ wU yX4_kindOfWord cX4_kindOfWord 1 (some .int) := fun w hw => List.mem_cons_of_mem _ hw
  have hown : s.vm.findClass RX4 = some m.cls := findClass_of_methodNamed B.named
  have hlocks := B.notSynchronized
  have hF : CallFix p m c cX4_kindOfWord 1 s args (wU yX4_kindOfWord cX4_kindOfWord 1 (some .int)) RX4 := ⟨hx, hb, hml, hown, hts⟩
  have hK := hPre.2.1
  have hZ := hPre.2.2.2
  have hw : Wd D cy shX ad nX (Aw ad nX) s.heap M s.heap [] := ⟨hPre.1, hPre.2.2.1, va_S.rf⟩
  rw [show entryFrame m args 1 = entryFrame m ([.ref (ad o0)] : List Value).toArray 1 from by rw [hargs]]
  have hl := lv_entry ([.ref (ad o0)]) (n := 1) (Nat.le_of_ble_eq_true rfl)
  rw [lg_entry_eq]
  generalize (lg_sl ([.ref (ad o0)]) ++ List.replicate (1 - (lg_sl ([.ref (ad o0)])).length) Slot.unset).toArray = ls at hl ⊢
  have hl : lv_has ls 1 [(0, .ref (ad o0))] := hl
  unfold f_X4_kindOfWord at h
  refine lv_aload_n hx hb dX4_kindOfWord_0 rfl (lv_at hl 0 rfl) ?_
  refine va_ldcS (own := RX4) (tx := "side") (index := 97) (q := adK 0) hx hb hown (hZ.str stm0) dX4_kindOfWord_1 ?_
  replace h := gd_some h
  obtain ⟨g2, h⟩ := h
  replace h := bd_some h
  obtain ⟨r1, er1, h⟩ := h
  refine r_callVi (As := [.ref (adK 0)]) (rest := []) hF (c_X4_isWord l D cy ad adK adV M o0 0 r1 er1) (gW_goodV hcm qw502 qw499 qw501 qw5 qw65) hdX4_isWord rfl ⟨Nat.le_of_ble_eq_true rfl, Nat.le_of_ble_eq_true rfl⟩ rfl rfl hZ hK hw g2 (by decide) rfl rfl hl.1 rfl (Nat.le_of_ble_eq_true rfl) ⟨Nat.zero_le _, Nat.zero_le _⟩ dX4_kindOfWord_3 (fun H locs hw => ?_)
  refine lv_if_eq (tgt := 11) hx hb dX4_kindOfWord_6 (by decide) (fun c3 => ?_) (fun c3 => ?_)
  · replace h := if_some_t c3 h
    refine lv_aload_n hx hb dX4_kindOfWord_11 rfl (lv_at hl 0 rfl) ?_
    refine va_ldcS (own := RX4) (tx := "try") (index := 99) (q := adK 1) hx hb hown (hZ.str stm1) dX4_kindOfWord_12 ?_
    replace h := bd_some h
    obtain ⟨r4, er4, h⟩ := h
    refine r_callVi (As := [.ref (adK 1)]) (rest := []) hF (c_X4_isWord l D cy ad adK adV r1.1 o0 1 r4 er4) (gW_goodV hcm qw502 qw499 qw501 qw5 qw65) hdX4_isWord rfl ⟨Nat.le_of_ble_eq_true rfl, Nat.le_of_ble_eq_true rfl⟩ rfl rfl hZ hK hw g2 (by decide) rfl rfl hl.1 rfl (Nat.le_of_ble_eq_true rfl) ⟨Nat.zero_le _, Nat.zero_le _⟩ dX4_kindOfWord_14 (fun H locs hw => ?_)
    refine lv_if_eq (tgt := 22) hx hb dX4_kindOfWord_17 (by decide) (fun c5 => ?_) (fun c5 => ?_)
    · replace h := if_some_t c5 h
      refine lv_aload_n hx hb dX4_kindOfWord_22 rfl (lv_at hl 0 rfl) ?_
      refine va_ldcS (own := RX4) (tx := "spare") (index := 101) (q := adK 2) hx hb hown (hZ.str stm2) dX4_kindOfWord_23 ?_
      replace h := bd_some h
      obtain ⟨r6, er6, h⟩ := h
      refine r_callVi (As := [.ref (adK 2)]) (rest := []) hF (c_X4_isWord l D cy ad adK adV r4.1 o0 2 r6 er6) (gW_goodV hcm qw502 qw499 qw501 qw5 qw65) hdX4_isWord rfl ⟨Nat.le_of_ble_eq_true rfl, Nat.le_of_ble_eq_true rfl⟩ rfl rfl hZ hK hw g2 (by decide) rfl rfl hl.1 rfl (Nat.le_of_ble_eq_true rfl) ⟨Nat.zero_le _, Nat.zero_le _⟩ dX4_kindOfWord_25 (fun H locs hw => ?_)
      refine lv_if_eq (tgt := 33) hx hb dX4_kindOfWord_28 (by decide) (fun c7 => ?_) (fun c7 => ?_)
      · replace h := if_some_t c7 h
        refine lv_aload_n hx hb dX4_kindOfWord_33 rfl (lv_at hl 0 rfl) ?_
        refine va_ldcS (own := RX4) (tx := "choose") (index := 103) (q := adK 3) hx hb hown (hZ.str stm3) dX4_kindOfWord_34 ?_
        replace h := bd_some h
        obtain ⟨r8, er8, h⟩ := h
        refine r_callVi (As := [.ref (adK 3)]) (rest := []) hF (c_X4_isWord l D cy ad adK adV r6.1 o0 3 r8 er8) (gW_goodV hcm qw502 qw499 qw501 qw5 qw65) hdX4_isWord rfl ⟨Nat.le_of_ble_eq_true rfl, Nat.le_of_ble_eq_true rfl⟩ rfl rfl hZ hK hw g2 (by decide) rfl rfl hl.1 rfl (Nat.le_of_ble_eq_true rfl) ⟨Nat.zero_le _, Nat.zero_le _⟩ dX4_kindOfWord_36 (fun H locs hw => ?_)
        refine lv_if_eq (tgt := 44) hx hb dX4_kindOfWord_39 (by decide) (fun c9 => ?_) (fun c9 => ?_)
        · replace h := if_some_t c9 h
          refine lv_aload_n hx hb dX4_kindOfWord_44 rfl (lv_at hl 0 rfl) ?_
          refine va_ldcS (own := RX4) (tx := "feed") (index := 105) (q := adK 4) hx hb hown (hZ.str stm4) dX4_kindOfWord_45 ?_
          replace h := bd_some h
          obtain ⟨r10, er10, h⟩ := h
          refine r_callVi (As := [.ref (adK 4)]) (rest := []) hF (c_X4_isWord l D cy ad adK adV r8.1 o0 4 r10 er10) (gW_goodV hcm qw502 qw499 qw501 qw5 qw65) hdX4_isWord rfl ⟨Nat.le_of_ble_eq_true rfl, Nat.le_of_ble_eq_true rfl⟩ rfl rfl hZ hK hw g2 (by decide) rfl rfl hl.1 rfl (Nat.le_of_ble_eq_true rfl) ⟨Nat.zero_le _, Nat.zero_le _⟩ dX4_kindOfWord_47 (fun H locs hw => ?_)
          refine lv_if_eq (tgt := 55) hx hb dX4_kindOfWord_50 (by decide) (fun c11 => ?_) (fun c11 => ?_)
          · replace h := if_some_t c11 h
            refine lv_aload_n hx hb dX4_kindOfWord_55 rfl (lv_at hl 0 rfl) ?_
            refine va_ldcS (own := RX4) (tx := "bar") (index := 107) (q := adK 5) hx hb hown (hZ.str stm5) dX4_kindOfWord_56 ?_
            replace h := bd_some h
            obtain ⟨r12, er12, h⟩ := h
            refine r_callVi (As := [.ref (adK 5)]) (rest := []) hF (c_X4_isWord l D cy ad adK adV r10.1 o0 5 r12 er12) (gW_goodV hcm qw502 qw499 qw501 qw5 qw65) hdX4_isWord rfl ⟨Nat.le_of_ble_eq_true rfl, Nat.le_of_ble_eq_true rfl⟩ rfl rfl hZ hK hw g2 (by decide) rfl rfl hl.1 rfl (Nat.le_of_ble_eq_true rfl) ⟨Nat.zero_le _, Nat.zero_le _⟩ dX4_kindOfWord_58 (fun H locs hw => ?_)
            refine lv_if_eq (tgt := 66) hx hb dX4_kindOfWord_61 (by decide) (fun c13 => ?_) (fun c13 => ?_)
            · replace h := if_some_t c13 h
              refine lv_aload_n hx hb dX4_kindOfWord_66 rfl (lv_at hl 0 rfl) ?_
              refine va_ldcS (own := RX4) (tx := "told") (index := 109) (q := adK 6) hx hb hown (hZ.str stm6) dX4_kindOfWord_67 ?_
              replace h := bd_some h
              obtain ⟨r14, er14, h⟩ := h
              refine r_callVi (As := [.ref (adK 6)]) (rest := []) hF (c_X4_isWord l D cy ad adK adV r12.1 o0 6 r14 er14) (gW_goodV hcm qw502 qw499 qw501 qw5 qw65) hdX4_isWord rfl ⟨Nat.le_of_ble_eq_true rfl, Nat.le_of_ble_eq_true rfl⟩ rfl rfl hZ hK hw g2 (by decide) rfl rfl hl.1 rfl (Nat.le_of_ble_eq_true rfl) ⟨Nat.zero_le _, Nat.zero_le _⟩ dX4_kindOfWord_69 (fun H locs hw => ?_)
              refine lv_if_eq (tgt := 80) hx hb dX4_kindOfWord_72 (by decide) (fun c15 => ?_) (fun c15 => ?_)
              · replace h := if_some_t c15 h
                refine lv_iconst (v := (-1 : Int32)) hx hb dX4_kindOfWord_80 (by decide) ?_
                exact r_iret hx hb hr rfl hlocks hZ hK hw h dX4_kindOfWord_81
              · replace h := if_some_f c15 h
                refine lv_bipush (v := (6 : Int32)) hx hb dX4_kindOfWord_75 (by decide) ?_
                refine lv_goto (tgt := 81) hx hb dX4_kindOfWord_77 (by decide) ?_
                exact r_iret hx hb hr rfl hlocks hZ hK hw h dX4_kindOfWord_81
            · replace h := if_some_f c13 h
              refine lv_iconst (v := (5 : Int32)) hx hb dX4_kindOfWord_64 (by decide) ?_
              exact r_iret hx hb hr rfl hlocks hZ hK hw h dX4_kindOfWord_65
          · replace h := if_some_f c11 h
            refine lv_iconst (v := (4 : Int32)) hx hb dX4_kindOfWord_53 (by decide) ?_
            exact r_iret hx hb hr rfl hlocks hZ hK hw h dX4_kindOfWord_54
        · replace h := if_some_f c9 h
          refine lv_iconst (v := (3 : Int32)) hx hb dX4_kindOfWord_42 (by decide) ?_
          exact r_iret hx hb hr rfl hlocks hZ hK hw h dX4_kindOfWord_43
      · replace h := if_some_f c7 h
        refine lv_iconst (v := (2 : Int32)) hx hb dX4_kindOfWord_31 (by decide) ?_
        exact r_iret hx hb hr rfl hlocks hZ hK hw h dX4_kindOfWord_32
    · replace h := if_some_f c5 h
      refine lv_iconst (v := (1 : Int32)) hx hb dX4_kindOfWord_20 (by decide) ?_
      exact r_iret hx hb hr rfl hlocks hZ hK hw h dX4_kindOfWord_21
  · replace h := if_some_f c3 h
    refine lv_iconst (v := (0 : Int32)) hx hb dX4_kindOfWord_9 (by decide) ?_
    exact r_iret hx hb hr rfl hlocks hZ hK hw h dX4_kindOfWord_10
theorem dX4_isNumber_0 : decode cX4_isNumber 0 = .ok (.aload_n 0, 1) := by decide +kernel
theorem dX4_isNumber_1 : decode cX4_isNumber 1 = .ok (.getfield 19, 3) := by decide +kernel
theorem dX4_isNumber_4 : decode cX4_isNumber 4 = .ok (.iconst 2, 1) := by decide +kernel
theorem dX4_isNumber_5 : decode cX4_isNumber 5 = .ok (.if_icmp .ne 23, 3) := by decide +kernel
theorem dX4_isNumber_8 : decode cX4_isNumber 8 = .ok (.aload_n 0, 1) := by decide +kernel
theorem dX4_isNumber_9 : decode cX4_isNumber 9 = .ok (.getfield 28, 3) := by decide +kernel
theorem dX4_isNumber_12 : decode cX4_isNumber 12 = .ok (.iload_n 1, 1) := by decide +kernel
theorem dX4_isNumber_13 : decode cX4_isNumber 13 = .ok (.if_icmp .lt 15, 3) := by decide +kernel
theorem dX4_isNumber_16 : decode cX4_isNumber 16 = .ok (.aload_n 0, 1) := by decide +kernel
theorem dX4_isNumber_17 : decode cX4_isNumber 17 = .ok (.getfield 28, 3) := by decide +kernel
theorem dX4_isNumber_20 : decode cX4_isNumber 20 = .ok (.iload_n 2, 1) := by decide +kernel
theorem dX4_isNumber_21 : decode cX4_isNumber 21 = .ok (.if_icmp .gt 7, 3) := by decide +kernel
theorem dX4_isNumber_24 : decode cX4_isNumber 24 = .ok (.iconst 1, 1) := by decide +kernel
theorem dX4_isNumber_25 : decode cX4_isNumber 25 = .ok (.goto 4, 3) := by decide +kernel
theorem dX4_isNumber_28 : decode cX4_isNumber 28 = .ok (.iconst 0, 1) := by decide +kernel
theorem dX4_isNumber_29 : decode cX4_isNumber 29 = .ok (.ireturn, 1) := by decide +kernel
set_option maxHeartbeats 4000000 in
set_option maxRecDepth 100000 in
theorem c_X4_isNumber (l : Launch) (D : va_G) (cy : Nat → ClassId) (ad adK adV : Nat → Nat) (M : Mm) (o0 : Nat) (a1 : Int32) (a2 : Int32) (res : Mm × Int32) (h : f_X4_isNumber M o0 a1 a2 = some res) : Met l yX4_isNumber (wU yX4_isNumber cX4_isNumber 3 (some .boolean)) rmX4_isNumber (va_Pc [.ref (ad o0), .int a1, .int a2] (Pre D cy shX ad nX adK adV M)) (va_Qi (fun r (M2 : Mm) => r = res.2 ∧ M2 = res.1) (Pre D cy shX ad nX adK adV) (Aw ad nX)) 0 0 (Aw ad nX) := by
  refine Met.ofW (cc := cX4_isNumber) (maxL := 3) (ret := (some .boolean)) (by decide) rfl ?_
  intro p e s m args below meth c s₁ B hml hv
  obtain ⟨hargs, hPre⟩ := hv
  have hx := B.exec
  have hb := B.bytes
  have hr := B.returns
  have hts := atoms_spec (ws := wU yX4_isNumber cX4_isNumber 3 (some .boolean)) B.pre
  have hq : ∀ w ∈ gW, w.before args s = true := fun w hw => hts w (List.mem_cons_of_mem _ hw)
  have hcm : ∀ w ∈ gW, w ∈ wU yX4_isNumber cX4_isNumber 3 (some .boolean) := fun w hw => List.mem_cons_of_mem _ hw
  have hown : s.vm.findClass RX4 = some m.cls := findClass_of_methodNamed B.named
  have hlocks := B.notSynchronized
  have hF : CallFix p m c cX4_isNumber 3 s args (wU yX4_isNumber cX4_isNumber 3 (some .boolean)) RX4 := ⟨hx, hb, hml, hown, hts⟩
  have hK := hPre.2.1
  have hZ := hPre.2.2.2
  have hw : Wd D cy shX ad nX (Aw ad nX) s.heap M s.heap [] := ⟨hPre.1, hPre.2.2.1, va_S.rf⟩
  have iw4 : ∀ w ∈ u_ws RX4 TX4 6, w ∈ wU yX4_isNumber cX4_isNumber 3 (some .boolean) := fun w hw => List.mem_cons_of_mem _ (iX4 w hw)
  rw [show entryFrame m args 3 = entryFrame m ([.ref (ad o0), .int a1, .int a2] : List Value).toArray 3 from by rw [hargs]]
  have hl := lv_entry ([.ref (ad o0), .int a1, .int a2]) (n := 3) (Nat.le_of_ble_eq_true rfl)
  rw [lg_entry_eq]
  generalize (lg_sl ([.ref (ad o0), .int a1, .int a2]) ++ List.replicate (3 - (lg_sl ([.ref (ad o0), .int a1, .int a2])).length) Slot.unset).toArray = ls at hl ⊢
  have hl : lv_has ls 3 [(0, .ref (ad o0)), (1, .int a1), (2, .int a2)] := hl
  unfold f_X4_isNumber at h
  refine lv_aload_n hx hb dX4_isNumber_0 rfl (lv_at hl 0 rfl) ?_
  replace h := gd_some h
  obtain ⟨g1, h⟩ := h
  refine r_getI hx hb hts iw4 hown hK hw o0 2 g1 (by decide) rfl (by decide) rfl (hq _ qw298) (fun _ h9 => h9) dX4_isNumber_1 ?_
  refine lv_iconst (v := (2 : Int32)) hx hb dX4_isNumber_4 (by decide) ?_
  refine lv_icmp_ne (tgt := 28) hx hb dX4_isNumber_5 (by decide) (fun c2 => ?_) (fun c2 => ?_)
  · replace h := if_some_f c2 h
    refine lv_iconst (v := (0 : Int32)) hx hb dX4_isNumber_28 (by decide) ?_
    exact r_iret hx hb hr rfl hlocks hZ hK hw h dX4_isNumber_29
  · replace h := if_some_t c2 h
    refine lv_aload_n hx hb dX4_isNumber_8 rfl (lv_at hl 0 rfl) ?_
    refine r_getI hx hb hts iw4 hown hK hw o0 5 g1 (by decide) rfl (by decide) rfl (hq _ qw301) (fun _ h9 => h9) dX4_isNumber_9 ?_
    refine lv_iload_n hx hb dX4_isNumber_12 rfl (lv_at hl 1 rfl) ?_
    refine lv_icmp_lt (tgt := 28) hx hb dX4_isNumber_13 (by decide) (fun c3 => ?_) (fun c3 => ?_)
    · replace h := if_some_t c3 h
      refine lv_iconst (v := (0 : Int32)) hx hb dX4_isNumber_28 (by decide) ?_
      exact r_iret hx hb hr rfl hlocks hZ hK hw h dX4_isNumber_29
    · replace h := if_some_f c3 h
      refine lv_aload_n hx hb dX4_isNumber_16 rfl (lv_at hl 0 rfl) ?_
      refine r_getI hx hb hts iw4 hown hK hw o0 5 g1 (by decide) rfl (by decide) rfl (hq _ qw301) (fun _ h9 => h9) dX4_isNumber_17 ?_
      refine lv_iload_n hx hb dX4_isNumber_20 rfl (lv_at hl 2 rfl) ?_
      refine lv_icmp_gt (tgt := 28) hx hb dX4_isNumber_21 (by decide) (fun c4 => ?_) (fun c4 => ?_)
      · replace h := if_some_t c4 h
        refine lv_iconst (v := (0 : Int32)) hx hb dX4_isNumber_28 (by decide) ?_
        exact r_iret hx hb hr rfl hlocks hZ hK hw h dX4_isNumber_29
      · replace h := if_some_f c4 h
        refine lv_iconst (v := (1 : Int32)) hx hb dX4_isNumber_24 (by decide) ?_
        refine lv_goto (tgt := 29) hx hb dX4_isNumber_25 (by decide) ?_
        exact r_iret hx hb hr rfl hlocks hZ hK hw h dX4_isNumber_29
theorem dX4_readPerhaps_0 : decode cX4_readPerhaps 0 = .ok (.aload_n 0, 1) := by decide +kernel
theorem dX4_readPerhaps_1 : decode cX4_readPerhaps 1 = .ok (.aload_n 1, 1) := by decide +kernel
theorem dX4_readPerhaps_2 : decode cX4_readPerhaps 2 = .ok (.invokevirtual 48, 3) := by decide +kernel
theorem dX4_readPerhaps_5 : decode cX4_readPerhaps 5 = .ok (.ifCond .ne 6, 3) := by decide +kernel
theorem dX4_readPerhaps_8 : decode cX4_readPerhaps 8 = .ok (.iload 4, 2) := by decide +kernel
theorem dX4_readPerhaps_10 : decode cX4_readPerhaps 10 = .ok (.ireturn, 1) := by decide +kernel
theorem dX4_readPerhaps_11 : decode cX4_readPerhaps 11 = .ok (.aload_n 0, 1) := by decide +kernel
theorem dX4_readPerhaps_12 : decode cX4_readPerhaps 12 = .ok (.invokevirtual 31, 3) := by decide +kernel
theorem dX4_readPerhaps_15 : decode cX4_readPerhaps 15 = .ok (.aload_n 0, 1) := by decide +kernel
theorem dX4_readPerhaps_16 : decode cX4_readPerhaps 16 = .ok (.iload_n 2, 1) := by decide +kernel
theorem dX4_readPerhaps_17 : decode cX4_readPerhaps 17 = .ok (.iload_n 3, 1) := by decide +kernel
theorem dX4_readPerhaps_18 : decode cX4_readPerhaps 18 = .ok (.invokevirtual 65, 3) := by decide +kernel
theorem dX4_readPerhaps_21 : decode cX4_readPerhaps 21 = .ok (.ifCond .ne 5, 3) := by decide +kernel
theorem dX4_readPerhaps_24 : decode cX4_readPerhaps 24 = .ok (.iconst (-1), 1) := by decide +kernel
theorem dX4_readPerhaps_25 : decode cX4_readPerhaps 25 = .ok (.ireturn, 1) := by decide +kernel
theorem dX4_readPerhaps_26 : decode cX4_readPerhaps 26 = .ok (.aload_n 0, 1) := by decide +kernel
theorem dX4_readPerhaps_27 : decode cX4_readPerhaps 27 = .ok (.getfield 28, 3) := by decide +kernel
theorem dX4_readPerhaps_30 : decode cX4_readPerhaps 30 = .ok (.istore 5, 2) := by decide +kernel
theorem dX4_readPerhaps_32 : decode cX4_readPerhaps 32 = .ok (.aload_n 0, 1) := by decide +kernel
theorem dX4_readPerhaps_33 : decode cX4_readPerhaps 33 = .ok (.invokevirtual 31, 3) := by decide +kernel
theorem dX4_readPerhaps_36 : decode cX4_readPerhaps 36 = .ok (.iload 5, 2) := by decide +kernel
theorem dX4_readPerhaps_38 : decode cX4_readPerhaps 38 = .ok (.ireturn, 1) := by decide +kernel
set_option maxHeartbeats 4000000 in
set_option maxRecDepth 100000 in
theorem c_X4_readPerhaps (l : Launch) (D : va_G) (cy : Nat → ClassId) (ad adK adV : Nat → Nat) (M : Mm) (o0 : Nat) (a1 : Nat) (a2 : Int32) (a3 : Int32) (a4 : Int32) (res : Mm × Int32) (h : f_X4_readPerhaps M o0 a1 a2 a3 a4 = some res) : Met l yX4_readPerhaps (wU yX4_readPerhaps cX4_readPerhaps 6 (some .int)) rmX4_readPerhaps (va_Pc [.ref (ad o0), .ref (adK a1), .int a2, .int a3, .int a4] (Pre D cy shX ad nX adK adV M)) (va_Qi (fun r (M2 : Mm) => r = res.2 ∧ M2 = res.1) (Pre D cy shX ad nX adK adV) (Aw ad nX)) 0 0 (Aw ad nX) := by
  refine Met.ofW (cc := cX4_readPerhaps) (maxL := 6) (ret := (some .int)) (by decide) rfl ?_
  intro p e s m args below meth c s₁ B hml hv
  obtain ⟨hargs, hPre⟩ := hv
  have hx := B.exec
  have hb := B.bytes
  have hr := B.returns
  have hts := atoms_spec (ws := wU yX4_readPerhaps cX4_readPerhaps 6 (some .int)) B.pre
  have hq : ∀ w ∈ gW, w.before args s = true := fun w hw => hts w (List.mem_cons_of_mem _ hw)
  have hcm : ∀ w ∈ gW, w ∈ wU yX4_readPerhaps cX4_readPerhaps 6 (some .int) := fun w hw => List.mem_cons_of_mem _ hw
  have hown : s.vm.findClass RX4 = some m.cls := findClass_of_methodNamed B.named
  have hlocks := B.notSynchronized
  have hF : CallFix p m c cX4_readPerhaps 6 s args (wU yX4_readPerhaps cX4_readPerhaps 6 (some .int)) RX4 := ⟨hx, hb, hml, hown, hts⟩
  have hK := hPre.2.1
  have hZ := hPre.2.2.2
  have hw : Wd D cy shX ad nX (Aw ad nX) s.heap M s.heap [] := ⟨hPre.1, hPre.2.2.1, va_S.rf⟩
  have iw4 : ∀ w ∈ u_ws RX4 TX4 6, w ∈ wU yX4_readPerhaps cX4_readPerhaps 6 (some .int) := fun w hw => List.mem_cons_of_mem _ (iX4 w hw)
  rw [show entryFrame m args 6 = entryFrame m ([.ref (ad o0), .ref (adK a1), .int a2, .int a3, .int a4] : List Value).toArray 6 from by rw [hargs]]
  have hl := lv_entry ([.ref (ad o0), .ref (adK a1), .int a2, .int a3, .int a4]) (n := 6) (Nat.le_of_ble_eq_true rfl)
  rw [lg_entry_eq]
  generalize (lg_sl ([.ref (ad o0), .ref (adK a1), .int a2, .int a3, .int a4]) ++ List.replicate (6 - (lg_sl ([.ref (ad o0), .ref (adK a1), .int a2, .int a3, .int a4])).length) Slot.unset).toArray = ls at hl ⊢
  have hl : lv_has ls 6 [(0, .ref (ad o0)), (1, .ref (adK a1)), (2, .int a2), (3, .int a3), (4, .int a4)] := hl
  unfold f_X4_readPerhaps at h
  refine lv_aload_n hx hb dX4_readPerhaps_0 rfl (lv_at hl 0 rfl) ?_
  refine lv_aload_n hx hb dX4_readPerhaps_1 rfl (lv_at hl 1 rfl) ?_
  replace h := gd_some h
  obtain ⟨g2, h⟩ := h
  replace h := bd_some h
  obtain ⟨r1, er1, h⟩ := h
  refine r_callVi (As := [.ref (adK a1)]) (rest := []) hF (c_X4_isWord l D cy ad adK adV M o0 a1 r1 er1) (gW_goodV hcm qw502 qw499 qw501 qw5 qw65) hdX4_isWord rfl ⟨Nat.le_of_ble_eq_true rfl, Nat.le_of_ble_eq_true rfl⟩ rfl rfl hZ hK hw g2 (by decide) rfl rfl hl.1 rfl (Nat.le_of_ble_eq_true rfl) ⟨Nat.zero_le _, Nat.zero_le _⟩ dX4_readPerhaps_2 (fun H locs hw => ?_)
  refine lv_if_ne (tgt := 11) hx hb dX4_readPerhaps_5 (by decide) (fun c3 => ?_) (fun c3 => ?_)
  · replace h := if_some_f c3 h
    refine lv_aload_n hx hb dX4_readPerhaps_11 rfl (lv_at hl 0 rfl) ?_
    replace h := bd_some h
    obtain ⟨r4, er4, h⟩ := h
    refine r_callVv (As := []) (rest := []) hF (c_X4_goOn l D cy ad adK adV r1.1 o0 r4 er4) (gW_goodV hcm qw476 qw473 qw475 qw1 qw65) hdX4_goOn rfl ⟨Nat.le_of_ble_eq_true rfl, Nat.le_of_ble_eq_true rfl⟩ rfl rfl hZ hK hw g2 (by decide) rfl rfl hl.1 rfl (Nat.le_of_ble_eq_true rfl) ⟨Nat.zero_le _, Nat.zero_le _⟩ dX4_readPerhaps_12 (fun H locs hw => ?_)
    refine lv_aload_n hx hb dX4_readPerhaps_15 rfl (lv_at hl 0 rfl) ?_
    refine lv_iload_n hx hb dX4_readPerhaps_16 rfl (lv_at hl 2 rfl) ?_
    refine lv_iload_n hx hb dX4_readPerhaps_17 rfl (lv_at hl 3 rfl) ?_
    replace h := bd_some h
    obtain ⟨r5, er5, h⟩ := h
    refine r_callVi (As := [.int a2, .int a3]) (rest := []) hF (c_X4_isNumber l D cy ad adK adV r4.1 o0 a2 a3 r5 er5) (gW_goodV hcm qw564 qw561 qw563 qw7 qw65) hdX4_isNumber rfl ⟨Nat.le_of_ble_eq_true rfl, Nat.le_of_ble_eq_true rfl⟩ rfl rfl hZ hK hw g2 (by decide) rfl rfl hl.1 rfl (Nat.le_of_ble_eq_true rfl) ⟨Nat.zero_le _, Nat.zero_le _⟩ dX4_readPerhaps_18 (fun H locs hw => ?_)
    refine lv_if_ne (tgt := 26) hx hb dX4_readPerhaps_21 (by decide) (fun c6 => ?_) (fun c6 => ?_)
    · replace h := if_some_f c6 h
      refine lv_aload_n hx hb dX4_readPerhaps_26 rfl (lv_at hl 0 rfl) ?_
      refine r_getI hx hb hts iw4 hown hK hw o0 5 g2 (by decide) rfl (by decide) rfl (hq _ qw301) (fun _ h9 => h9) dX4_readPerhaps_27 ?_
      refine lv_istore (lv' := [(5, .int (r5.1.1 o0 5)), (0, .ref (ad o0)), (1, .ref (adK a1)), (2, .int a2), (3, .int a3), (4, .int a4)]) hx hb dX4_readPerhaps_30 hl (by decide) rfl (fun ls hl => ?_)
      refine lv_aload_n hx hb dX4_readPerhaps_32 rfl (lv_at hl 1 rfl) ?_
      replace h := bd_some h
      obtain ⟨r7, er7, h⟩ := h
      refine r_callVv (As := []) (rest := []) hF (c_X4_goOn l D cy ad adK adV r5.1 o0 r7 er7) (gW_goodV hcm qw476 qw473 qw475 qw1 qw65) hdX4_goOn rfl ⟨Nat.le_of_ble_eq_true rfl, Nat.le_of_ble_eq_true rfl⟩ rfl rfl hZ hK hw g2 (by decide) rfl rfl hl.1 rfl (Nat.le_of_ble_eq_true rfl) ⟨Nat.zero_le _, Nat.zero_le _⟩ dX4_readPerhaps_33 (fun H locs hw => ?_)
      refine lv_iload hx hb dX4_readPerhaps_36 (lv_at hl 0 rfl) ?_
      exact r_iret hx hb hr rfl hlocks hZ hK hw h dX4_readPerhaps_38
    · replace h := if_some_t c6 h
      refine lv_iconst (v := (-1 : Int32)) hx hb dX4_readPerhaps_24 (by decide) ?_
      exact r_iret hx hb hr rfl hlocks hZ hK hw h dX4_readPerhaps_25
  · replace h := if_some_t c3 h
    refine lv_iload hx hb dX4_readPerhaps_8 (lv_at hl 4 rfl) ?_
    exact r_iret hx hb hr rfl hlocks hZ hK hw h dX4_readPerhaps_10
theorem dX4_readGame_0 : decode cX4_readGame 0 = .ok (.aload_n 1, 1) := by decide +kernel
theorem dX4_readGame_1 : decode cX4_readGame 1 = .ok (.getfield 79, 3) := by decide +kernel
theorem dX4_readGame_4 : decode cX4_readGame 4 = .ok (.bipush 8, 2) := by decide +kernel
theorem dX4_readGame_6 : decode cX4_readGame 6 = .ok (.if_icmp .lt 5, 3) := by decide +kernel
theorem dX4_readGame_9 : decode cX4_readGame 9 = .ok (.iconst 0, 1) := by decide +kernel
theorem dX4_readGame_10 : decode cX4_readGame 10 = .ok (.ireturn, 1) := by decide +kernel
theorem dX4_readGame_11 : decode cX4_readGame 11 = .ok (.aload_n 0, 1) := by decide +kernel
theorem dX4_readGame_12 : decode cX4_readGame 12 = .ok (.invokevirtual 31, 3) := by decide +kernel
theorem dX4_readGame_15 : decode cX4_readGame 15 = .ok (.aload_n 0, 1) := by decide +kernel
theorem dX4_readGame_16 : decode cX4_readGame 16 = .ok (.iconst 0, 1) := by decide +kernel
theorem dX4_readGame_17 : decode cX4_readGame 17 = .ok (.aload_n 1, 1) := by decide +kernel
theorem dX4_readGame_18 : decode cX4_readGame 18 = .ok (.getfield 60, 3) := by decide +kernel
theorem dX4_readGame_21 : decode cX4_readGame 21 = .ok (.iconst 1, 1) := by decide +kernel
theorem dX4_readGame_22 : decode cX4_readGame 22 = .ok (.isub, 1) := by decide +kernel
theorem dX4_readGame_23 : decode cX4_readGame 23 = .ok (.invokevirtual 65, 3) := by decide +kernel
theorem dX4_readGame_26 : decode cX4_readGame 26 = .ok (.ifCond .ne 5, 3) := by decide +kernel
theorem dX4_readGame_29 : decode cX4_readGame 29 = .ok (.iconst 0, 1) := by decide +kernel
theorem dX4_readGame_30 : decode cX4_readGame 30 = .ok (.ireturn, 1) := by decide +kernel
theorem dX4_readGame_31 : decode cX4_readGame 31 = .ok (.aload_n 0, 1) := by decide +kernel
theorem dX4_readGame_32 : decode cX4_readGame 32 = .ok (.getfield 28, 3) := by decide +kernel
theorem dX4_readGame_35 : decode cX4_readGame 35 = .ok (.istore_n 2, 1) := by decide +kernel
theorem dX4_readGame_36 : decode cX4_readGame 36 = .ok (.aload_n 0, 1) := by decide +kernel
theorem dX4_readGame_37 : decode cX4_readGame 37 = .ok (.invokevirtual 31, 3) := by decide +kernel
theorem dX4_readGame_40 : decode cX4_readGame 40 = .ok (.aload_n 0, 1) := by decide +kernel
theorem dX4_readGame_41 : decode cX4_readGame 41 = .ok (.iconst 0, 1) := by decide +kernel
theorem dX4_readGame_42 : decode cX4_readGame 42 = .ok (.aload_n 1, 1) := by decide +kernel
theorem dX4_readGame_43 : decode cX4_readGame 43 = .ok (.getfield 60, 3) := by decide +kernel
theorem dX4_readGame_46 : decode cX4_readGame 46 = .ok (.iconst 1, 1) := by decide +kernel
theorem dX4_readGame_47 : decode cX4_readGame 47 = .ok (.isub, 1) := by decide +kernel
theorem dX4_readGame_48 : decode cX4_readGame 48 = .ok (.invokevirtual 65, 3) := by decide +kernel
theorem dX4_readGame_51 : decode cX4_readGame 51 = .ok (.ifCond .eq 11, 3) := by decide +kernel
theorem dX4_readGame_54 : decode cX4_readGame 54 = .ok (.aload_n 0, 1) := by decide +kernel
theorem dX4_readGame_55 : decode cX4_readGame 55 = .ok (.getfield 28, 3) := by decide +kernel
theorem dX4_readGame_58 : decode cX4_readGame 58 = .ok (.iload_n 2, 1) := by decide +kernel
theorem dX4_readGame_59 : decode cX4_readGame 59 = .ok (.if_icmp .ne 5, 3) := by decide +kernel
theorem dX4_readGame_62 : decode cX4_readGame 62 = .ok (.iconst 0, 1) := by decide +kernel
theorem dX4_readGame_63 : decode cX4_readGame 63 = .ok (.ireturn, 1) := by decide +kernel
theorem dX4_readGame_64 : decode cX4_readGame 64 = .ok (.aload_n 0, 1) := by decide +kernel
theorem dX4_readGame_65 : decode cX4_readGame 65 = .ok (.getfield 28, 3) := by decide +kernel
theorem dX4_readGame_68 : decode cX4_readGame 68 = .ok (.istore_n 3, 1) := by decide +kernel
theorem dX4_readGame_69 : decode cX4_readGame 69 = .ok (.aload_n 0, 1) := by decide +kernel
theorem dX4_readGame_70 : decode cX4_readGame 70 = .ok (.invokevirtual 31, 3) := by decide +kernel
theorem dX4_readGame_73 : decode cX4_readGame 73 = .ok (.aload_n 0, 1) := by decide +kernel
theorem dX4_readGame_74 : decode cX4_readGame 74 = .ok (.ldc 82, 2) := by decide +kernel
theorem dX4_readGame_76 : decode cX4_readGame 76 = .ok (.iconst 1, 1) := by decide +kernel
theorem dX4_readGame_77 : decode cX4_readGame 77 = .ok (.bipush 9, 2) := by decide +kernel
theorem dX4_readGame_79 : decode cX4_readGame 79 = .ok (.iconst 1, 1) := by decide +kernel
theorem dX4_readGame_80 : decode cX4_readGame 80 = .ok (.invokevirtual 71, 3) := by decide +kernel
theorem dX4_readGame_83 : decode cX4_readGame 83 = .ok (.istore 4, 2) := by decide +kernel
theorem dX4_readGame_85 : decode cX4_readGame 85 = .ok (.iload 4, 2) := by decide +kernel
theorem dX4_readGame_87 : decode cX4_readGame 87 = .ok (.ifCond .ge 5, 3) := by decide +kernel
theorem dX4_readGame_90 : decode cX4_readGame 90 = .ok (.iconst 0, 1) := by decide +kernel
theorem dX4_readGame_91 : decode cX4_readGame 91 = .ok (.ireturn, 1) := by decide +kernel
theorem dX4_readGame_92 : decode cX4_readGame 92 = .ok (.aload_n 1, 1) := by decide +kernel
theorem dX4_readGame_93 : decode cX4_readGame 93 = .ok (.iload_n 2, 1) := by decide +kernel
theorem dX4_readGame_94 : decode cX4_readGame 94 = .ok (.iload_n 3, 1) := by decide +kernel
theorem dX4_readGame_95 : decode cX4_readGame 95 = .ok (.iload 4, 2) := by decide +kernel
theorem dX4_readGame_97 : decode cX4_readGame 97 = .ok (.invokevirtual 84, 3) := by decide +kernel
theorem dX4_readGame_100 : decode cX4_readGame 100 = .ok (.pop, 1) := by decide +kernel
theorem dX4_readGame_101 : decode cX4_readGame 101 = .ok (.iconst 1, 1) := by decide +kernel
theorem dX4_readGame_102 : decode cX4_readGame 102 = .ok (.ireturn, 1) := by decide +kernel
set_option maxHeartbeats 4000000 in
set_option maxRecDepth 100000 in
theorem c_X4_readGame (l : Launch) (D : va_G) (cy : Nat → ClassId) (ad adK adV : Nat → Nat) (M : Mm) (o0 : Nat) (a1 : Nat) (res : Mm × Int32) (h : f_X4_readGame M o0 a1 = some res) : Met l yX4_readGame (wU yX4_readGame cX4_readGame 5 (some .boolean)) rmX4_readGame (va_Pc [.ref (ad o0), .ref (ad a1)] (Pre D cy shX ad nX adK adV M)) (va_Qi (fun r (M2 : Mm) => r = res.2 ∧ M2 = res.1) (Pre D cy shX ad nX adK adV) (Aw ad nX)) 0 0 (Aw ad nX) := by
  refine Met.ofW (cc := cX4_readGame) (maxL := 5) (ret := (some .boolean)) (by decide) rfl ?_
  intro p e s m args below meth c s₁ B hml hv
  obtain ⟨hargs, hPre⟩ := hv
  have hx := B.exec
  have hb := B.bytes
  have hr := B.returns
  have hts := atoms_spec (ws := wU yX4_readGame cX4_readGame 5 (some .boolean)) B.pre
  have hq : ∀ w ∈ gW, w.before args s = true := fun w hw => hts w (List.mem_cons_of_mem _ hw)
  have hcm : ∀ w ∈ gW, w ∈ wU yX4_readGame cX4_readGame 5 (some .boolean) := fun w hw => List.mem_cons_of_mem _ hw
  have hown : s.vm.findClass RX4 = some m.cls := findClass_of_methodNamed B.named
  have hlocks := B.notSynchronized
  have hF : CallFix p m c cX4_readGame 5 s args (wU yX4_readGame cX4_readGame 5 (some .boolean)) RX4 := ⟨hx, hb, hml, hown, hts⟩
  have hK := hPre.2.1
  have hZ := hPre.2.2.2
  have hw : Wd D cy shX ad nX (Aw ad nX) s.heap M s.heap [] := ⟨hPre.1, hPre.2.2.1, va_S.rf⟩
  have iw1 : ∀ w ∈ u_ws RX1 TX1 11, w ∈ wU yX4_readGame cX4_readGame 5 (some .boolean) := fun w hw => List.mem_cons_of_mem _ (iX1 w hw)
  have iw4 : ∀ w ∈ u_ws RX4 TX4 6, w ∈ wU yX4_readGame cX4_readGame 5 (some .boolean) := fun w hw => List.mem_cons_of_mem _ (iX4 w hw)
  rw [show entryFrame m args 5 = entryFrame m ([.ref (ad o0), .ref (ad a1)] : List Value).toArray 5 from by rw [hargs]]
  have hl := lv_entry ([.ref (ad o0), .ref (ad a1)]) (n := 5) (Nat.le_of_ble_eq_true rfl)
  rw [lg_entry_eq]
  generalize (lg_sl ([.ref (ad o0), .ref (ad a1)]) ++ List.replicate (5 - (lg_sl ([.ref (ad o0), .ref (ad a1)])).length) Slot.unset).toArray = ls at hl ⊢
  have hl : lv_has ls 5 [(0, .ref (ad o0)), (1, .ref (ad a1))] := hl
  unfold f_X4_readGame at h
  refine lv_aload_n hx hb dX4_readGame_0 rfl (lv_at hl 1 rfl) ?_
  replace h := gd_some h
  obtain ⟨g1, h⟩ := h
  refine r_getI hx hb hts iw1 hown hK hw a1 4 g1 (by decide) rfl (by decide) rfl (hq _ qw196) (fun _ h9 => h9) dX4_readGame_1 ?_
  refine lv_bipush (v := (8 : Int32)) hx hb dX4_readGame_4 (by decide) ?_
  refine lv_icmp_lt (tgt := 11) hx hb dX4_readGame_6 (by decide) (fun c2 => ?_) (fun c2 => ?_)
  · replace h := if_some_t c2 h
    refine lv_aload_n hx hb dX4_readGame_11 rfl (lv_at hl 0 rfl) ?_
    replace h := gd_some h
    obtain ⟨g4, h⟩ := h
    replace h := bd_some h
    obtain ⟨r3, er3, h⟩ := h
    refine r_callVv (As := []) (rest := []) hF (c_X4_goOn l D cy ad adK adV M o0 r3 er3) (gW_goodV hcm qw476 qw473 qw475 qw1 qw65) hdX4_goOn rfl ⟨Nat.le_of_ble_eq_true rfl, Nat.le_of_ble_eq_true rfl⟩ rfl rfl hZ hK hw g4 (by decide) rfl rfl hl.1 rfl (Nat.le_of_ble_eq_true rfl) ⟨Nat.zero_le _, Nat.zero_le _⟩ dX4_readGame_12 (fun H locs hw => ?_)
    refine lv_aload_n hx hb dX4_readGame_15 rfl (lv_at hl 0 rfl) ?_
    refine lv_iconst (v := (0 : Int32)) hx hb dX4_readGame_16 (by decide) ?_
    refine lv_aload_n hx hb dX4_readGame_17 rfl (lv_at hl 1 rfl) ?_
    refine r_getI hx hb hts iw1 hown hK hw a1 3 g1 (by decide) rfl (by decide) rfl (hq _ qw191) (fun _ h9 => h9) dX4_readGame_18 ?_
    refine lv_iconst (v := (1 : Int32)) hx hb dX4_readGame_21 (by decide) ?_
    refine lv_isub hx hb dX4_readGame_22 ?_
    replace h := bd_some h
    obtain ⟨r5, er5, h⟩ := h
    refine r_callVi (As := [.int (0 : Int32), .int ((r3.1.1 a1 3) - (1 : Int32))]) (rest := []) hF (c_X4_isNumber l D cy ad adK adV r3.1 o0 (0 : Int32) ((r3.1.1 a1 3) - (1 : Int32)) r5 er5) (gW_goodV hcm qw564 qw561 qw563 qw7 qw65) hdX4_isNumber rfl ⟨Nat.le_of_ble_eq_true rfl, Nat.le_of_ble_eq_true rfl⟩ rfl rfl hZ hK hw g4 (by decide) rfl rfl hl.1 rfl (Nat.le_of_ble_eq_true rfl) ⟨Nat.zero_le _, Nat.zero_le _⟩ dX4_readGame_23 (fun H locs hw => ?_)
    refine lv_if_ne (tgt := 31) hx hb dX4_readGame_26 (by decide) (fun c6 => ?_) (fun c6 => ?_)
    · replace h := if_some_f c6 h
      refine lv_aload_n hx hb dX4_readGame_31 rfl (lv_at hl 0 rfl) ?_
      refine r_getI hx hb hts iw4 hown hK hw o0 5 g4 (by decide) rfl (by decide) rfl (hq _ qw301) (fun _ h9 => h9) dX4_readGame_32 ?_
      refine lv_istore_n (lv' := [(2, .int (r5.1.1 o0 5)), (0, .ref (ad o0)), (1, .ref (ad a1))]) hx hb dX4_readGame_35 rfl hl (by decide) rfl (fun ls hl => ?_)
      refine lv_aload_n hx hb dX4_readGame_36 rfl (lv_at hl 1 rfl) ?_
      replace h := bd_some h
      obtain ⟨r7, er7, h⟩ := h
      refine r_callVv (As := []) (rest := []) hF (c_X4_goOn l D cy ad adK adV r5.1 o0 r7 er7) (gW_goodV hcm qw476 qw473 qw475 qw1 qw65) hdX4_goOn rfl ⟨Nat.le_of_ble_eq_true rfl, Nat.le_of_ble_eq_true rfl⟩ rfl rfl hZ hK hw g4 (by decide) rfl rfl hl.1 rfl (Nat.le_of_ble_eq_true rfl) ⟨Nat.zero_le _, Nat.zero_le _⟩ dX4_readGame_37 (fun H locs hw => ?_)
      refine lv_aload_n hx hb dX4_readGame_40 rfl (lv_at hl 1 rfl) ?_
      refine lv_iconst (v := (0 : Int32)) hx hb dX4_readGame_41 (by decide) ?_
      refine lv_aload_n hx hb dX4_readGame_42 rfl (lv_at hl 2 rfl) ?_
      refine r_getI hx hb hts iw1 hown hK hw a1 3 g1 (by decide) rfl (by decide) rfl (hq _ qw191) (fun _ h9 => h9) dX4_readGame_43 ?_
      refine lv_iconst (v := (1 : Int32)) hx hb dX4_readGame_46 (by decide) ?_
      refine lv_isub hx hb dX4_readGame_47 ?_
      replace h := bd_some h
      obtain ⟨r8, er8, h⟩ := h
      refine r_callVi (As := [.int (0 : Int32), .int ((r7.1.1 a1 3) - (1 : Int32))]) (rest := []) hF (c_X4_isNumber l D cy ad adK adV r7.1 o0 (0 : Int32) ((r7.1.1 a1 3) - (1 : Int32)) r8 er8) (gW_goodV hcm qw564 qw561 qw563 qw7 qw65) hdX4_isNumber rfl ⟨Nat.le_of_ble_eq_true rfl, Nat.le_of_ble_eq_true rfl⟩ rfl rfl hZ hK hw g4 (by decide) rfl rfl hl.1 rfl (Nat.le_of_ble_eq_true rfl) ⟨Nat.zero_le _, Nat.zero_le _⟩ dX4_readGame_48 (fun H locs hw => ?_)
      refine lv_if_eq (tgt := 62) hx hb dX4_readGame_51 (by decide) (fun c9 => ?_) (fun c9 => ?_)
      · replace h := if_some_t c9 h
        refine lv_iconst (v := (0 : Int32)) hx hb dX4_readGame_62 (by decide) ?_
        exact r_iret hx hb hr rfl hlocks hZ hK hw h dX4_readGame_63
      · replace h := if_some_f c9 h
        refine lv_aload_n hx hb dX4_readGame_54 rfl (lv_at hl 1 rfl) ?_
        refine r_getI hx hb hts iw4 hown hK hw o0 5 g4 (by decide) rfl (by decide) rfl (hq _ qw301) (fun _ h9 => h9) dX4_readGame_55 ?_
        refine lv_iload_n hx hb dX4_readGame_58 rfl (lv_at hl 0 rfl) ?_
        refine lv_icmp_ne (tgt := 64) hx hb dX4_readGame_59 (by decide) (fun c10 => ?_) (fun c10 => ?_)
        · replace h := if_some_f c10 h
          refine lv_aload_n hx hb dX4_readGame_64 rfl (lv_at hl 1 rfl) ?_
          refine r_getI hx hb hts iw4 hown hK hw o0 5 g4 (by decide) rfl (by decide) rfl (hq _ qw301) (fun _ h9 => h9) dX4_readGame_65 ?_
          refine lv_istore_n (lv' := [(3, .int (r8.1.1 o0 5)), (2, .int (r5.1.1 o0 5)), (0, .ref (ad o0)), (1, .ref (ad a1))]) hx hb dX4_readGame_68 rfl hl (by decide) rfl (fun ls hl => ?_)
          refine lv_aload_n hx hb dX4_readGame_69 rfl (lv_at hl 2 rfl) ?_
          replace h := bd_some h
          obtain ⟨r11, er11, h⟩ := h
          refine r_callVv (As := []) (rest := []) hF (c_X4_goOn l D cy ad adK adV r8.1 o0 r11 er11) (gW_goodV hcm qw476 qw473 qw475 qw1 qw65) hdX4_goOn rfl ⟨Nat.le_of_ble_eq_true rfl, Nat.le_of_ble_eq_true rfl⟩ rfl rfl hZ hK hw g4 (by decide) rfl rfl hl.1 rfl (Nat.le_of_ble_eq_true rfl) ⟨Nat.zero_le _, Nat.zero_le _⟩ dX4_readGame_70 (fun H locs hw => ?_)
          refine lv_aload_n hx hb dX4_readGame_73 rfl (lv_at hl 2 rfl) ?_
          refine va_ldcS (own := RX4) (tx := "worth") (index := 82) (q := adK 9) hx hb hown (hZ.str stm9) dX4_readGame_74 ?_
          refine lv_iconst (v := (1 : Int32)) hx hb dX4_readGame_76 (by decide) ?_
          refine lv_bipush (v := (9 : Int32)) hx hb dX4_readGame_77 (by decide) ?_
          refine lv_iconst (v := (1 : Int32)) hx hb dX4_readGame_79 (by decide) ?_
          replace h := bd_some h
          obtain ⟨r12, er12, h⟩ := h
          refine r_callVi (As := [.ref (adK 9), .int (1 : Int32), .int (9 : Int32), .int (1 : Int32)]) (rest := []) hF (c_X4_readPerhaps l D cy ad adK adV r11.1 o0 9 (1 : Int32) (9 : Int32) (1 : Int32) r12 er12) (gW_goodV hcm qw569 qw566 qw568 qw8 qw65) hdX4_readPerhaps rfl ⟨Nat.le_of_ble_eq_true rfl, Nat.le_of_ble_eq_true rfl⟩ rfl rfl hZ hK hw g4 (by decide) rfl rfl hl.1 rfl (Nat.le_of_ble_eq_true rfl) ⟨Nat.zero_le _, Nat.zero_le _⟩ dX4_readGame_80 (fun H locs hw => ?_)
          refine lv_istore (lv' := [(4, .int r12.2), (3, .int (r8.1.1 o0 5)), (2, .int (r5.1.1 o0 5)), (0, .ref (ad o0)), (1, .ref (ad a1))]) hx hb dX4_readGame_83 hl (by decide) rfl (fun ls hl => ?_)
          refine lv_iload hx hb dX4_readGame_85 (lv_at hl 0 rfl) ?_
          refine lv_if_ge (tgt := 92) hx hb dX4_readGame_87 (by decide) (fun c13 => ?_) (fun c13 => ?_)
          · replace h := if_some_t c13 h
            refine lv_aload_n hx hb dX4_readGame_92 rfl (lv_at hl 4 rfl) ?_
            refine lv_iload_n hx hb dX4_readGame_93 rfl (lv_at hl 2 rfl) ?_
            refine lv_iload_n hx hb dX4_readGame_94 rfl (lv_at hl 1 rfl) ?_
            refine lv_iload hx hb dX4_readGame_95 (lv_at hl 0 rfl) ?_
            replace h := bd_some h
            obtain ⟨r14, er14, h⟩ := h
            refine r_callVi (As := [.int (r5.1.1 o0 5), .int (r8.1.1 o0 5), .int r12.2]) (rest := []) hF (c_X1_addGame l D cy ad adK adV r12.1 a1 (r5.1.1 o0 5) (r8.1.1 o0 5) r12.2 r14 er14) (gW_goodV hcm qw421 qw577 qw419 qw420 qw61) hdX1_addGame rfl ⟨Nat.le_of_ble_eq_true rfl, Nat.le_of_ble_eq_true rfl⟩ rfl rfl hZ hK hw g1 (by decide) rfl rfl hl.1 rfl (Nat.le_of_ble_eq_true rfl) ⟨Nat.zero_le _, Nat.zero_le _⟩ dX4_readGame_97 (fun H locs hw => ?_)
            refine lv_pop hx hb dX4_readGame_100 rfl ?_
            refine lv_iconst (v := (1 : Int32)) hx hb dX4_readGame_101 (by decide) ?_
            exact r_iret hx hb hr rfl hlocks hZ hK hw h dX4_readGame_102
          · replace h := if_some_f c13 h
            refine lv_iconst (v := (0 : Int32)) hx hb dX4_readGame_90 (by decide) ?_
            exact r_iret hx hb hr rfl hlocks hZ hK hw h dX4_readGame_91
        · replace h := if_some_t c10 h
          refine lv_iconst (v := (0 : Int32)) hx hb dX4_readGame_62 (by decide) ?_
          exact r_iret hx hb hr rfl hlocks hZ hK hw h dX4_readGame_63
    · replace h := if_some_t c6 h
      refine lv_iconst (v := (0 : Int32)) hx hb dX4_readGame_29 (by decide) ?_
      exact r_iret hx hb hr rfl hlocks hZ hK hw h dX4_readGame_30
  · replace h := if_some_f c2 h
    refine lv_iconst (v := (0 : Int32)) hx hb dX4_readGame_9 (by decide) ?_
    exact r_iret hx hb hr rfl hlocks hZ hK hw h dX4_readGame_10
theorem dX4_readLaw_0 : decode cX4_readLaw 0 = .ok (.aload_n 0, 1) := by decide +kernel
theorem dX4_readLaw_1 : decode cX4_readLaw 1 = .ok (.invokevirtual 31, 3) := by decide +kernel
theorem dX4_readLaw_4 : decode cX4_readLaw 4 = .ok (.aload_n 0, 1) := by decide +kernel
theorem dX4_readLaw_5 : decode cX4_readLaw 5 = .ok (.iconst 1, 1) := by decide +kernel
theorem dX4_readLaw_6 : decode cX4_readLaw 6 = .ok (.iconst 3, 1) := by decide +kernel
theorem dX4_readLaw_7 : decode cX4_readLaw 7 = .ok (.invokevirtual 65, 3) := by decide +kernel
theorem dX4_readLaw_10 : decode cX4_readLaw 10 = .ok (.ifCond .ne 5, 3) := by decide +kernel
theorem dX4_readLaw_13 : decode cX4_readLaw 13 = .ok (.iconst 0, 1) := by decide +kernel
theorem dX4_readLaw_14 : decode cX4_readLaw 14 = .ok (.ireturn, 1) := by decide +kernel
theorem dX4_readLaw_15 : decode cX4_readLaw 15 = .ok (.aload_n 1, 1) := by decide +kernel
theorem dX4_readLaw_16 : decode cX4_readLaw 16 = .ok (.aload_n 0, 1) := by decide +kernel
theorem dX4_readLaw_17 : decode cX4_readLaw 17 = .ok (.getfield 28, 3) := by decide +kernel
theorem dX4_readLaw_20 : decode cX4_readLaw 20 = .ok (.putfield 87, 3) := by decide +kernel
theorem dX4_readLaw_23 : decode cX4_readLaw 23 = .ok (.aload_n 0, 1) := by decide +kernel
theorem dX4_readLaw_24 : decode cX4_readLaw 24 = .ok (.invokevirtual 31, 3) := by decide +kernel
theorem dX4_readLaw_27 : decode cX4_readLaw 27 = .ok (.iconst 1, 1) := by decide +kernel
theorem dX4_readLaw_28 : decode cX4_readLaw 28 = .ok (.ireturn, 1) := by decide +kernel
set_option maxHeartbeats 4000000 in
set_option maxRecDepth 100000 in
theorem c_X4_readLaw (l : Launch) (D : va_G) (cy : Nat → ClassId) (ad adK adV : Nat → Nat) (M : Mm) (o0 : Nat) (a1 : Nat) (res : Mm × Int32) (h : f_X4_readLaw M o0 a1 = some res) : Met l yX4_readLaw (wU yX4_readLaw cX4_readLaw 2 (some .boolean)) rmX4_readLaw (va_Pc [.ref (ad o0), .ref (ad a1)] (Pre D cy shX ad nX adK adV M)) (va_Qi (fun r (M2 : Mm) => r = res.2 ∧ M2 = res.1) (Pre D cy shX ad nX adK adV) (Aw ad nX)) 0 0 (Aw ad nX) := by
  refine Met.ofW (cc := cX4_readLaw) (maxL := 2) (ret := (some .boolean)) (by decide) rfl ?_
  intro p e s m args below meth c s₁ B hml hv
  obtain ⟨hargs, hPre⟩ := hv
  have hx := B.exec
  have hb := B.bytes
  have hr := B.returns
  have hts := atoms_spec (ws := wU yX4_readLaw cX4_readLaw 2 (some .boolean)) B.pre
  have hq : ∀ w ∈ gW, w.before args s = true := fun w hw => hts w (List.mem_cons_of_mem _ hw)
  have hcm : ∀ w ∈ gW, w ∈ wU yX4_readLaw cX4_readLaw 2 (some .boolean) := fun w hw => List.mem_cons_of_mem _ hw
  have hown : s.vm.findClass RX4 = some m.cls := findClass_of_methodNamed B.named
  have hlocks := B.notSynchronized
  have hF : CallFix p m c cX4_readLaw 2 s args (wU yX4_readLaw cX4_readLaw 2 (some .boolean)) RX4 := ⟨hx, hb, hml, hown, hts⟩
  have hK := hPre.2.1
  have hZ := hPre.2.2.2
  have hw : Wd D cy shX ad nX (Aw ad nX) s.heap M s.heap [] := ⟨hPre.1, hPre.2.2.1, va_S.rf⟩
  have iw1 : ∀ w ∈ u_ws RX1 TX1 11, w ∈ wU yX4_readLaw cX4_readLaw 2 (some .boolean) := fun w hw => List.mem_cons_of_mem _ (iX1 w hw)
  have iw4 : ∀ w ∈ u_ws RX4 TX4 6, w ∈ wU yX4_readLaw cX4_readLaw 2 (some .boolean) := fun w hw => List.mem_cons_of_mem _ (iX4 w hw)
  rw [show entryFrame m args 2 = entryFrame m ([.ref (ad o0), .ref (ad a1)] : List Value).toArray 2 from by rw [hargs]]
  have hl := lv_entry ([.ref (ad o0), .ref (ad a1)]) (n := 2) (Nat.le_of_ble_eq_true rfl)
  rw [lg_entry_eq]
  generalize (lg_sl ([.ref (ad o0), .ref (ad a1)]) ++ List.replicate (2 - (lg_sl ([.ref (ad o0), .ref (ad a1)])).length) Slot.unset).toArray = ls at hl ⊢
  have hl : lv_has ls 2 [(0, .ref (ad o0)), (1, .ref (ad a1))] := hl
  unfold f_X4_readLaw at h
  refine lv_aload_n hx hb dX4_readLaw_0 rfl (lv_at hl 0 rfl) ?_
  replace h := gd_some h
  obtain ⟨g2, h⟩ := h
  replace h := bd_some h
  obtain ⟨r1, er1, h⟩ := h
  refine r_callVv (As := []) (rest := []) hF (c_X4_goOn l D cy ad adK adV M o0 r1 er1) (gW_goodV hcm qw476 qw473 qw475 qw1 qw65) hdX4_goOn rfl ⟨Nat.le_of_ble_eq_true rfl, Nat.le_of_ble_eq_true rfl⟩ rfl rfl hZ hK hw g2 (by decide) rfl rfl hl.1 rfl (Nat.le_of_ble_eq_true rfl) ⟨Nat.zero_le _, Nat.zero_le _⟩ dX4_readLaw_1 (fun H locs hw => ?_)
  refine lv_aload_n hx hb dX4_readLaw_4 rfl (lv_at hl 0 rfl) ?_
  refine lv_iconst (v := (1 : Int32)) hx hb dX4_readLaw_5 (by decide) ?_
  refine lv_iconst (v := (3 : Int32)) hx hb dX4_readLaw_6 (by decide) ?_
  replace h := bd_some h
  obtain ⟨r3, er3, h⟩ := h
  refine r_callVi (As := [.int (1 : Int32), .int (3 : Int32)]) (rest := []) hF (c_X4_isNumber l D cy ad adK adV r1.1 o0 (1 : Int32) (3 : Int32) r3 er3) (gW_goodV hcm qw564 qw561 qw563 qw7 qw65) hdX4_isNumber rfl ⟨Nat.le_of_ble_eq_true rfl, Nat.le_of_ble_eq_true rfl⟩ rfl rfl hZ hK hw g2 (by decide) rfl rfl hl.1 rfl (Nat.le_of_ble_eq_true rfl) ⟨Nat.zero_le _, Nat.zero_le _⟩ dX4_readLaw_7 (fun H locs hw => ?_)
  refine lv_if_ne (tgt := 15) hx hb dX4_readLaw_10 (by decide) (fun c4 => ?_) (fun c4 => ?_)
  · replace h := if_some_f c4 h
    refine lv_aload_n hx hb dX4_readLaw_15 rfl (lv_at hl 1 rfl) ?_
    refine lv_aload_n hx hb dX4_readLaw_16 rfl (lv_at hl 0 rfl) ?_
    refine r_getI hx hb hts iw4 hown hK hw o0 5 g2 (by decide) rfl (by decide) rfl (hq _ qw301) (fun _ h9 => h9) dX4_readLaw_17 ?_
    replace h := gd_some h
    obtain ⟨g5, h⟩ := h
    refine r_putI hx hb hts iw1 tyX1 tyX1_ok nmX1 hown hK hw a1 6 g5 (by decide) rfl (by decide) rfl (hq _ qw201) (fun _ h9 => h9) rfl rfl rfl dX4_readLaw_20 (fun H locs hw => ?_)
    replace h := lt_some h
    obtain ⟨M6, eM6, h⟩ := h
    rw [← eM6] at hw
    refine lv_aload_n hx hb dX4_readLaw_23 rfl (lv_at hl 0 rfl) ?_
    replace h := bd_some h
    obtain ⟨r7, er7, h⟩ := h
    refine r_callVv (As := []) (rest := []) hF (c_X4_goOn l D cy ad adK adV M6 o0 r7 er7) (gW_goodV hcm qw476 qw473 qw475 qw1 qw65) hdX4_goOn rfl ⟨Nat.le_of_ble_eq_true rfl, Nat.le_of_ble_eq_true rfl⟩ rfl rfl hZ hK hw g2 (by decide) rfl rfl hl.1 rfl (Nat.le_of_ble_eq_true rfl) ⟨Nat.zero_le _, Nat.zero_le _⟩ dX4_readLaw_24 (fun H locs hw => ?_)
    refine lv_iconst (v := (1 : Int32)) hx hb dX4_readLaw_27 (by decide) ?_
    exact r_iret hx hb hr rfl hlocks hZ hK hw h dX4_readLaw_28
  · replace h := if_some_t c4 h
    refine lv_iconst (v := (0 : Int32)) hx hb dX4_readLaw_13 (by decide) ?_
    exact r_iret hx hb hr rfl hlocks hZ hK hw h dX4_readLaw_14
theorem dX4_readSide_0 : decode cX4_readSide 0 = .ok (.aload_n 1, 1) := by decide +kernel
theorem dX4_readSide_1 : decode cX4_readSide 1 = .ok (.getfield 60, 3) := by decide +kernel
theorem dX4_readSide_4 : decode cX4_readSide 4 = .ok (.bipush 6, 2) := by decide +kernel
theorem dX4_readSide_6 : decode cX4_readSide 6 = .ok (.if_icmp .lt 5, 3) := by decide +kernel
theorem dX4_readSide_9 : decode cX4_readSide 9 = .ok (.iconst 0, 1) := by decide +kernel
theorem dX4_readSide_10 : decode cX4_readSide 10 = .ok (.ireturn, 1) := by decide +kernel
theorem dX4_readSide_11 : decode cX4_readSide 11 = .ok (.aload_n 0, 1) := by decide +kernel
theorem dX4_readSide_12 : decode cX4_readSide 12 = .ok (.invokevirtual 31, 3) := by decide +kernel
theorem dX4_readSide_15 : decode cX4_readSide 15 = .ok (.aload_n 0, 1) := by decide +kernel
theorem dX4_readSide_16 : decode cX4_readSide 16 = .ok (.iconst 1, 1) := by decide +kernel
theorem dX4_readSide_17 : decode cX4_readSide 17 = .ok (.bipush 9, 2) := by decide +kernel
theorem dX4_readSide_19 : decode cX4_readSide 19 = .ok (.invokevirtual 65, 3) := by decide +kernel
theorem dX4_readSide_22 : decode cX4_readSide 22 = .ok (.ifCond .ne 5, 3) := by decide +kernel
theorem dX4_readSide_25 : decode cX4_readSide 25 = .ok (.iconst 0, 1) := by decide +kernel
theorem dX4_readSide_26 : decode cX4_readSide 26 = .ok (.ireturn, 1) := by decide +kernel
theorem dX4_readSide_27 : decode cX4_readSide 27 = .ok (.aload_n 0, 1) := by decide +kernel
theorem dX4_readSide_28 : decode cX4_readSide 28 = .ok (.getfield 28, 3) := by decide +kernel
theorem dX4_readSide_31 : decode cX4_readSide 31 = .ok (.istore_n 3, 1) := by decide +kernel
theorem dX4_readSide_32 : decode cX4_readSide 32 = .ok (.aload_n 0, 1) := by decide +kernel
theorem dX4_readSide_33 : decode cX4_readSide 33 = .ok (.invokevirtual 31, 3) := by decide +kernel
theorem dX4_readSide_36 : decode cX4_readSide 36 = .ok (.aload_n 0, 1) := by decide +kernel
theorem dX4_readSide_37 : decode cX4_readSide 37 = .ok (.ldc 69, 2) := by decide +kernel
theorem dX4_readSide_39 : decode cX4_readSide 39 = .ok (.iconst 0, 1) := by decide +kernel
theorem dX4_readSide_40 : decode cX4_readSide 40 = .ok (.bipush 9, 2) := by decide +kernel
theorem dX4_readSide_42 : decode cX4_readSide 42 = .ok (.iconst 0, 1) := by decide +kernel
theorem dX4_readSide_43 : decode cX4_readSide 43 = .ok (.invokevirtual 71, 3) := by decide +kernel
theorem dX4_readSide_46 : decode cX4_readSide 46 = .ok (.istore 4, 2) := by decide +kernel
theorem dX4_readSide_48 : decode cX4_readSide 48 = .ok (.iload 4, 2) := by decide +kernel
theorem dX4_readSide_50 : decode cX4_readSide 50 = .ok (.ifCond .ge 5, 3) := by decide +kernel
theorem dX4_readSide_53 : decode cX4_readSide 53 = .ok (.iconst 0, 1) := by decide +kernel
theorem dX4_readSide_54 : decode cX4_readSide 54 = .ok (.ireturn, 1) := by decide +kernel
theorem dX4_readSide_55 : decode cX4_readSide 55 = .ok (.aload_n 1, 1) := by decide +kernel
theorem dX4_readSide_56 : decode cX4_readSide 56 = .ok (.iload_n 2, 1) := by decide +kernel
theorem dX4_readSide_57 : decode cX4_readSide 57 = .ok (.iload_n 3, 1) := by decide +kernel
theorem dX4_readSide_58 : decode cX4_readSide 58 = .ok (.iload 4, 2) := by decide +kernel
theorem dX4_readSide_60 : decode cX4_readSide 60 = .ok (.invokevirtual 75, 3) := by decide +kernel
theorem dX4_readSide_63 : decode cX4_readSide 63 = .ok (.pop, 1) := by decide +kernel
theorem dX4_readSide_64 : decode cX4_readSide 64 = .ok (.iconst 1, 1) := by decide +kernel
theorem dX4_readSide_65 : decode cX4_readSide 65 = .ok (.ireturn, 1) := by decide +kernel
set_option maxHeartbeats 4000000 in
set_option maxRecDepth 100000 in
theorem c_X4_readSide (l : Launch) (D : va_G) (cy : Nat → ClassId) (ad adK adV : Nat → Nat) (M : Mm) (o0 : Nat) (a1 : Nat) (a2 : Int32) (res : Mm × Int32) (h : f_X4_readSide M o0 a1 a2 = some res) : Met l yX4_readSide (wU yX4_readSide cX4_readSide 5 (some .boolean)) rmX4_readSide (va_Pc [.ref (ad o0), .ref (ad a1), .int a2] (Pre D cy shX ad nX adK adV M)) (va_Qi (fun r (M2 : Mm) => r = res.2 ∧ M2 = res.1) (Pre D cy shX ad nX adK adV) (Aw ad nX)) 0 0 (Aw ad nX) := by
  refine Met.ofW (cc := cX4_readSide) (maxL := 5) (ret := (some .boolean)) (by decide) rfl ?_
  intro p e s m args below meth c s₁ B hml hv
  obtain ⟨hargs, hPre⟩ := hv
  have hx := B.exec
  have hb := B.bytes
  have hr := B.returns
  have hts := atoms_spec (ws := wU yX4_readSide cX4_readSide 5 (some .boolean)) B.pre
  have hq : ∀ w ∈ gW, w.before args s = true := fun w hw => hts w (List.mem_cons_of_mem _ hw)
  have hcm : ∀ w ∈ gW, w ∈ wU yX4_readSide cX4_readSide 5 (some .boolean) := fun w hw => List.mem_cons_of_mem _ hw
  have hown : s.vm.findClass RX4 = some m.cls := findClass_of_methodNamed B.named
  have hlocks := B.notSynchronized
  have hF : CallFix p m c cX4_readSide 5 s args (wU yX4_readSide cX4_readSide 5 (some .boolean)) RX4 := ⟨hx, hb, hml, hown, hts⟩
  have hK := hPre.2.1
  have hZ := hPre.2.2.2
  have hw : Wd D cy shX ad nX (Aw ad nX) s.heap M s.heap [] := ⟨hPre.1, hPre.2.2.1, va_S.rf⟩
  have iw1 : ∀ w ∈ u_ws RX1 TX1 11, w ∈ wU yX4_readSide cX4_readSide 5 (some .boolean) := fun w hw => List.mem_cons_of_mem _ (iX1 w hw)
  have iw4 : ∀ w ∈ u_ws RX4 TX4 6, w ∈ wU yX4_readSide cX4_readSide 5 (some .boolean) := fun w hw => List.mem_cons_of_mem _ (iX4 w hw)
  rw [show entryFrame m args 5 = entryFrame m ([.ref (ad o0), .ref (ad a1), .int a2] : List Value).toArray 5 from by rw [hargs]]
  have hl := lv_entry ([.ref (ad o0), .ref (ad a1), .int a2]) (n := 5) (Nat.le_of_ble_eq_true rfl)
  rw [lg_entry_eq]
  generalize (lg_sl ([.ref (ad o0), .ref (ad a1), .int a2]) ++ List.replicate (5 - (lg_sl ([.ref (ad o0), .ref (ad a1), .int a2])).length) Slot.unset).toArray = ls at hl ⊢
  have hl : lv_has ls 5 [(0, .ref (ad o0)), (1, .ref (ad a1)), (2, .int a2)] := hl
  unfold f_X4_readSide at h
  refine lv_aload_n hx hb dX4_readSide_0 rfl (lv_at hl 1 rfl) ?_
  replace h := gd_some h
  obtain ⟨g1, h⟩ := h
  refine r_getI hx hb hts iw1 hown hK hw a1 3 g1 (by decide) rfl (by decide) rfl (hq _ qw191) (fun _ h9 => h9) dX4_readSide_1 ?_
  refine lv_bipush (v := (6 : Int32)) hx hb dX4_readSide_4 (by decide) ?_
  refine lv_icmp_lt (tgt := 11) hx hb dX4_readSide_6 (by decide) (fun c2 => ?_) (fun c2 => ?_)
  · replace h := if_some_t c2 h
    refine lv_aload_n hx hb dX4_readSide_11 rfl (lv_at hl 0 rfl) ?_
    replace h := gd_some h
    obtain ⟨g4, h⟩ := h
    replace h := bd_some h
    obtain ⟨r3, er3, h⟩ := h
    refine r_callVv (As := []) (rest := []) hF (c_X4_goOn l D cy ad adK adV M o0 r3 er3) (gW_goodV hcm qw476 qw473 qw475 qw1 qw65) hdX4_goOn rfl ⟨Nat.le_of_ble_eq_true rfl, Nat.le_of_ble_eq_true rfl⟩ rfl rfl hZ hK hw g4 (by decide) rfl rfl hl.1 rfl (Nat.le_of_ble_eq_true rfl) ⟨Nat.zero_le _, Nat.zero_le _⟩ dX4_readSide_12 (fun H locs hw => ?_)
    refine lv_aload_n hx hb dX4_readSide_15 rfl (lv_at hl 0 rfl) ?_
    refine lv_iconst (v := (1 : Int32)) hx hb dX4_readSide_16 (by decide) ?_
    refine lv_bipush (v := (9 : Int32)) hx hb dX4_readSide_17 (by decide) ?_
    replace h := bd_some h
    obtain ⟨r5, er5, h⟩ := h
    refine r_callVi (As := [.int (1 : Int32), .int (9 : Int32)]) (rest := []) hF (c_X4_isNumber l D cy ad adK adV r3.1 o0 (1 : Int32) (9 : Int32) r5 er5) (gW_goodV hcm qw564 qw561 qw563 qw7 qw65) hdX4_isNumber rfl ⟨Nat.le_of_ble_eq_true rfl, Nat.le_of_ble_eq_true rfl⟩ rfl rfl hZ hK hw g4 (by decide) rfl rfl hl.1 rfl (Nat.le_of_ble_eq_true rfl) ⟨Nat.zero_le _, Nat.zero_le _⟩ dX4_readSide_19 (fun H locs hw => ?_)
    refine lv_if_ne (tgt := 27) hx hb dX4_readSide_22 (by decide) (fun c6 => ?_) (fun c6 => ?_)
    · replace h := if_some_f c6 h
      refine lv_aload_n hx hb dX4_readSide_27 rfl (lv_at hl 0 rfl) ?_
      refine r_getI hx hb hts iw4 hown hK hw o0 5 g4 (by decide) rfl (by decide) rfl (hq _ qw301) (fun _ h9 => h9) dX4_readSide_28 ?_
      refine lv_istore_n (lv' := [(3, .int (r5.1.1 o0 5)), (0, .ref (ad o0)), (1, .ref (ad a1)), (2, .int a2)]) hx hb dX4_readSide_31 rfl hl (by decide) rfl (fun ls hl => ?_)
      refine lv_aload_n hx hb dX4_readSide_32 rfl (lv_at hl 1 rfl) ?_
      replace h := bd_some h
      obtain ⟨r7, er7, h⟩ := h
      refine r_callVv (As := []) (rest := []) hF (c_X4_goOn l D cy ad adK adV r5.1 o0 r7 er7) (gW_goodV hcm qw476 qw473 qw475 qw1 qw65) hdX4_goOn rfl ⟨Nat.le_of_ble_eq_true rfl, Nat.le_of_ble_eq_true rfl⟩ rfl rfl hZ hK hw g4 (by decide) rfl rfl hl.1 rfl (Nat.le_of_ble_eq_true rfl) ⟨Nat.zero_le _, Nat.zero_le _⟩ dX4_readSide_33 (fun H locs hw => ?_)
      refine lv_aload_n hx hb dX4_readSide_36 rfl (lv_at hl 1 rfl) ?_
      refine va_ldcS (own := RX4) (tx := "tells") (index := 69) (q := adK 7) hx hb hown (hZ.str stm7) dX4_readSide_37 ?_
      refine lv_iconst (v := (0 : Int32)) hx hb dX4_readSide_39 (by decide) ?_
      refine lv_bipush (v := (9 : Int32)) hx hb dX4_readSide_40 (by decide) ?_
      refine lv_iconst (v := (0 : Int32)) hx hb dX4_readSide_42 (by decide) ?_
      replace h := bd_some h
      obtain ⟨r8, er8, h⟩ := h
      refine r_callVi (As := [.ref (adK 7), .int (0 : Int32), .int (9 : Int32), .int (0 : Int32)]) (rest := []) hF (c_X4_readPerhaps l D cy ad adK adV r7.1 o0 7 (0 : Int32) (9 : Int32) (0 : Int32) r8 er8) (gW_goodV hcm qw569 qw566 qw568 qw8 qw65) hdX4_readPerhaps rfl ⟨Nat.le_of_ble_eq_true rfl, Nat.le_of_ble_eq_true rfl⟩ rfl rfl hZ hK hw g4 (by decide) rfl rfl hl.1 rfl (Nat.le_of_ble_eq_true rfl) ⟨Nat.zero_le _, Nat.zero_le _⟩ dX4_readSide_43 (fun H locs hw => ?_)
      refine lv_istore (lv' := [(4, .int r8.2), (3, .int (r5.1.1 o0 5)), (0, .ref (ad o0)), (1, .ref (ad a1)), (2, .int a2)]) hx hb dX4_readSide_46 hl (by decide) rfl (fun ls hl => ?_)
      refine lv_iload hx hb dX4_readSide_48 (lv_at hl 0 rfl) ?_
      refine lv_if_ge (tgt := 55) hx hb dX4_readSide_50 (by decide) (fun c9 => ?_) (fun c9 => ?_)
      · replace h := if_some_t c9 h
        refine lv_aload_n hx hb dX4_readSide_55 rfl (lv_at hl 3 rfl) ?_
        refine lv_iload_n hx hb dX4_readSide_56 rfl (lv_at hl 4 rfl) ?_
        refine lv_iload_n hx hb dX4_readSide_57 rfl (lv_at hl 1 rfl) ?_
        refine lv_iload hx hb dX4_readSide_58 (lv_at hl 0 rfl) ?_
        replace h := bd_some h
        obtain ⟨r10, er10, h⟩ := h
        refine r_callVi (As := [.int a2, .int (r5.1.1 o0 5), .int r8.2]) (rest := []) hF (c_X1_addSide l D cy ad adK adV r8.1 a1 a2 (r5.1.1 o0 5) r8.2 r10 er10) (gW_goodV hcm qw378 qw570 qw376 qw377 qw61) hdX1_addSide rfl ⟨Nat.le_of_ble_eq_true rfl, Nat.le_of_ble_eq_true rfl⟩ rfl rfl hZ hK hw g1 (by decide) rfl rfl hl.1 rfl (Nat.le_of_ble_eq_true rfl) ⟨Nat.zero_le _, Nat.zero_le _⟩ dX4_readSide_60 (fun H locs hw => ?_)
        refine lv_pop hx hb dX4_readSide_63 rfl ?_
        refine lv_iconst (v := (1 : Int32)) hx hb dX4_readSide_64 (by decide) ?_
        exact r_iret hx hb hr rfl hlocks hZ hK hw h dX4_readSide_65
      · replace h := if_some_f c9 h
        refine lv_iconst (v := (0 : Int32)) hx hb dX4_readSide_53 (by decide) ?_
        exact r_iret hx hb hr rfl hlocks hZ hK hw h dX4_readSide_54
    · replace h := if_some_t c6 h
      refine lv_iconst (v := (0 : Int32)) hx hb dX4_readSide_25 (by decide) ?_
      exact r_iret hx hb hr rfl hlocks hZ hK hw h dX4_readSide_26
  · replace h := if_some_f c2 h
    refine lv_iconst (v := (0 : Int32)) hx hb dX4_readSide_9 (by decide) ?_
    exact r_iret hx hb hr rfl hlocks hZ hK hw h dX4_readSide_10
theorem dX4_readItem_0 : decode cX4_readItem 0 = .ok (.aload_n 0, 1) := by decide +kernel
theorem dX4_readItem_1 : decode cX4_readItem 1 = .ok (.invokevirtual 38, 3) := by decide +kernel
theorem dX4_readItem_4 : decode cX4_readItem 4 = .ok (.istore_n 2, 1) := by decide +kernel
theorem dX4_readItem_5 : decode cX4_readItem 5 = .ok (.iload_n 2, 1) := by decide +kernel
theorem dX4_readItem_6 : decode cX4_readItem 6 = .ok (.ifCond .lt 10, 3) := by decide +kernel
theorem dX4_readItem_9 : decode cX4_readItem 9 = .ok (.aload_n 0, 1) := by decide +kernel
theorem dX4_readItem_10 : decode cX4_readItem 10 = .ok (.aload_n 1, 1) := by decide +kernel
theorem dX4_readItem_11 : decode cX4_readItem 11 = .ok (.iload_n 2, 1) := by decide +kernel
theorem dX4_readItem_12 : decode cX4_readItem 12 = .ok (.invokevirtual 42, 3) := by decide +kernel
theorem dX4_readItem_15 : decode cX4_readItem 15 = .ok (.ireturn, 1) := by decide +kernel
theorem dX4_readItem_16 : decode cX4_readItem 16 = .ok (.aload_n 0, 1) := by decide +kernel
theorem dX4_readItem_17 : decode cX4_readItem 17 = .ok (.ldc 46, 2) := by decide +kernel
theorem dX4_readItem_19 : decode cX4_readItem 19 = .ok (.invokevirtual 48, 3) := by decide +kernel
theorem dX4_readItem_22 : decode cX4_readItem 22 = .ok (.ifCond .eq 9, 3) := by decide +kernel
theorem dX4_readItem_25 : decode cX4_readItem 25 = .ok (.aload_n 0, 1) := by decide +kernel
theorem dX4_readItem_26 : decode cX4_readItem 26 = .ok (.aload_n 1, 1) := by decide +kernel
theorem dX4_readItem_27 : decode cX4_readItem 27 = .ok (.invokevirtual 52, 3) := by decide +kernel
theorem dX4_readItem_30 : decode cX4_readItem 30 = .ok (.ireturn, 1) := by decide +kernel
theorem dX4_readItem_31 : decode cX4_readItem 31 = .ok (.aload_n 0, 1) := by decide +kernel
theorem dX4_readItem_32 : decode cX4_readItem 32 = .ok (.ldc 55, 2) := by decide +kernel
theorem dX4_readItem_34 : decode cX4_readItem 34 = .ok (.invokevirtual 48, 3) := by decide +kernel
theorem dX4_readItem_37 : decode cX4_readItem 37 = .ok (.ifCond .eq 15, 3) := by decide +kernel
theorem dX4_readItem_40 : decode cX4_readItem 40 = .ok (.aload_n 0, 1) := by decide +kernel
theorem dX4_readItem_41 : decode cX4_readItem 41 = .ok (.aload_n 1, 1) := by decide +kernel
theorem dX4_readItem_42 : decode cX4_readItem 42 = .ok (.invokevirtual 57, 3) := by decide +kernel
theorem dX4_readItem_45 : decode cX4_readItem 45 = .ok (.ifCond .eq 7, 3) := by decide +kernel
theorem dX4_readItem_48 : decode cX4_readItem 48 = .ok (.iconst 1, 1) := by decide +kernel
theorem dX4_readItem_49 : decode cX4_readItem 49 = .ok (.goto 4, 3) := by decide +kernel
theorem dX4_readItem_52 : decode cX4_readItem 52 = .ok (.iconst 0, 1) := by decide +kernel
theorem dX4_readItem_53 : decode cX4_readItem 53 = .ok (.ireturn, 1) := by decide +kernel
set_option maxHeartbeats 4000000 in
set_option maxRecDepth 100000 in
theorem c_X4_readItem (l : Launch) (D : va_G) (cy : Nat → ClassId) (ad adK adV : Nat → Nat) (M : Mm) (o0 : Nat) (a1 : Nat) (res : Mm × Int32) (h : f_X4_readItem M o0 a1 = some res) : Met l yX4_readItem (wU yX4_readItem cX4_readItem 3 (some .boolean)) rmX4_readItem (va_Pc [.ref (ad o0), .ref (ad a1)] (Pre D cy shX ad nX adK adV M)) (va_Qi (fun r (M2 : Mm) => r = res.2 ∧ M2 = res.1) (Pre D cy shX ad nX adK adV) (Aw ad nX)) 0 0 (Aw ad nX) := by
  refine Met.ofW (cc := cX4_readItem) (maxL := 3) (ret := (some .boolean)) (by decide) rfl ?_
  intro p e s m args below meth c s₁ B hml hv
  obtain ⟨hargs, hPre⟩ := hv
  have hx := B.exec
  have hb := B.bytes
  have hr := B.returns
  have hts := atoms_spec (ws := wU yX4_readItem cX4_readItem 3 (some .boolean)) B.pre
  have hq : ∀ w ∈ gW, w.before args s = true := fun w hw => hts w (List.mem_cons_of_mem _ hw)
  have hcm : ∀ w ∈ gW, w ∈ wU yX4_readItem cX4_readItem 3 (some .boolean) := fun w hw => List.mem_cons_of_mem _ hw
  have hown : s.vm.findClass RX4 = some m.cls := findClass_of_methodNamed B.named
  have hlocks := B.notSynchronized
  have hF : CallFix p m c cX4_readItem 3 s args (wU yX4_readItem cX4_readItem 3 (some .boolean)) RX4 := ⟨hx, hb, hml, hown, hts⟩
  have hK := hPre.2.1
  have hZ := hPre.2.2.2
  have hw : Wd D cy shX ad nX (Aw ad nX) s.heap M s.heap [] := ⟨hPre.1, hPre.2.2.1, va_S.rf⟩
  rw [show entryFrame m args 3 = entryFrame m ([.ref (ad o0), .ref (ad a1)] : List Value).toArray 3 from by rw [hargs]]
  have hl := lv_entry ([.ref (ad o0), .ref (ad a1)]) (n := 3) (Nat.le_of_ble_eq_true rfl)
  rw [lg_entry_eq]
  generalize (lg_sl ([.ref (ad o0), .ref (ad a1)]) ++ List.replicate (3 - (lg_sl ([.ref (ad o0), .ref (ad a1)])).length) Slot.unset).toArray = ls at hl ⊢
  have hl : lv_has ls 3 [(0, .ref (ad o0)), (1, .ref (ad a1))] := hl
  unfold f_X4_readItem at h
  refine lv_aload_n hx hb dX4_readItem_0 rfl (lv_at hl 0 rfl) ?_
  replace h := gd_some h
  obtain ⟨g2, h⟩ := h
  replace h := bd_some h
  obtain ⟨r1, er1, h⟩ := h
  refine r_callVi (As := []) (rest := []) hF (c_X4_kindOfWord l D cy ad adK adV M o0 r1 er1) (gW_goodV hcm qw497 qw494 qw496 qw4 qw65) hdX4_kindOfWord rfl ⟨Nat.le_of_ble_eq_true rfl, Nat.le_of_ble_eq_true rfl⟩ rfl rfl hZ hK hw g2 (by decide) rfl rfl hl.1 rfl (Nat.le_of_ble_eq_true rfl) ⟨Nat.zero_le _, Nat.zero_le _⟩ dX4_readItem_1 (fun H locs hw => ?_)
  refine lv_istore_n (lv' := [(2, .int r1.2), (0, .ref (ad o0)), (1, .ref (ad a1))]) hx hb dX4_readItem_4 rfl hl (by decide) rfl (fun ls hl => ?_)
  refine lv_iload_n hx hb dX4_readItem_5 rfl (lv_at hl 0 rfl) ?_
  refine lv_if_lt (tgt := 16) hx hb dX4_readItem_6 (by decide) (fun c3 => ?_) (fun c3 => ?_)
  · replace h := if_some_t c3 h
    refine lv_aload_n hx hb dX4_readItem_16 rfl (lv_at hl 1 rfl) ?_
    refine va_ldcS (own := RX4) (tx := "game") (index := 46) (q := adK 8) hx hb hown (hZ.str stm8) dX4_readItem_17 ?_
    replace h := bd_some h
    obtain ⟨r4, er4, h⟩ := h
    refine r_callVi (As := [.ref (adK 8)]) (rest := []) hF (c_X4_isWord l D cy ad adK adV r1.1 o0 8 r4 er4) (gW_goodV hcm qw502 qw499 qw501 qw5 qw65) hdX4_isWord rfl ⟨Nat.le_of_ble_eq_true rfl, Nat.le_of_ble_eq_true rfl⟩ rfl rfl hZ hK hw g2 (by decide) rfl rfl hl.1 rfl (Nat.le_of_ble_eq_true rfl) ⟨Nat.zero_le _, Nat.zero_le _⟩ dX4_readItem_19 (fun H locs hw => ?_)
    refine lv_if_eq (tgt := 31) hx hb dX4_readItem_22 (by decide) (fun c5 => ?_) (fun c5 => ?_)
    · replace h := if_some_t c5 h
      refine lv_aload_n hx hb dX4_readItem_31 rfl (lv_at hl 1 rfl) ?_
      refine va_ldcS (own := RX4) (tx := "law") (index := 55) (q := adK 10) hx hb hown (hZ.str stm10) dX4_readItem_32 ?_
      replace h := bd_some h
      obtain ⟨r6, er6, h⟩ := h
      refine r_callVi (As := [.ref (adK 10)]) (rest := []) hF (c_X4_isWord l D cy ad adK adV r4.1 o0 10 r6 er6) (gW_goodV hcm qw502 qw499 qw501 qw5 qw65) hdX4_isWord rfl ⟨Nat.le_of_ble_eq_true rfl, Nat.le_of_ble_eq_true rfl⟩ rfl rfl hZ hK hw g2 (by decide) rfl rfl hl.1 rfl (Nat.le_of_ble_eq_true rfl) ⟨Nat.zero_le _, Nat.zero_le _⟩ dX4_readItem_34 (fun H locs hw => ?_)
      refine lv_if_eq (tgt := 52) hx hb dX4_readItem_37 (by decide) (fun c7 => ?_) (fun c7 => ?_)
      · replace h := if_some_t c7 h
        refine lv_iconst (v := (0 : Int32)) hx hb dX4_readItem_52 (by decide) ?_
        exact r_iret hx hb hr rfl hlocks hZ hK hw h dX4_readItem_53
      · replace h := if_some_f c7 h
        refine lv_aload_n hx hb dX4_readItem_40 rfl (lv_at hl 1 rfl) ?_
        refine lv_aload_n hx hb dX4_readItem_41 rfl (lv_at hl 2 rfl) ?_
        replace h := bd_some h
        obtain ⟨r8, er8, h⟩ := h
        refine r_callVi (As := [.ref (ad a1)]) (rest := []) hF (c_X4_readLaw l D cy ad adK adV r6.1 o0 a1 r8 er8) (gW_goodV hcm qw582 qw579 qw581 qw10 qw65) hdX4_readLaw rfl ⟨Nat.le_of_ble_eq_true rfl, Nat.le_of_ble_eq_true rfl⟩ rfl rfl hZ hK hw g2 (by decide) rfl rfl hl.1 rfl (Nat.le_of_ble_eq_true rfl) ⟨Nat.zero_le _, Nat.zero_le _⟩ dX4_readItem_42 (fun H locs hw => ?_)
        refine lv_if_eq (tgt := 52) hx hb dX4_readItem_45 (by decide) (fun c9 => ?_) (fun c9 => ?_)
        · replace h := if_some_t c9 h
          refine lv_iconst (v := (0 : Int32)) hx hb dX4_readItem_52 (by decide) ?_
          exact r_iret hx hb hr rfl hlocks hZ hK hw h dX4_readItem_53
        · replace h := if_some_f c9 h
          refine lv_iconst (v := (1 : Int32)) hx hb dX4_readItem_48 (by decide) ?_
          refine lv_goto (tgt := 53) hx hb dX4_readItem_49 (by decide) ?_
          exact r_iret hx hb hr rfl hlocks hZ hK hw h dX4_readItem_53
    · replace h := if_some_f c5 h
      refine lv_aload_n hx hb dX4_readItem_25 rfl (lv_at hl 1 rfl) ?_
      refine lv_aload_n hx hb dX4_readItem_26 rfl (lv_at hl 2 rfl) ?_
      replace h := bd_some h
      obtain ⟨r10, er10, h⟩ := h
      refine r_callVi (As := [.ref (ad a1)]) (rest := []) hF (c_X4_readGame l D cy ad adK adV r4.1 o0 a1 r10 er10) (gW_goodV hcm qw575 qw572 qw574 qw9 qw65) hdX4_readGame rfl ⟨Nat.le_of_ble_eq_true rfl, Nat.le_of_ble_eq_true rfl⟩ rfl rfl hZ hK hw g2 (by decide) rfl rfl hl.1 rfl (Nat.le_of_ble_eq_true rfl) ⟨Nat.zero_le _, Nat.zero_le _⟩ dX4_readItem_27 (fun H locs hw => ?_)
      replace h := gd_some h
      obtain ⟨z11, h⟩ := h
      exact r_iret hx hb hr (nar_bz z11) hlocks hZ hK hw h dX4_readItem_30
  · replace h := if_some_f c3 h
    refine lv_aload_n hx hb dX4_readItem_9 rfl (lv_at hl 1 rfl) ?_
    refine lv_aload_n hx hb dX4_readItem_10 rfl (lv_at hl 2 rfl) ?_
    refine lv_iload_n hx hb dX4_readItem_11 rfl (lv_at hl 0 rfl) ?_
    replace h := bd_some h
    obtain ⟨r12, er12, h⟩ := h
    refine r_callVi (As := [.ref (ad a1), .int r1.2]) (rest := []) hF (c_X4_readSide l D cy ad adK adV r1.1 o0 a1 r1.2 r12 er12) (gW_goodV hcm qw560 qw557 qw559 qw6 qw65) hdX4_readSide rfl ⟨Nat.le_of_ble_eq_true rfl, Nat.le_of_ble_eq_true rfl⟩ rfl rfl hZ hK hw g2 (by decide) rfl rfl hl.1 rfl (Nat.le_of_ble_eq_true rfl) ⟨Nat.zero_le _, Nat.zero_le _⟩ dX4_readItem_12 (fun H locs hw => ?_)
    replace h := gd_some h
    obtain ⟨z13, h⟩ := h
    exact r_iret hx hb hr (nar_bz z13) hlocks hZ hK hw h dX4_readItem_15
theorem dX4_readInto_0 : decode cX4_readInto 0 = .ok (.aload_n 0, 1) := by decide +kernel
theorem dX4_readInto_1 : decode cX4_readInto 1 = .ok (.iconst 0, 1) := by decide +kernel
theorem dX4_readInto_2 : decode cX4_readInto 2 = .ok (.putfield 25, 3) := by decide +kernel
theorem dX4_readInto_5 : decode cX4_readInto 5 = .ok (.iconst 1, 1) := by decide +kernel
theorem dX4_readInto_6 : decode cX4_readInto 6 = .ok (.istore_n 2, 1) := by decide +kernel
theorem dX4_readInto_7 : decode cX4_readInto 7 = .ok (.iload_n 2, 1) := by decide +kernel
theorem dX4_readInto_8 : decode cX4_readInto 8 = .ok (.bipush 120, 2) := by decide +kernel
theorem dX4_readInto_10 : decode cX4_readInto 10 = .ok (.if_icmp .gt 52, 3) := by decide +kernel
theorem dX4_readInto_13 : decode cX4_readInto 13 = .ok (.aload_n 0, 1) := by decide +kernel
theorem dX4_readInto_14 : decode cX4_readInto 14 = .ok (.invokevirtual 31, 3) := by decide +kernel
theorem dX4_readInto_17 : decode cX4_readInto 17 = .ok (.aload_n 0, 1) := by decide +kernel
theorem dX4_readInto_18 : decode cX4_readInto 18 = .ok (.aload_n 1, 1) := by decide +kernel
theorem dX4_readInto_19 : decode cX4_readInto 19 = .ok (.invokevirtual 34, 3) := by decide +kernel
theorem dX4_readInto_22 : decode cX4_readInto 22 = .ok (.ifCond .ne 10, 3) := by decide +kernel
theorem dX4_readInto_25 : decode cX4_readInto 25 = .ok (.iconst (-1), 1) := by decide +kernel
theorem dX4_readInto_26 : decode cX4_readInto 26 = .ok (.aload_n 0, 1) := by decide +kernel
theorem dX4_readInto_27 : decode cX4_readInto 27 = .ok (.getfield 22, 3) := by decide +kernel
theorem dX4_readInto_30 : decode cX4_readInto 30 = .ok (.isub, 1) := by decide +kernel
theorem dX4_readInto_31 : decode cX4_readInto 31 = .ok (.ireturn, 1) := by decide +kernel
theorem dX4_readInto_32 : decode cX4_readInto 32 = .ok (.aload_n 0, 1) := by decide +kernel
theorem dX4_readInto_33 : decode cX4_readInto 33 = .ok (.getfield 19, 3) := by decide +kernel
theorem dX4_readInto_36 : decode cX4_readInto 36 = .ok (.ifCond .ne 5, 3) := by decide +kernel
theorem dX4_readInto_39 : decode cX4_readInto 39 = .ok (.iload_n 2, 1) := by decide +kernel
theorem dX4_readInto_40 : decode cX4_readInto 40 = .ok (.ireturn, 1) := by decide +kernel
theorem dX4_readInto_41 : decode cX4_readInto 41 = .ok (.aload_n 0, 1) := by decide +kernel
theorem dX4_readInto_42 : decode cX4_readInto 42 = .ok (.getfield 19, 3) := by decide +kernel
theorem dX4_readInto_45 : decode cX4_readInto 45 = .ok (.iconst 3, 1) := by decide +kernel
theorem dX4_readInto_46 : decode cX4_readInto 46 = .ok (.if_icmp .eq 10, 3) := by decide +kernel
theorem dX4_readInto_49 : decode cX4_readInto 49 = .ok (.iconst (-1), 1) := by decide +kernel
theorem dX4_readInto_50 : decode cX4_readInto 50 = .ok (.aload_n 0, 1) := by decide +kernel
theorem dX4_readInto_51 : decode cX4_readInto 51 = .ok (.getfield 22, 3) := by decide +kernel
theorem dX4_readInto_54 : decode cX4_readInto 54 = .ok (.isub, 1) := by decide +kernel
theorem dX4_readInto_55 : decode cX4_readInto 55 = .ok (.ireturn, 1) := by decide +kernel
theorem dX4_readInto_56 : decode cX4_readInto 56 = .ok (.iinc 2 1, 3) := by decide +kernel
theorem dX4_readInto_59 : decode cX4_readInto 59 = .ok (.goto (-52), 3) := by decide +kernel
theorem dX4_readInto_62 : decode cX4_readInto 62 = .ok (.iconst (-1), 1) := by decide +kernel
theorem dX4_readInto_63 : decode cX4_readInto 63 = .ok (.aload_n 0, 1) := by decide +kernel
theorem dX4_readInto_64 : decode cX4_readInto 64 = .ok (.getfield 15, 3) := by decide +kernel
theorem dX4_readInto_67 : decode cX4_readInto 67 = .ok (.isub, 1) := by decide +kernel
theorem dX4_readInto_68 : decode cX4_readInto 68 = .ok (.ireturn, 1) := by decide +kernel
set_option maxHeartbeats 4000000 in
set_option maxRecDepth 100000 in
theorem c_X4_readInto (l : Launch) (D : va_G) (cy : Nat → ClassId) (ad adK adV : Nat → Nat) (M : Mm) (o0 : Nat) (a1 : Nat) (res : Mm × Int32) (h : f_X4_readInto M o0 a1 = some res) : Met l yX4_readInto (wU yX4_readInto cX4_readInto 3 (some .int)) rmX4_readInto (va_Pc [.ref (ad o0), .ref (ad a1)] (Pre D cy shX ad nX adK adV M)) (va_Qi (fun r (M2 : Mm) => r = res.2 ∧ M2 = res.1) (Pre D cy shX ad nX adK adV) (Aw ad nX)) 0 0 (Aw ad nX) := by
  refine Met.ofW (cc := cX4_readInto) (maxL := 3) (ret := (some .int)) (by decide) rfl ?_
  intro p e s m args below meth c s₁ B hml hv
  obtain ⟨hargs, hPre⟩ := hv
  have hx := B.exec
  have hb := B.bytes
  have hr := B.returns
  have hts := atoms_spec (ws := wU yX4_readInto cX4_readInto 3 (some .int)) B.pre
  have hq : ∀ w ∈ gW, w.before args s = true := fun w hw => hts w (List.mem_cons_of_mem _ hw)
  have hcm : ∀ w ∈ gW, w ∈ wU yX4_readInto cX4_readInto 3 (some .int) := fun w hw => List.mem_cons_of_mem _ hw
  have hown : s.vm.findClass RX4 = some m.cls := findClass_of_methodNamed B.named
  have hlocks := B.notSynchronized
  have hF : CallFix p m c cX4_readInto 3 s args (wU yX4_readInto cX4_readInto 3 (some .int)) RX4 := ⟨hx, hb, hml, hown, hts⟩
  have hK := hPre.2.1
  have hZ := hPre.2.2.2
  have hw : Wd D cy shX ad nX (Aw ad nX) s.heap M s.heap [] := ⟨hPre.1, hPre.2.2.1, va_S.rf⟩
  have iw4 : ∀ w ∈ u_ws RX4 TX4 6, w ∈ wU yX4_readInto cX4_readInto 3 (some .int) := fun w hw => List.mem_cons_of_mem _ (iX4 w hw)
  rw [show entryFrame m args 3 = entryFrame m ([.ref (ad o0), .ref (ad a1)] : List Value).toArray 3 from by rw [hargs]]
  have hl := lv_entry ([.ref (ad o0), .ref (ad a1)]) (n := 3) (Nat.le_of_ble_eq_true rfl)
  rw [lg_entry_eq]
  generalize (lg_sl ([.ref (ad o0), .ref (ad a1)]) ++ List.replicate (3 - (lg_sl ([.ref (ad o0), .ref (ad a1)])).length) Slot.unset).toArray = ls at hl ⊢
  have hl : lv_has ls 3 [(0, .ref (ad o0)), (1, .ref (ad a1))] := hl
  have hb7 : ∀ (nn : Nat), ∀ (M : Mm) (x0 : Nat) (x1 : Nat) (x2 : Int32), f_X4_readInto_b7 nn M x0 x1 x2 = some res → ∀ (H : Heap) (locs : List Loc) (ls : Array Slot), Wd D cy shX ad nX (Aw ad nX) s.heap M H locs → lv_has ls 3 [(0, .ref (ad x0)), (1, .ref (ad x1)), (2, .int x2)] → W p l e (headSpec (wU yX4_readInto cX4_readInto 3 (some .int)) rmX4_readInto).room s m args below meth c H locs 0 0 (QI D cy shX ad nX adK adV below args s res) (F0 m 7 ls []) := by
    intro nn
    induction nn with
    | zero => intro M x0 x1 x2 h; simp [f_X4_readInto_b7] at h
    | succ nn ih =>
      intro M x0 x1 x2 h H locs ls hw hl
      unfold f_X4_readInto_b7 at h
      refine lv_iload_n hx hb dX4_readInto_7 rfl (lv_at hl 2 rfl) ?_
      refine lv_bipush (v := (120 : Int32)) hx hb dX4_readInto_8 (by decide) ?_
      refine lv_icmp_gt (tgt := 62) hx hb dX4_readInto_10 (by decide) (fun c1 => ?_) (fun c1 => ?_)
      · replace h := if_some_t c1 h
        refine lv_iconst (v := (-1 : Int32)) hx hb dX4_readInto_62 (by decide) ?_
        refine lv_aload_n hx hb dX4_readInto_63 rfl (lv_at hl 0 rfl) ?_
        replace h := gd_some h
        obtain ⟨g2, h⟩ := h
        refine r_getI hx hb hts iw4 hown hK hw x0 1 g2 (by decide) rfl (by decide) rfl (hq _ qw296) (fun _ h9 => h9) dX4_readInto_64 ?_
        refine lv_isub hx hb dX4_readInto_67 ?_
        exact r_iret hx hb hr rfl hlocks hZ hK hw h dX4_readInto_68
      · replace h := if_some_f c1 h
        refine lv_aload_n hx hb dX4_readInto_13 rfl (lv_at hl 0 rfl) ?_
        replace h := gd_some h
        obtain ⟨g4, h⟩ := h
        replace h := bd_some h
        obtain ⟨r3, er3, h⟩ := h
        refine r_callVv (As := []) (rest := []) hF (c_X4_goOn l D cy ad adK adV M x0 r3 er3) (gW_goodV hcm qw476 qw473 qw475 qw1 qw65) hdX4_goOn rfl ⟨Nat.le_of_ble_eq_true rfl, Nat.le_of_ble_eq_true rfl⟩ rfl rfl hZ hK hw g4 (by decide) rfl rfl hl.1 rfl (Nat.le_of_ble_eq_true rfl) ⟨Nat.zero_le _, Nat.zero_le _⟩ dX4_readInto_14 (fun H locs hw => ?_)
        refine lv_aload_n hx hb dX4_readInto_17 rfl (lv_at hl 0 rfl) ?_
        refine lv_aload_n hx hb dX4_readInto_18 rfl (lv_at hl 1 rfl) ?_
        replace h := bd_some h
        obtain ⟨r5, er5, h⟩ := h
        refine r_callVi (As := [.ref (ad x1)]) (rest := []) hF (c_X4_readItem l D cy ad adK adV r3.1 x0 x1 r5 er5) (gW_goodV hcm qw493 qw490 qw492 qw3 qw65) hdX4_readItem rfl ⟨Nat.le_of_ble_eq_true rfl, Nat.le_of_ble_eq_true rfl⟩ rfl rfl hZ hK hw g4 (by decide) rfl rfl hl.1 rfl (Nat.le_of_ble_eq_true rfl) ⟨Nat.zero_le _, Nat.zero_le _⟩ dX4_readInto_19 (fun H locs hw => ?_)
        refine lv_if_ne (tgt := 32) hx hb dX4_readInto_22 (by decide) (fun c6 => ?_) (fun c6 => ?_)
        · replace h := if_some_f c6 h
          refine lv_aload_n hx hb dX4_readInto_32 rfl (lv_at hl 0 rfl) ?_
          refine r_getI hx hb hts iw4 hown hK hw x0 2 g4 (by decide) rfl (by decide) rfl (hq _ qw298) (fun _ h9 => h9) dX4_readInto_33 ?_
          refine lv_if_ne (tgt := 41) hx hb dX4_readInto_36 (by decide) (fun c7 => ?_) (fun c7 => ?_)
          · replace h := if_some_f c7 h
            refine lv_aload_n hx hb dX4_readInto_41 rfl (lv_at hl 0 rfl) ?_
            refine r_getI hx hb hts iw4 hown hK hw x0 2 g4 (by decide) rfl (by decide) rfl (hq _ qw298) (fun _ h9 => h9) dX4_readInto_42 ?_
            refine lv_iconst (v := (3 : Int32)) hx hb dX4_readInto_45 (by decide) ?_
            refine lv_icmp_eq (tgt := 56) hx hb dX4_readInto_46 (by decide) (fun c8 => ?_) (fun c8 => ?_)
            · replace h := if_some_t c8 h
              refine lv_iinc (v := x2 + (1 : Int32)) (lv' := [(2, .int (x2 + (1 : Int32))), (0, .ref (ad x0)), (1, .ref (ad x1))]) hx hb dX4_readInto_56 hl (k := 2) rfl (congrArg (fun z => x2 + z) (by decide)) (by decide) rfl (fun ls hl => ?_)
              refine lv_goto (tgt := 7) hx hb dX4_readInto_59 (by decide) ?_
              exact ih _ _ _ _ h _ _ _ hw (lv_sub hl [1, 2, 0] rfl)
            · replace h := if_some_f c8 h
              refine lv_iconst (v := (-1 : Int32)) hx hb dX4_readInto_49 (by decide) ?_
              refine lv_aload_n hx hb dX4_readInto_50 rfl (lv_at hl 0 rfl) ?_
              refine r_getI hx hb hts iw4 hown hK hw x0 3 g4 (by decide) rfl (by decide) rfl (hq _ qw299) (fun _ h9 => h9) dX4_readInto_51 ?_
              refine lv_isub hx hb dX4_readInto_54 ?_
              exact r_iret hx hb hr rfl hlocks hZ hK hw h dX4_readInto_55
          · replace h := if_some_t c7 h
            refine lv_iload_n hx hb dX4_readInto_39 rfl (lv_at hl 2 rfl) ?_
            exact r_iret hx hb hr rfl hlocks hZ hK hw h dX4_readInto_40
        · replace h := if_some_t c6 h
          refine lv_iconst (v := (-1 : Int32)) hx hb dX4_readInto_25 (by decide) ?_
          refine lv_aload_n hx hb dX4_readInto_26 rfl (lv_at hl 0 rfl) ?_
          refine r_getI hx hb hts iw4 hown hK hw x0 3 g4 (by decide) rfl (by decide) rfl (hq _ qw299) (fun _ h9 => h9) dX4_readInto_27 ?_
          refine lv_isub hx hb dX4_readInto_30 ?_
          exact r_iret hx hb hr rfl hlocks hZ hK hw h dX4_readInto_31
  unfold f_X4_readInto at h
  refine lv_aload_n hx hb dX4_readInto_0 rfl (lv_at hl 0 rfl) ?_
  refine lv_iconst (v := (0 : Int32)) hx hb dX4_readInto_1 (by decide) ?_
  replace h := gd_some h
  obtain ⟨g9, h⟩ := h
  refine r_putI hx hb hts iw4 tyX4 tyX4_ok nmX4 hown hK hw o0 4 g9 (by decide) rfl (by decide) rfl (hq _ qw300) (fun _ h9 => h9) rfl rfl rfl dX4_readInto_2 (fun H locs hw => ?_)
  replace h := lt_some h
  obtain ⟨M10, eM10, h⟩ := h
  rw [← eM10] at hw
  refine lv_iconst (v := (1 : Int32)) hx hb dX4_readInto_5 (by decide) ?_
  refine lv_istore_n (lv' := [(2, .int (1 : Int32)), (0, .ref (ad o0)), (1, .ref (ad a1))]) hx hb dX4_readInto_6 rfl hl (by decide) rfl (fun ls hl => ?_)
  exact hb7 1000 _ _ _ _ h _ _ _ hw (lv_sub hl [1, 2, 0] rfl)
theorem dX5_arrive_0 : decode cX5_arrive 0 = .ok (.aload_n 0, 1) := by decide +kernel
theorem dX5_arrive_1 : decode cX5_arrive 1 = .ok (.getfield 12, 3) := by decide +kernel
theorem dX5_arrive_4 : decode cX5_arrive 4 = .ok (.getfield 82, 3) := by decide +kernel
theorem dX5_arrive_7 : decode cX5_arrive 7 = .ok (.aload_n 0, 1) := by decide +kernel
theorem dX5_arrive_8 : decode cX5_arrive 8 = .ok (.getfield 42, 3) := by decide +kernel
theorem dX5_arrive_11 : decode cX5_arrive 11 = .ok (.aaload, 1) := by decide +kernel
theorem dX5_arrive_12 : decode cX5_arrive 12 = .ok (.getfield 86, 3) := by decide +kernel
theorem dX5_arrive_15 : decode cX5_arrive 15 = .ok (.istore_n 3, 1) := by decide +kernel
theorem dX5_arrive_16 : decode cX5_arrive 16 = .ok (.aload_n 0, 1) := by decide +kernel
theorem dX5_arrive_17 : decode cX5_arrive 17 = .ok (.aload_n 0, 1) := by decide +kernel
theorem dX5_arrive_18 : decode cX5_arrive 18 = .ok (.getfield 55, 3) := by decide +kernel
theorem dX5_arrive_21 : decode cX5_arrive 21 = .ok (.iload_n 3, 1) := by decide +kernel
theorem dX5_arrive_22 : decode cX5_arrive 22 = .ok (.invokestatic 135, 3) := by decide +kernel
theorem dX5_arrive_25 : decode cX5_arrive 25 = .ok (.putfield 55, 3) := by decide +kernel
theorem dX5_arrive_28 : decode cX5_arrive 28 = .ok (.lload_n 1, 1) := by decide +kernel
theorem dX5_arrive_29 : decode cX5_arrive 29 = .ok (.lconst 0, 1) := by decide +kernel
theorem dX5_arrive_30 : decode cX5_arrive 30 = .ok (.lcmp, 1) := by decide +kernel
theorem dX5_arrive_31 : decode cX5_arrive 31 = .ok (.ifCond .ne 4, 3) := by decide +kernel
theorem dX5_arrive_34 : decode cX5_arrive 34 = .ok (.return_, 1) := by decide +kernel
theorem dX5_arrive_35 : decode cX5_arrive 35 = .ok (.aload_n 0, 1) := by decide +kernel
theorem dX5_arrive_36 : decode cX5_arrive 36 = .ok (.dup, 1) := by decide +kernel
theorem dX5_arrive_37 : decode cX5_arrive 37 = .ok (.getfield 38, 3) := by decide +kernel
theorem dX5_arrive_40 : decode cX5_arrive 40 = .ok (.iconst 1, 1) := by decide +kernel
theorem dX5_arrive_41 : decode cX5_arrive 41 = .ok (.iadd, 1) := by decide +kernel
theorem dX5_arrive_42 : decode cX5_arrive 42 = .ok (.putfield 38, 3) := by decide +kernel
theorem dX5_arrive_45 : decode cX5_arrive 45 = .ok (.aload_n 0, 1) := by decide +kernel
theorem dX5_arrive_46 : decode cX5_arrive 46 = .ok (.dup, 1) := by decide +kernel
theorem dX5_arrive_47 : decode cX5_arrive 47 = .ok (.getfield 52, 3) := by decide +kernel
theorem dX5_arrive_50 : decode cX5_arrive 50 = .ok (.iload_n 3, 1) := by decide +kernel
theorem dX5_arrive_51 : decode cX5_arrive 51 = .ok (.aload_n 0, 1) := by decide +kernel
theorem dX5_arrive_52 : decode cX5_arrive 52 = .ok (.getfield 45, 3) := by decide +kernel
theorem dX5_arrive_55 : decode cX5_arrive 55 = .ok (.if_icmp .lt 7, 3) := by decide +kernel
theorem dX5_arrive_58 : decode cX5_arrive 58 = .ok (.lload_n 1, 1) := by decide +kernel
theorem dX5_arrive_59 : decode cX5_arrive 59 = .ok (.goto 4, 3) := by decide +kernel
theorem dX5_arrive_62 : decode cX5_arrive 62 = .ok (.lconst 0, 1) := by decide +kernel
theorem dX5_arrive_63 : decode cX5_arrive 63 = .ok (.ladd, 1) := by decide +kernel
theorem dX5_arrive_64 : decode cX5_arrive 64 = .ok (.putfield 52, 3) := by decide +kernel
theorem dX5_arrive_67 : decode cX5_arrive 67 = .ok (.aload_n 0, 1) := by decide +kernel
theorem dX5_arrive_68 : decode cX5_arrive 68 = .ok (.getfield 12, 3) := by decide +kernel
theorem dX5_arrive_71 : decode cX5_arrive 71 = .ok (.invokevirtual 140, 3) := by decide +kernel
theorem dX5_arrive_74 : decode cX5_arrive 74 = .ok (.istore 4, 2) := by decide +kernel
theorem dX5_arrive_76 : decode cX5_arrive 76 = .ok (.iload 4, 2) := by decide +kernel
theorem dX5_arrive_78 : decode cX5_arrive 78 = .ok (.iconst (-1), 1) := by decide +kernel
theorem dX5_arrive_79 : decode cX5_arrive 79 = .ok (.if_icmp .eq 14, 3) := by decide +kernel
theorem dX5_arrive_82 : decode cX5_arrive 82 = .ok (.aload_n 0, 1) := by decide +kernel
theorem dX5_arrive_83 : decode cX5_arrive 83 = .ok (.getfield 22, 3) := by decide +kernel
theorem dX5_arrive_86 : decode cX5_arrive 86 = .ok (.iload 4, 2) := by decide +kernel
theorem dX5_arrive_88 : decode cX5_arrive 88 = .ok (.dup2, 1) := by decide +kernel
theorem dX5_arrive_89 : decode cX5_arrive 89 = .ok (.laload, 1) := by decide +kernel
theorem dX5_arrive_90 : decode cX5_arrive 90 = .ok (.lload_n 1, 1) := by decide +kernel
theorem dX5_arrive_91 : decode cX5_arrive 91 = .ok (.ladd, 1) := by decide +kernel
theorem dX5_arrive_92 : decode cX5_arrive 92 = .ok (.lastore, 1) := by decide +kernel
theorem dX5_arrive_93 : decode cX5_arrive 93 = .ok (.return_, 1) := by decide +kernel
set_option maxHeartbeats 4000000 in
set_option maxRecDepth 100000 in
theorem c_X5_arrive (l : Launch) (D : va_G) (cy : Nat → ClassId) (ad adK adV : Nat → Nat) (M : Mm) (o0 : Nat) (a1 : Int64) (res : Mm × Unit) (h : f_X5_arrive M o0 a1 = some res) : Met l yX5_arrive (wU yX5_arrive cX5_arrive 5 none) rmX5_arrive (va_Pc [.ref (ad o0), .long a1] (Pre D cy shX ad nX adK adV M)) (va_Qv (fun (M2 : Mm) => M2 = res.1) (Pre D cy shX ad nX adK adV) (Aw ad nX)) 0 0 (Aw ad nX) := by
  refine Met.ofW (cc := cX5_arrive) (maxL := 5) (ret := none) (by decide) rfl ?_
  intro p e s m args below meth c s₁ B hml hv
  obtain ⟨hargs, hPre⟩ := hv
  have hx := B.exec
  have hb := B.bytes
  have hr := B.returns
  have hts := atoms_spec (ws := wU yX5_arrive cX5_arrive 5 none) B.pre
  have hq : ∀ w ∈ gW, w.before args s = true := fun w hw => hts w (List.mem_cons_of_mem _ hw)
  have hcm : ∀ w ∈ gW, w ∈ wU yX5_arrive cX5_arrive 5 none := fun w hw => List.mem_cons_of_mem _ hw
  have hown : s.vm.findClass RX5 = some m.cls := findClass_of_methodNamed B.named
  have hlocks := B.notSynchronized
  have hF : CallFix p m c cX5_arrive 5 s args (wU yX5_arrive cX5_arrive 5 none) RX5 := ⟨hx, hb, hml, hown, hts⟩
  have hK := hPre.2.1
  have hZ := hPre.2.2.2
  have hw : Wd D cy shX ad nX (Aw ad nX) s.heap M s.heap [] := ⟨hPre.1, hPre.2.2.1, va_S.rf⟩
  have iw1 : ∀ w ∈ u_ws RX1 TX1 11, w ∈ wU yX5_arrive cX5_arrive 5 none := fun w hw => List.mem_cons_of_mem _ (iX1 w hw)
  have iw3 : ∀ w ∈ u_ws RX3 TX3 6, w ∈ wU yX5_arrive cX5_arrive 5 none := fun w hw => List.mem_cons_of_mem _ (iX3 w hw)
  have iw5 : ∀ w ∈ u_ws RX5 TX5 13, w ∈ wU yX5_arrive cX5_arrive 5 none := fun w hw => List.mem_cons_of_mem _ (iX5 w hw)
  rw [show entryFrame m args 5 = entryFrame m ([.ref (ad o0), .long a1] : List Value).toArray 5 from by rw [hargs]]
  have hl := lv_entry ([.ref (ad o0), .long a1]) (n := 5) (Nat.le_of_ble_eq_true rfl)
  rw [lg_entry_eq]
  generalize (lg_sl ([.ref (ad o0), .long a1]) ++ List.replicate (5 - (lg_sl ([.ref (ad o0), .long a1])).length) Slot.unset).toArray = ls at hl ⊢
  have hl : lv_has ls 5 [(0, .ref (ad o0)), (1, .long a1)] := hl
  have hb63 : ∀ (M : Mm) (x0 : Nat) (x1 : Int64) (t0 : Nat) (t1 : Int64) (t2 : Int64), f_X5_arrive_b63 M x0 x1 t0 t1 t2 = some res → ∀ (H : Heap) (locs : List Loc) (ls : Array Slot), Wd D cy shX ad nX (Aw ad nX) s.heap M H locs → lv_has ls 5 [(0, .ref (ad x0)), (1, .long x1)] → W p l e (headSpec (wU yX5_arrive cX5_arrive 5 none) rmX5_arrive).room s m args below meth c H locs 0 0 (QV D cy shX ad nX adK adV below args s res) (F0 m 63 ls [.long t2, .long t1, .ref (ad t0)]) := by
    intro M x0 x1 t0 t1 t2 h H locs ls hw hl
    unfold f_X5_arrive_b63 at h
    refine lv_ladd hx hb dX5_arrive_63 ?_
    replace h := gd_some h
    obtain ⟨g1, h⟩ := h
    refine r_putL hx hb hts iw5 tyX5 tyX5_ok nmX5 hown hK hw t0 11 g1 (by decide) rfl (by decide) rfl (hq _ qw257) (fun _ h9 => h9) rfl rfl rfl dX5_arrive_64 (fun H locs hw => ?_)
    replace h := lt_some h
    obtain ⟨M2, eM2, h⟩ := h
    rw [← eM2] at hw
    refine lv_aload_n hx hb dX5_arrive_67 rfl (lv_at hl 0 rfl) ?_
    replace h := gd_some h
    obtain ⟨g3, h⟩ := h
    replace h := bd_some h
    obtain ⟨q4, eq4, h⟩ := h
    refine r_getR hx hb hts iw5 hown hK hw x0 0 g3 (by decide) rfl (by decide) rfl (hq _ qw239) (fun _ h9 => h9) dX5_arrive_68 eq4 ?_
    replace h := gd_some h
    obtain ⟨g6, h⟩ := h
    replace h := bd_some h
    obtain ⟨r5, er5, h⟩ := h
    refine r_callVi (As := []) (rest := []) hF (c_X1_leader l D cy ad adK adV M2 q4 r5 er5) (gW_goodV hcm qw661 qw695 qw659 qw660 qw61) hdX1_leader rfl ⟨Nat.le_of_ble_eq_true rfl, Nat.le_of_ble_eq_true rfl⟩ rfl rfl hZ hK hw g6 (by decide) rfl rfl hl.1 rfl (Nat.le_of_ble_eq_true rfl) ⟨Nat.zero_le _, Nat.zero_le _⟩ dX5_arrive_71 (fun H locs hw => ?_)
    refine lv_istore (lv' := [(4, .int r5.2), (0, .ref (ad x0)), (1, .long x1)]) hx hb dX5_arrive_74 hl (by decide) rfl (fun ls hl => ?_)
    refine lv_iload hx hb dX5_arrive_76 (lv_at hl 0 rfl) ?_
    refine lv_iconst (v := (-1 : Int32)) hx hb dX5_arrive_78 (by decide) ?_
    refine lv_icmp_eq (tgt := 93) hx hb dX5_arrive_79 (by decide) (fun c7 => ?_) (fun c7 => ?_)
    · replace h := if_some_t c7 h
      exact r_vret hx hb hr hlocks hZ hK hw h dX5_arrive_93
    · replace h := if_some_f c7 h
      refine lv_aload_n hx hb dX5_arrive_82 rfl (lv_at hl 1 rfl) ?_
      replace h := bd_some h
      obtain ⟨q8, eq8, h⟩ := h
      refine r_getR hx hb hts iw5 hown hK hw x0 2 g3 (by decide) rfl (by decide) rfl (hq _ qw243) (fun _ h9 => h9) dX5_arrive_83 eq8 ?_
      refine lv_iload hx hb dX5_arrive_86 (lv_at hl 0 rfl) ?_
      refine lv_dup2_11 hx hb dX5_arrive_88 rfl rfl ?_
      replace h := gd_some h
      obtain ⟨g9, h⟩ := h
      refine r_lald hx hb hK hw q8 g9 dX5_arrive_89 ?_
      refine lv_lload_n hx hb dX5_arrive_90 rfl (lv_at hl 2 rfl) ?_
      refine lv_ladd hx hb dX5_arrive_91 ?_
      replace h := gd_some h
      obtain ⟨g10, h⟩ := h
      refine r_last hx hb hK hw q8 g10 dX5_arrive_92 (fun H locs hw => ?_)
      replace h := lt_some h
      obtain ⟨M11, eM11, h⟩ := h
      rw [← eM11] at hw
      exact r_vret hx hb hr hlocks hZ hK hw h dX5_arrive_93
  unfold f_X5_arrive at h
  refine lv_aload_n hx hb dX5_arrive_0 rfl (lv_at hl 0 rfl) ?_
  replace h := gd_some h
  obtain ⟨g12, h⟩ := h
  replace h := bd_some h
  obtain ⟨q13, eq13, h⟩ := h
  refine r_getR hx hb hts iw5 hown hK hw o0 0 g12 (by decide) rfl (by decide) rfl (hq _ qw239) (fun _ h9 => h9) dX5_arrive_1 eq13 ?_
  replace h := gd_some h
  obtain ⟨g14, h⟩ := h
  replace h := bd_some h
  obtain ⟨q15, eq15, h⟩ := h
  refine r_getR hx hb hts iw1 hown hK hw q13 0 g14 (by decide) rfl (by decide) rfl (hq _ qw183) (fun _ h9 => h9) dX5_arrive_4 eq15 ?_
  refine lv_aload_n hx hb dX5_arrive_7 rfl (lv_at hl 0 rfl) ?_
  refine r_getI hx hb hts iw5 hown hK hw o0 8 g12 (by decide) rfl (by decide) rfl (hq _ qw254) (fun _ h9 => h9) dX5_arrive_8 ?_
  replace h := gd_some h
  obtain ⟨g16, h⟩ := h
  replace h := bd_some h
  obtain ⟨q17, eq17, h⟩ := h
  refine r_aald hx hb hK hw q15 2 (by decide) rfl g16 dX5_arrive_11 eq17 ?_
  replace h := gd_some h
  obtain ⟨g18, h⟩ := h
  refine r_getI hx hb hts iw3 hown hK hw q17 3 g18 (by decide) rfl (by decide) rfl (hq _ qw108) (fun _ h9 => h9) dX5_arrive_12 ?_
  refine lv_istore_n (lv' := [(3, .int (M.1 q17 3)), (0, .ref (ad o0)), (1, .long a1)]) hx hb dX5_arrive_15 rfl hl (by decide) rfl (fun ls hl => ?_)
  refine lv_aload_n hx hb dX5_arrive_16 rfl (lv_at hl 1 rfl) ?_
  refine lv_aload_n hx hb dX5_arrive_17 rfl (lv_at hl 1 rfl) ?_
  refine r_getI hx hb hts iw5 hown hK hw o0 12 g12 (by decide) rfl (by decide) rfl (hq _ qw259) (fun _ h9 => h9) dX5_arrive_18 ?_
  refine lv_iload_n hx hb dX5_arrive_21 rfl (lv_at hl 0 rfl) ?_
  refine va_mmax hx hb (hml.trans hl.1.symm) hown (hq _ qw694) (hq _ qw611) (hq _ qw69) (hq _ qw612) (Nat.le_of_ble_eq_true rfl) (Nat.le_of_ble_eq_true rfl) (Nat.zero_le _) (Nat.zero_le _) dX5_arrive_22 ?_
  refine r_putI hx hb hts iw5 tyX5 tyX5_ok nmX5 hown hK hw o0 12 g12 (by decide) rfl (by decide) rfl (hq _ qw259) (fun _ h9 => h9) rfl rfl rfl dX5_arrive_25 (fun H locs hw => ?_)
  replace h := lt_some h
  obtain ⟨M19, eM19, h⟩ := h
  rw [← eM19] at hw
  refine lv_lload_n hx hb dX5_arrive_28 rfl (lv_at hl 2 rfl) ?_
  refine lv_lconst (v := (0 : Int64)) hx hb dX5_arrive_29 (by decide) ?_
  refine W.lcmp hx hb dX5_arrive_30 ?_
  refine lv_if_ne (tgt := 35) hx hb dX5_arrive_31 (by decide) (fun c20 => ?_) (fun c20 => ?_)
  · replace h := if_some_f c20 h
    refine lv_aload_n hx hb dX5_arrive_35 rfl (lv_at hl 1 rfl) ?_
    refine lv_dup hx hb dX5_arrive_36 rfl ?_
    refine r_getI hx hb hts iw5 hown hK hw o0 7 g12 (by decide) rfl (by decide) rfl (hq _ qw252) (fun _ h9 => h9) dX5_arrive_37 ?_
    refine lv_iconst (v := (1 : Int32)) hx hb dX5_arrive_40 (by decide) ?_
    refine lv_iadd hx hb dX5_arrive_41 ?_
    refine r_putI hx hb hts iw5 tyX5 tyX5_ok nmX5 hown hK hw o0 7 g12 (by decide) rfl (by decide) rfl (hq _ qw252) (fun _ h9 => h9) rfl rfl rfl dX5_arrive_42 (fun H locs hw => ?_)
    replace h := lt_some h
    obtain ⟨M21, eM21, h⟩ := h
    rw [← eM21] at hw
    refine lv_aload_n hx hb dX5_arrive_45 rfl (lv_at hl 1 rfl) ?_
    refine lv_dup hx hb dX5_arrive_46 rfl ?_
    refine r_getL hx hb hts iw5 hown hK hw o0 11 g12 (by decide) rfl (by decide) rfl (hq _ qw257) (fun _ h9 => h9) dX5_arrive_47 ?_
    refine lv_iload_n hx hb dX5_arrive_50 rfl (lv_at hl 0 rfl) ?_
    refine lv_aload_n hx hb dX5_arrive_51 rfl (lv_at hl 1 rfl) ?_
    refine r_getI hx hb hts iw5 hown hK hw o0 9 g12 (by decide) rfl (by decide) rfl (hq _ qw255) (fun _ h9 => h9) dX5_arrive_52 ?_
    refine lv_icmp_lt (tgt := 62) hx hb dX5_arrive_55 (by decide) (fun c22 => ?_) (fun c22 => ?_)
    · replace h := if_some_t c22 h
      refine lv_lconst (v := (0 : Int64)) hx hb dX5_arrive_62 (by decide) ?_
      exact hb63 _ _ _ _ _ _ h _ _ _ hw (lv_sub hl [1, 2] rfl)
    · replace h := if_some_f c22 h
      refine lv_lload_n hx hb dX5_arrive_58 rfl (lv_at hl 2 rfl) ?_
      refine lv_goto (tgt := 63) hx hb dX5_arrive_59 (by decide) ?_
      exact hb63 _ _ _ _ _ _ h _ _ _ hw (lv_sub hl [1, 2] rfl)
  · replace h := if_some_t c20 h
    exact r_vret hx hb hr hlocks hZ hK hw h dX5_arrive_34
theorem dX5_follow_0 : decode cX5_follow 0 = .ok (.aload_n 0, 1) := by decide +kernel
theorem dX5_follow_1 : decode cX5_follow 1 = .ok (.getfield 12, 3) := by decide +kernel
theorem dX5_follow_4 : decode cX5_follow 4 = .ok (.astore 4, 2) := by decide +kernel
theorem dX5_follow_6 : decode cX5_follow 6 = .ok (.aload 4, 2) := by decide +kernel
theorem dX5_follow_8 : decode cX5_follow 8 = .ok (.invokevirtual 106, 3) := by decide +kernel
theorem dX5_follow_11 : decode cX5_follow 11 = .ok (.ifCond .eq 9, 3) := by decide +kernel
theorem dX5_follow_14 : decode cX5_follow 14 = .ok (.aload_n 0, 1) := by decide +kernel
theorem dX5_follow_15 : decode cX5_follow 15 = .ok (.lload_n 2, 1) := by decide +kernel
theorem dX5_follow_16 : decode cX5_follow 16 = .ok (.invokevirtual 110, 3) := by decide +kernel
theorem dX5_follow_19 : decode cX5_follow 19 = .ok (.return_, 1) := by decide +kernel
theorem dX5_follow_20 : decode cX5_follow 20 = .ok (.iload_n 1, 1) := by decide +kernel
theorem dX5_follow_21 : decode cX5_follow 21 = .ok (.bipush 8, 2) := by decide +kernel
theorem dX5_follow_23 : decode cX5_follow 23 = .ok (.if_icmp .lt 4, 3) := by decide +kernel
theorem dX5_follow_26 : decode cX5_follow 26 = .ok (.return_, 1) := by decide +kernel
theorem dX5_follow_27 : decode cX5_follow 27 = .ok (.aload 4, 2) := by decide +kernel
theorem dX5_follow_29 : decode cX5_follow 29 = .ok (.getfield 58, 3) := by decide +kernel
theorem dX5_follow_32 : decode cX5_follow 32 = .ok (.istore 5, 2) := by decide +kernel
theorem dX5_follow_34 : decode cX5_follow 34 = .ok (.aload 4, 2) := by decide +kernel
theorem dX5_follow_36 : decode cX5_follow 36 = .ok (.getfield 91, 3) := by decide +kernel
theorem dX5_follow_39 : decode cX5_follow 39 = .ok (.iload 5, 2) := by decide +kernel
theorem dX5_follow_41 : decode cX5_follow 41 = .ok (.aaload, 1) := by decide +kernel
theorem dX5_follow_42 : decode cX5_follow 42 = .ok (.astore 6, 2) := by decide +kernel
theorem dX5_follow_44 : decode cX5_follow 44 = .ok (.aload 4, 2) := by decide +kernel
theorem dX5_follow_46 : decode cX5_follow 46 = .ok (.aload 6, 2) := by decide +kernel
theorem dX5_follow_48 : decode cX5_follow 48 = .ok (.getfield 100, 3) := by decide +kernel
theorem dX5_follow_51 : decode cX5_follow 51 = .ok (.invokevirtual 114, 3) := by decide +kernel
theorem dX5_follow_54 : decode cX5_follow 54 = .ok (.istore 7, 2) := by decide +kernel
theorem dX5_follow_56 : decode cX5_follow 56 = .ok (.aload 4, 2) := by decide +kernel
theorem dX5_follow_58 : decode cX5_follow 58 = .ok (.aload 6, 2) := by decide +kernel
theorem dX5_follow_60 : decode cX5_follow 60 = .ok (.getfield 118, 3) := by decide +kernel
theorem dX5_follow_63 : decode cX5_follow 63 = .ok (.invokevirtual 114, 3) := by decide +kernel
theorem dX5_follow_66 : decode cX5_follow 66 = .ok (.istore 8, 2) := by decide +kernel
theorem dX5_follow_68 : decode cX5_follow 68 = .ok (.aload 4, 2) := by decide +kernel
theorem dX5_follow_70 : decode cX5_follow 70 = .ok (.iload 7, 2) := by decide +kernel
theorem dX5_follow_72 : decode cX5_follow 72 = .ok (.iload 8, 2) := by decide +kernel
theorem dX5_follow_74 : decode cX5_follow 74 = .ok (.invokevirtual 121, 3) := by decide +kernel
theorem dX5_follow_77 : decode cX5_follow 77 = .ok (.istore 9, 2) := by decide +kernel
theorem dX5_follow_79 : decode cX5_follow 79 = .ok (.iconst 0, 1) := by decide +kernel
theorem dX5_follow_80 : decode cX5_follow 80 = .ok (.istore 10, 2) := by decide +kernel
theorem dX5_follow_82 : decode cX5_follow 82 = .ok (.iload 10, 2) := by decide +kernel
theorem dX5_follow_84 : decode cX5_follow 84 = .ok (.iconst 2, 1) := by decide +kernel
theorem dX5_follow_85 : decode cX5_follow 85 = .ok (.if_icmp .ge 165, 3) := by decide +kernel
theorem dX5_follow_88 : decode cX5_follow 88 = .ok (.iload 10, 2) := by decide +kernel
theorem dX5_follow_90 : decode cX5_follow 90 = .ok (.ifCond .ne 11, 3) := by decide +kernel
theorem dX5_follow_93 : decode cX5_follow 93 = .ok (.aload 6, 2) := by decide +kernel
theorem dX5_follow_95 : decode cX5_follow 95 = .ok (.getfield 100, 3) := by decide +kernel
theorem dX5_follow_98 : decode cX5_follow 98 = .ok (.goto 8, 3) := by decide +kernel
theorem dX5_follow_101 : decode cX5_follow 101 = .ok (.aload 6, 2) := by decide +kernel
theorem dX5_follow_103 : decode cX5_follow 103 = .ok (.getfield 118, 3) := by decide +kernel
theorem dX5_follow_106 : decode cX5_follow 106 = .ok (.istore 11, 2) := by decide +kernel
theorem dX5_follow_108 : decode cX5_follow 108 = .ok (.lload_n 2, 1) := by decide +kernel
theorem dX5_follow_109 : decode cX5_follow 109 = .ok (.ldc2_w 64, 3) := by decide +kernel
theorem dX5_follow_112 : decode cX5_follow 112 = .ok (.ldiv, 1) := by decide +kernel
theorem dX5_follow_113 : decode cX5_follow 113 = .ok (.iload 10, 2) := by decide +kernel
theorem dX5_follow_115 : decode cX5_follow 115 = .ok (.ifCond .ne 8, 3) := by decide +kernel
theorem dX5_follow_118 : decode cX5_follow 118 = .ok (.iload 9, 2) := by decide +kernel
theorem dX5_follow_120 : decode cX5_follow 120 = .ok (.goto 8, 3) := by decide +kernel
theorem dX5_follow_123 : decode cX5_follow 123 = .ok (.bipush 10, 2) := by decide +kernel
theorem dX5_follow_125 : decode cX5_follow 125 = .ok (.iload 9, 2) := by decide +kernel
theorem dX5_follow_127 : decode cX5_follow 127 = .ok (.isub, 1) := by decide +kernel
theorem dX5_follow_128 : decode cX5_follow 128 = .ok (.i2l, 1) := by decide +kernel
theorem dX5_follow_129 : decode cX5_follow 129 = .ok (.lmul, 1) := by decide +kernel
theorem dX5_follow_130 : decode cX5_follow 130 = .ok (.lstore 12, 2) := by decide +kernel
theorem dX5_follow_132 : decode cX5_follow 132 = .ok (.lload 12, 2) := by decide +kernel
theorem dX5_follow_134 : decode cX5_follow 134 = .ok (.lconst 0, 1) := by decide +kernel
theorem dX5_follow_135 : decode cX5_follow 135 = .ok (.lcmp, 1) := by decide +kernel
theorem dX5_follow_136 : decode cX5_follow 136 = .ok (.ifCond .ne 13, 3) := by decide +kernel
theorem dX5_follow_139 : decode cX5_follow 139 = .ok (.aload_n 0, 1) := by decide +kernel
theorem dX5_follow_140 : decode cX5_follow 140 = .ok (.getfield 48, 3) := by decide +kernel
theorem dX5_follow_143 : decode cX5_follow 143 = .ok (.ifCond .ne 6, 3) := by decide +kernel
theorem dX5_follow_146 : decode cX5_follow 146 = .ok (.goto 98, 3) := by decide +kernel
theorem dX5_follow_149 : decode cX5_follow 149 = .ok (.aload 4, 2) := by decide +kernel
theorem dX5_follow_151 : decode cX5_follow 151 = .ok (.iload 11, 2) := by decide +kernel
theorem dX5_follow_153 : decode cX5_follow 153 = .ok (.iload 7, 2) := by decide +kernel
theorem dX5_follow_155 : decode cX5_follow 155 = .ok (.iload 8, 2) := by decide +kernel
theorem dX5_follow_157 : decode cX5_follow 157 = .ok (.invokevirtual 125, 3) := by decide +kernel
theorem dX5_follow_160 : decode cX5_follow 160 = .ok (.istore 14, 2) := by decide +kernel
theorem dX5_follow_162 : decode cX5_follow 162 = .ok (.aload_n 0, 1) := by decide +kernel
theorem dX5_follow_163 : decode cX5_follow 163 = .ok (.getfield 18, 3) := by decide +kernel
theorem dX5_follow_166 : decode cX5_follow 166 = .ok (.iload 14, 2) := by decide +kernel
theorem dX5_follow_168 : decode cX5_follow 168 = .ok (.dup2, 1) := by decide +kernel
theorem dX5_follow_169 : decode cX5_follow 169 = .ok (.laload, 1) := by decide +kernel
theorem dX5_follow_170 : decode cX5_follow 170 = .ok (.lload 12, 2) := by decide +kernel
theorem dX5_follow_172 : decode cX5_follow 172 = .ok (.aload 6, 2) := by decide +kernel
theorem dX5_follow_174 : decode cX5_follow 174 = .ok (.getfield 129, 3) := by decide +kernel
theorem dX5_follow_177 : decode cX5_follow 177 = .ok (.i2l, 1) := by decide +kernel
theorem dX5_follow_178 : decode cX5_follow 178 = .ok (.lmul, 1) := by decide +kernel
theorem dX5_follow_179 : decode cX5_follow 179 = .ok (.ladd, 1) := by decide +kernel
theorem dX5_follow_180 : decode cX5_follow 180 = .ok (.lastore, 1) := by decide +kernel
theorem dX5_follow_181 : decode cX5_follow 181 = .ok (.aload_n 0, 1) := by decide +kernel
theorem dX5_follow_182 : decode cX5_follow 182 = .ok (.getfield 25, 3) := by decide +kernel
theorem dX5_follow_185 : decode cX5_follow 185 = .ok (.iload 5, 2) := by decide +kernel
theorem dX5_follow_187 : decode cX5_follow 187 = .ok (.dup2, 1) := by decide +kernel
theorem dX5_follow_188 : decode cX5_follow 188 = .ok (.laload, 1) := by decide +kernel
theorem dX5_follow_189 : decode cX5_follow 189 = .ok (.iload 14, 2) := by decide +kernel
theorem dX5_follow_191 : decode cX5_follow 191 = .ok (.aload 6, 2) := by decide +kernel
theorem dX5_follow_193 : decode cX5_follow 193 = .ok (.getfield 100, 3) := by decide +kernel
theorem dX5_follow_196 : decode cX5_follow 196 = .ok (.if_icmp .ne 8, 3) := by decide +kernel
theorem dX5_follow_199 : decode cX5_follow 199 = .ok (.lload 12, 2) := by decide +kernel
theorem dX5_follow_201 : decode cX5_follow 201 = .ok (.goto 4, 3) := by decide +kernel
theorem dX5_follow_204 : decode cX5_follow 204 = .ok (.lconst 0, 1) := by decide +kernel
theorem dX5_follow_205 : decode cX5_follow 205 = .ok (.ladd, 1) := by decide +kernel
theorem dX5_follow_206 : decode cX5_follow 206 = .ok (.lastore, 1) := by decide +kernel
theorem dX5_follow_207 : decode cX5_follow 207 = .ok (.aload_n 0, 1) := by decide +kernel
theorem dX5_follow_208 : decode cX5_follow 208 = .ok (.getfield 28, 3) := by decide +kernel
theorem dX5_follow_211 : decode cX5_follow 211 = .ok (.iload 5, 2) := by decide +kernel
theorem dX5_follow_213 : decode cX5_follow 213 = .ok (.dup2, 1) := by decide +kernel
theorem dX5_follow_214 : decode cX5_follow 214 = .ok (.laload, 1) := by decide +kernel
theorem dX5_follow_215 : decode cX5_follow 215 = .ok (.iload 14, 2) := by decide +kernel
theorem dX5_follow_217 : decode cX5_follow 217 = .ok (.iload 11, 2) := by decide +kernel
theorem dX5_follow_219 : decode cX5_follow 219 = .ok (.if_icmp .eq 8, 3) := by decide +kernel
theorem dX5_follow_222 : decode cX5_follow 222 = .ok (.lload 12, 2) := by decide +kernel
theorem dX5_follow_224 : decode cX5_follow 224 = .ok (.goto 4, 3) := by decide +kernel
theorem dX5_follow_227 : decode cX5_follow 227 = .ok (.lconst 0, 1) := by decide +kernel
theorem dX5_follow_228 : decode cX5_follow 228 = .ok (.ladd, 1) := by decide +kernel
theorem dX5_follow_229 : decode cX5_follow 229 = .ok (.lastore, 1) := by decide +kernel
theorem dX5_follow_230 : decode cX5_follow 230 = .ok (.aload_n 0, 1) := by decide +kernel
theorem dX5_follow_231 : decode cX5_follow 231 = .ok (.iload_n 1, 1) := by decide +kernel
theorem dX5_follow_232 : decode cX5_follow 232 = .ok (.iconst 1, 1) := by decide +kernel
theorem dX5_follow_233 : decode cX5_follow 233 = .ok (.iadd, 1) := by decide +kernel
theorem dX5_follow_234 : decode cX5_follow 234 = .ok (.lload 12, 2) := by decide +kernel
theorem dX5_follow_236 : decode cX5_follow 236 = .ok (.invokestatic 69, 3) := by decide +kernel
theorem dX5_follow_239 : decode cX5_follow 239 = .ok (.aload 4, 2) := by decide +kernel
theorem dX5_follow_241 : decode cX5_follow 241 = .ok (.invokevirtual 132, 3) := by decide +kernel
theorem dX5_follow_244 : decode cX5_follow 244 = .ok (.iinc 10 1, 3) := by decide +kernel
theorem dX5_follow_247 : decode cX5_follow 247 = .ok (.goto (-165), 3) := by decide +kernel
theorem dX5_follow_250 : decode cX5_follow 250 = .ok (.return_, 1) := by decide +kernel
set_option maxHeartbeats 4000000 in
set_option maxRecDepth 100000 in
theorem c_X5_follow (l : Launch) (D : va_G) (cy : Nat → ClassId) (ad adK adV : Nat → Nat) : ∀ (nd : Nat) (M : Mm) (a0 : Nat) (a1 : Int32) (a2 : Int64) (res : Mm × Unit) (h : f_X5_follow nd M a0 a1 a2 = some res), Met l yX5_follow (wU yX5_follow cX5_follow 15 none) (rmX5_follow nd) (va_Pc [.ref (ad a0), .int a1, .long a2] (Pre D cy shX ad nX adK adV M)) (va_Qv (fun (M2 : Mm) => M2 = res.1) (Pre D cy shX ad nX adK adV) (Aw ad nX)) 0 0 (Aw ad nX) := by
  intro nd
  induction nd with
  | zero => intro M a0 a1 a2 res h; simp [f_X5_follow] at h
  | succ nd hfr =>
  intro M a0 a1 a2 res h
  refine Met.ofW (cc := cX5_follow) (maxL := 15) (ret := none) (by decide) rfl ?_
  intro p e s m args below meth c s₁ B hml hv
  obtain ⟨hargs, hPre⟩ := hv
  have hx := B.exec
  have hb := B.bytes
  have hr := B.returns
  have hts := atoms_spec (ws := wU yX5_follow cX5_follow 15 none) B.pre
  have hq : ∀ w ∈ gW, w.before args s = true := fun w hw => hts w (List.mem_cons_of_mem _ hw)
  have hcm : ∀ w ∈ gW, w ∈ wU yX5_follow cX5_follow 15 none := fun w hw => List.mem_cons_of_mem _ hw
  have hown : s.vm.findClass RX5 = some m.cls := findClass_of_methodNamed B.named
  have hlocks := B.notSynchronized
  have hF : CallFix p m c cX5_follow 15 s args (wU yX5_follow cX5_follow 15 none) RX5 := ⟨hx, hb, hml, hown, hts⟩
  have hK := hPre.2.1
  have hZ := hPre.2.2.2
  have hw : Wd D cy shX ad nX (Aw ad nX) s.heap M s.heap [] := ⟨hPre.1, hPre.2.2.1, va_S.rf⟩
  have iw0 : ∀ w ∈ u_ws RX0 TX0 9, w ∈ wU yX5_follow cX5_follow 15 none := fun w hw => List.mem_cons_of_mem _ (iX0 w hw)
  have iw1 : ∀ w ∈ u_ws RX1 TX1 11, w ∈ wU yX5_follow cX5_follow 15 none := fun w hw => List.mem_cons_of_mem _ (iX1 w hw)
  have iw5 : ∀ w ∈ u_ws RX5 TX5 13, w ∈ wU yX5_follow cX5_follow 15 none := fun w hw => List.mem_cons_of_mem _ (iX5 w hw)
  rw [show entryFrame m args 15 = entryFrame m ([.ref (ad a0), .int a1, .long a2] : List Value).toArray 15 from by rw [hargs]]
  have hl := lv_entry ([.ref (ad a0), .int a1, .long a2]) (n := 15) (Nat.le_of_ble_eq_true rfl)
  rw [lg_entry_eq]
  generalize (lg_sl ([.ref (ad a0), .int a1, .long a2]) ++ List.replicate (15 - (lg_sl ([.ref (ad a0), .int a1, .long a2])).length) Slot.unset).toArray = ls at hl ⊢
  have hl : lv_has ls 15 [(0, .ref (ad a0)), (1, .int a1), (2, .long a2)] := hl
  have hb244 : ∀ (k82 : Mm → Nat → Int32 → Int64 → Nat → Int32 → Nat → Int32 → Int32 → Int32 → Int32 → Option (Mm × Unit)) (hk82 : ∀ (M : Mm) (x0 : Nat) (x1 : Int32) (x2 : Int64) (x4 : Nat) (x5 : Int32) (x6 : Nat) (x7 : Int32) (x8 : Int32) (x9 : Int32) (x10 : Int32), k82 M x0 x1 x2 x4 x5 x6 x7 x8 x9 x10 = some res → ∀ (H : Heap) (locs : List Loc) (ls : Array Slot), Wd D cy shX ad nX (Aw ad nX) s.heap M H locs → lv_has ls 15 [(0, .ref (ad x0)), (1, .int x1), (2, .long x2), (4, .ref (ad x4)), (5, .int x5), (6, .ref (ad x6)), (7, .int x7), (8, .int x8), (9, .int x9), (10, .int x10)] → W p l e (headSpec (wU yX5_follow cX5_follow 15 none) (rmX5_follow (nd + 1))).room s m args below meth c H locs 0 0 (QV D cy shX ad nX adK adV below args s res) (F0 m 82 ls [])), ∀ (M : Mm) (x0 : Nat) (x1 : Int32) (x2 : Int64) (x4 : Nat) (x5 : Int32) (x6 : Nat) (x7 : Int32) (x8 : Int32) (x9 : Int32) (x10 : Int32), f_X5_follow_b244 (f_X5_follow nd) k82 M x0 x1 x2 x4 x5 x6 x7 x8 x9 x10 = some res → ∀ (H : Heap) (locs : List Loc) (ls : Array Slot), Wd D cy shX ad nX (Aw ad nX) s.heap M H locs → lv_has ls 15 [(0, .ref (ad x0)), (1, .int x1), (2, .long x2), (4, .ref (ad x4)), (5, .int x5), (6, .ref (ad x6)), (7, .int x7), (8, .int x8), (9, .int x9), (10, .int x10)] → W p l e (headSpec (wU yX5_follow cX5_follow 15 none) (rmX5_follow (nd + 1))).room s m args below meth c H locs 0 0 (QV D cy shX ad nX adK adV below args s res) (F0 m 244 ls []) := by
    intro k82 hk82
    intro M x0 x1 x2 x4 x5 x6 x7 x8 x9 x10 h H locs ls hw hl
    unfold f_X5_follow_b244 at h
    refine lv_iinc (v := x10 + (1 : Int32)) (lv' := [(10, .int (x10 + (1 : Int32))), (0, .ref (ad x0)), (1, .int x1), (2, .long x2), (4, .ref (ad x4)), (5, .int x5), (6, .ref (ad x6)), (7, .int x7), (8, .int x8), (9, .int x9)]) hx hb dX5_follow_244 hl (k := 9) rfl (congrArg (fun z => x10 + z) (by decide)) (by decide) rfl (fun ls hl => ?_)
    refine lv_goto (tgt := 82) hx hb dX5_follow_247 (by decide) ?_
    exact hk82 _ _ _ _ _ _ _ _ _ _ _ h _ _ _ hw (lv_sub hl [1, 2, 3, 4, 5, 6, 7, 8, 9, 0] rfl)
  have hb228 : ∀ (k82 : Mm → Nat → Int32 → Int64 → Nat → Int32 → Nat → Int32 → Int32 → Int32 → Int32 → Option (Mm × Unit)) (hk82 : ∀ (M : Mm) (x0 : Nat) (x1 : Int32) (x2 : Int64) (x4 : Nat) (x5 : Int32) (x6 : Nat) (x7 : Int32) (x8 : Int32) (x9 : Int32) (x10 : Int32), k82 M x0 x1 x2 x4 x5 x6 x7 x8 x9 x10 = some res → ∀ (H : Heap) (locs : List Loc) (ls : Array Slot), Wd D cy shX ad nX (Aw ad nX) s.heap M H locs → lv_has ls 15 [(0, .ref (ad x0)), (1, .int x1), (2, .long x2), (4, .ref (ad x4)), (5, .int x5), (6, .ref (ad x6)), (7, .int x7), (8, .int x8), (9, .int x9), (10, .int x10)] → W p l e (headSpec (wU yX5_follow cX5_follow 15 none) (rmX5_follow (nd + 1))).room s m args below meth c H locs 0 0 (QV D cy shX ad nX adK adV below args s res) (F0 m 82 ls [])), ∀ (M : Mm) (x0 : Nat) (x1 : Int32) (x2 : Int64) (x4 : Nat) (x5 : Int32) (x6 : Nat) (x7 : Int32) (x8 : Int32) (x9 : Int32) (x10 : Int32) (x12 : Int64) (t0 : Nat) (t1 : Int32) (t2 : Int64) (t3 : Int64), f_X5_follow_b228 (f_X5_follow nd) k82 M x0 x1 x2 x4 x5 x6 x7 x8 x9 x10 x12 t0 t1 t2 t3 = some res → ∀ (H : Heap) (locs : List Loc) (ls : Array Slot), Wd D cy shX ad nX (Aw ad nX) s.heap M H locs → lv_has ls 15 [(0, .ref (ad x0)), (1, .int x1), (2, .long x2), (4, .ref (ad x4)), (5, .int x5), (6, .ref (ad x6)), (7, .int x7), (8, .int x8), (9, .int x9), (10, .int x10), (12, .long x12)] → W p l e (headSpec (wU yX5_follow cX5_follow 15 none) (rmX5_follow (nd + 1))).room s m args below meth c H locs 0 0 (QV D cy shX ad nX adK adV below args s res) (F0 m 228 ls [.long t3, .long t2, .int t1, .ref (ad t0)]) := by
    intro k82 hk82
    intro M x0 x1 x2 x4 x5 x6 x7 x8 x9 x10 x12 t0 t1 t2 t3 h H locs ls hw hl
    unfold f_X5_follow_b228 at h
    refine lv_ladd hx hb dX5_follow_228 ?_
    replace h := gd_some h
    obtain ⟨g1, h⟩ := h
    refine r_last hx hb hK hw t0 g1 dX5_follow_229 (fun H locs hw => ?_)
    replace h := lt_some h
    obtain ⟨M2, eM2, h⟩ := h
    rw [← eM2] at hw
    refine lv_aload_n hx hb dX5_follow_230 rfl (lv_at hl 0 rfl) ?_
    refine lv_iload_n hx hb dX5_follow_231 rfl (lv_at hl 1 rfl) ?_
    refine lv_iconst (v := (1 : Int32)) hx hb dX5_follow_232 (by decide) ?_
    refine lv_iadd hx hb dX5_follow_233 ?_
    refine lv_lload hx hb dX5_follow_234 (lv_at hl 10 rfl) ?_
    replace h := bd_some h
    obtain ⟨r3, er3, h⟩ := h
    refine r_callSv (As := [.ref (ad x0), .int (x1 + (1 : Int32)), .long x12]) (rest := []) hF (hfr _ _ _ _ _ er3) (gW_goodS hcm qw688 qw686 qw687 qw64) hdX5_follow ⟨by simp only [headSpec, rmX5_follow]; omega, by simp only [headSpec, rmX5_follow]; omega⟩ rfl rfl hZ hK hw rfl hl.1 rfl (Nat.le_of_ble_eq_true rfl) ⟨Nat.zero_le _, Nat.zero_le _⟩ dX5_follow_236 (fun H locs hw => ?_)
    refine lv_aload hx hb dX5_follow_239 (lv_at hl 3 rfl) ?_
    replace h := gd_some h
    obtain ⟨g5, h⟩ := h
    replace h := bd_some h
    obtain ⟨r4, er4, h⟩ := h
    refine r_callVv (As := []) (rest := []) hF (c_X1_takeBack l D cy ad adK adV r3.1 x4 r4 er4) (gW_goodV hcm qw702 qw699 qw700 qw701 qw61) hdX1_takeBack rfl ⟨by simp only [headSpec, rmX1_takeBack, rmX5_follow]; omega, by simp only [headSpec, rmX1_takeBack, rmX5_follow]; omega⟩ rfl rfl hZ hK hw g5 (by decide) rfl rfl hl.1 rfl (Nat.le_of_ble_eq_true rfl) ⟨Nat.zero_le _, Nat.zero_le _⟩ dX5_follow_241 (fun H locs hw => ?_)
    exact hb244 _ hk82 _ _ _ _ _ _ _ _ _ _ _ h _ _ _ hw (lv_sub hl [0, 1, 2, 3, 4, 5, 6, 7, 8, 9] rfl)
  have hb205 : ∀ (k82 : Mm → Nat → Int32 → Int64 → Nat → Int32 → Nat → Int32 → Int32 → Int32 → Int32 → Option (Mm × Unit)) (hk82 : ∀ (M : Mm) (x0 : Nat) (x1 : Int32) (x2 : Int64) (x4 : Nat) (x5 : Int32) (x6 : Nat) (x7 : Int32) (x8 : Int32) (x9 : Int32) (x10 : Int32), k82 M x0 x1 x2 x4 x5 x6 x7 x8 x9 x10 = some res → ∀ (H : Heap) (locs : List Loc) (ls : Array Slot), Wd D cy shX ad nX (Aw ad nX) s.heap M H locs → lv_has ls 15 [(0, .ref (ad x0)), (1, .int x1), (2, .long x2), (4, .ref (ad x4)), (5, .int x5), (6, .ref (ad x6)), (7, .int x7), (8, .int x8), (9, .int x9), (10, .int x10)] → W p l e (headSpec (wU yX5_follow cX5_follow 15 none) (rmX5_follow (nd + 1))).room s m args below meth c H locs 0 0 (QV D cy shX ad nX adK adV below args s res) (F0 m 82 ls [])), ∀ (M : Mm) (x0 : Nat) (x1 : Int32) (x2 : Int64) (x4 : Nat) (x5 : Int32) (x6 : Nat) (x7 : Int32) (x8 : Int32) (x9 : Int32) (x10 : Int32) (x11 : Int32) (x12 : Int64) (x14 : Int32) (t0 : Nat) (t1 : Int32) (t2 : Int64) (t3 : Int64), f_X5_follow_b205 (f_X5_follow nd) k82 M x0 x1 x2 x4 x5 x6 x7 x8 x9 x10 x11 x12 x14 t0 t1 t2 t3 = some res → ∀ (H : Heap) (locs : List Loc) (ls : Array Slot), Wd D cy shX ad nX (Aw ad nX) s.heap M H locs → lv_has ls 15 [(0, .ref (ad x0)), (1, .int x1), (2, .long x2), (4, .ref (ad x4)), (5, .int x5), (6, .ref (ad x6)), (7, .int x7), (8, .int x8), (9, .int x9), (10, .int x10), (11, .int x11), (12, .long x12), (14, .int x14)] → W p l e (headSpec (wU yX5_follow cX5_follow 15 none) (rmX5_follow (nd + 1))).room s m args below meth c H locs 0 0 (QV D cy shX ad nX adK adV below args s res) (F0 m 205 ls [.long t3, .long t2, .int t1, .ref (ad t0)]) := by
    intro k82 hk82
    intro M x0 x1 x2 x4 x5 x6 x7 x8 x9 x10 x11 x12 x14 t0 t1 t2 t3 h H locs ls hw hl
    unfold f_X5_follow_b205 at h
    refine lv_ladd hx hb dX5_follow_205 ?_
    replace h := gd_some h
    obtain ⟨g6, h⟩ := h
    refine r_last hx hb hK hw t0 g6 dX5_follow_206 (fun H locs hw => ?_)
    replace h := lt_some h
    obtain ⟨M7, eM7, h⟩ := h
    rw [← eM7] at hw
    refine lv_aload_n hx hb dX5_follow_207 rfl (lv_at hl 0 rfl) ?_
    replace h := gd_some h
    obtain ⟨g8, h⟩ := h
    replace h := bd_some h
    obtain ⟨q9, eq9, h⟩ := h
    refine r_getR hx hb hts iw5 hown hK hw x0 4 g8 (by decide) rfl (by decide) rfl (hq _ qw247) (fun _ h9 => h9) dX5_follow_208 eq9 ?_
    refine lv_iload hx hb dX5_follow_211 (lv_at hl 4 rfl) ?_
    refine lv_dup2_11 hx hb dX5_follow_213 rfl rfl ?_
    replace h := gd_some h
    obtain ⟨g10, h⟩ := h
    refine r_lald hx hb hK hw q9 g10 dX5_follow_214 ?_
    refine lv_iload hx hb dX5_follow_215 (lv_at hl 12 rfl) ?_
    refine lv_iload hx hb dX5_follow_217 (lv_at hl 10 rfl) ?_
    refine lv_icmp_eq (tgt := 227) hx hb dX5_follow_219 (by decide) (fun c11 => ?_) (fun c11 => ?_)
    · replace h := if_some_t c11 h
      refine lv_lconst (v := (0 : Int64)) hx hb dX5_follow_227 (by decide) ?_
      exact hb228 _ hk82 _ _ _ _ _ _ _ _ _ _ _ _ _ _ _ _ h _ _ _ hw (lv_sub hl [0, 1, 2, 3, 4, 5, 6, 7, 8, 9, 11] rfl)
    · replace h := if_some_f c11 h
      refine lv_lload hx hb dX5_follow_222 (lv_at hl 11 rfl) ?_
      refine lv_goto (tgt := 228) hx hb dX5_follow_224 (by decide) ?_
      exact hb228 _ hk82 _ _ _ _ _ _ _ _ _ _ _ _ _ _ _ _ h _ _ _ hw (lv_sub hl [0, 1, 2, 3, 4, 5, 6, 7, 8, 9, 11] rfl)
  have hb149 : ∀ (k82 : Mm → Nat → Int32 → Int64 → Nat → Int32 → Nat → Int32 → Int32 → Int32 → Int32 → Option (Mm × Unit)) (hk82 : ∀ (M : Mm) (x0 : Nat) (x1 : Int32) (x2 : Int64) (x4 : Nat) (x5 : Int32) (x6 : Nat) (x7 : Int32) (x8 : Int32) (x9 : Int32) (x10 : Int32), k82 M x0 x1 x2 x4 x5 x6 x7 x8 x9 x10 = some res → ∀ (H : Heap) (locs : List Loc) (ls : Array Slot), Wd D cy shX ad nX (Aw ad nX) s.heap M H locs → lv_has ls 15 [(0, .ref (ad x0)), (1, .int x1), (2, .long x2), (4, .ref (ad x4)), (5, .int x5), (6, .ref (ad x6)), (7, .int x7), (8, .int x8), (9, .int x9), (10, .int x10)] → W p l e (headSpec (wU yX5_follow cX5_follow 15 none) (rmX5_follow (nd + 1))).room s m args below meth c H locs 0 0 (QV D cy shX ad nX adK adV below args s res) (F0 m 82 ls [])), ∀ (M : Mm) (x0 : Nat) (x1 : Int32) (x2 : Int64) (x4 : Nat) (x5 : Int32) (x6 : Nat) (x7 : Int32) (x8 : Int32) (x9 : Int32) (x10 : Int32) (x11 : Int32) (x12 : Int64), f_X5_follow_b149 (f_X5_follow nd) k82 M x0 x1 x2 x4 x5 x6 x7 x8 x9 x10 x11 x12 = some res → ∀ (H : Heap) (locs : List Loc) (ls : Array Slot), Wd D cy shX ad nX (Aw ad nX) s.heap M H locs → lv_has ls 15 [(0, .ref (ad x0)), (1, .int x1), (2, .long x2), (4, .ref (ad x4)), (5, .int x5), (6, .ref (ad x6)), (7, .int x7), (8, .int x8), (9, .int x9), (10, .int x10), (11, .int x11), (12, .long x12)] → W p l e (headSpec (wU yX5_follow cX5_follow 15 none) (rmX5_follow (nd + 1))).room s m args below meth c H locs 0 0 (QV D cy shX ad nX adK adV below args s res) (F0 m 149 ls []) := by
    intro k82 hk82
    intro M x0 x1 x2 x4 x5 x6 x7 x8 x9 x10 x11 x12 h H locs ls hw hl
    unfold f_X5_follow_b149 at h
    refine lv_aload hx hb dX5_follow_149 (lv_at hl 3 rfl) ?_
    refine lv_iload hx hb dX5_follow_151 (lv_at hl 10 rfl) ?_
    refine lv_iload hx hb dX5_follow_153 (lv_at hl 6 rfl) ?_
    refine lv_iload hx hb dX5_follow_155 (lv_at hl 7 rfl) ?_
    replace h := gd_some h
    obtain ⟨g13, h⟩ := h
    replace h := bd_some h
    obtain ⟨r12, er12, h⟩ := h
    refine r_callVi (As := [.int x11, .int x7, .int x8]) (rest := []) hF (c_X1_settle l D cy ad adK adV M x4 x11 x7 x8 r12 er12) (gW_goodV hcm qw627 qw698 qw625 qw626 qw61) hdX1_settle rfl ⟨by simp only [headSpec, rmX1_settle, rmX5_follow]; omega, by simp only [headSpec, rmX1_settle, rmX5_follow]; omega⟩ rfl rfl hZ hK hw g13 (by decide) rfl rfl hl.1 rfl (Nat.le_of_ble_eq_true rfl) ⟨Nat.zero_le _, Nat.zero_le _⟩ dX5_follow_157 (fun H locs hw => ?_)
    refine lv_istore (lv' := [(14, .int r12.2), (0, .ref (ad x0)), (1, .int x1), (2, .long x2), (4, .ref (ad x4)), (5, .int x5), (6, .ref (ad x6)), (7, .int x7), (8, .int x8), (9, .int x9), (10, .int x10), (11, .int x11), (12, .long x12)]) hx hb dX5_follow_160 hl (by decide) rfl (fun ls hl => ?_)
    refine lv_aload_n hx hb dX5_follow_162 rfl (lv_at hl 1 rfl) ?_
    replace h := gd_some h
    obtain ⟨g14, h⟩ := h
    replace h := bd_some h
    obtain ⟨q15, eq15, h⟩ := h
    refine r_getR hx hb hts iw5 hown hK hw x0 1 g14 (by decide) rfl (by decide) rfl (hq _ qw241) (fun _ h9 => h9) dX5_follow_163 eq15 ?_
    refine lv_iload hx hb dX5_follow_166 (lv_at hl 0 rfl) ?_
    refine lv_dup2_11 hx hb dX5_follow_168 rfl rfl ?_
    replace h := gd_some h
    obtain ⟨g16, h⟩ := h
    refine r_lald hx hb hK hw q15 g16 dX5_follow_169 ?_
    refine lv_lload hx hb dX5_follow_170 (lv_at hl 12 rfl) ?_
    refine lv_aload hx hb dX5_follow_172 (lv_at hl 6 rfl) ?_
    replace h := gd_some h
    obtain ⟨g17, h⟩ := h
    refine r_getI hx hb hts iw0 hown hK hw x6 2 g17 (by decide) rfl (by decide) rfl (hq _ qw144) (fun _ h9 => h9) dX5_follow_174 ?_
    refine lv_i2l (v := (r12.1.1 x6 2).toInt64) hx hb dX5_follow_177 rfl ?_
    refine lv_lmul hx hb dX5_follow_178 ?_
    refine lv_ladd hx hb dX5_follow_179 ?_
    replace h := gd_some h
    obtain ⟨g18, h⟩ := h
    refine r_last hx hb hK hw q15 g18 dX5_follow_180 (fun H locs hw => ?_)
    replace h := lt_some h
    obtain ⟨M19, eM19, h⟩ := h
    rw [← eM19] at hw
    refine lv_aload_n hx hb dX5_follow_181 rfl (lv_at hl 1 rfl) ?_
    replace h := bd_some h
    obtain ⟨q20, eq20, h⟩ := h
    refine r_getR hx hb hts iw5 hown hK hw x0 3 g14 (by decide) rfl (by decide) rfl (hq _ qw245) (fun _ h9 => h9) dX5_follow_182 eq20 ?_
    refine lv_iload hx hb dX5_follow_185 (lv_at hl 5 rfl) ?_
    refine lv_dup2_11 hx hb dX5_follow_187 rfl rfl ?_
    replace h := gd_some h
    obtain ⟨g21, h⟩ := h
    refine r_lald hx hb hK hw q20 g21 dX5_follow_188 ?_
    refine lv_iload hx hb dX5_follow_189 (lv_at hl 0 rfl) ?_
    refine lv_aload hx hb dX5_follow_191 (lv_at hl 6 rfl) ?_
    refine r_getI hx hb hts iw0 hown hK hw x6 0 g17 (by decide) rfl (by decide) rfl (hq _ qw135) (fun _ h9 => h9) dX5_follow_193 ?_
    refine lv_icmp_ne (tgt := 204) hx hb dX5_follow_196 (by decide) (fun c22 => ?_) (fun c22 => ?_)
    · replace h := if_some_f c22 h
      refine lv_lconst (v := (0 : Int64)) hx hb dX5_follow_204 (by decide) ?_
      exact hb205 _ hk82 _ _ _ _ _ _ _ _ _ _ _ _ _ _ _ _ _ _ h _ _ _ hw (lv_sub hl [1, 2, 3, 4, 5, 6, 7, 8, 9, 10, 11, 12, 0] rfl)
    · replace h := if_some_t c22 h
      refine lv_lload hx hb dX5_follow_199 (lv_at hl 12 rfl) ?_
      refine lv_goto (tgt := 205) hx hb dX5_follow_201 (by decide) ?_
      exact hb205 _ hk82 _ _ _ _ _ _ _ _ _ _ _ _ _ _ _ _ _ _ h _ _ _ hw (lv_sub hl [1, 2, 3, 4, 5, 6, 7, 8, 9, 10, 11, 12, 0] rfl)
  have hb128 : ∀ (k82 : Mm → Nat → Int32 → Int64 → Nat → Int32 → Nat → Int32 → Int32 → Int32 → Int32 → Option (Mm × Unit)) (hk82 : ∀ (M : Mm) (x0 : Nat) (x1 : Int32) (x2 : Int64) (x4 : Nat) (x5 : Int32) (x6 : Nat) (x7 : Int32) (x8 : Int32) (x9 : Int32) (x10 : Int32), k82 M x0 x1 x2 x4 x5 x6 x7 x8 x9 x10 = some res → ∀ (H : Heap) (locs : List Loc) (ls : Array Slot), Wd D cy shX ad nX (Aw ad nX) s.heap M H locs → lv_has ls 15 [(0, .ref (ad x0)), (1, .int x1), (2, .long x2), (4, .ref (ad x4)), (5, .int x5), (6, .ref (ad x6)), (7, .int x7), (8, .int x8), (9, .int x9), (10, .int x10)] → W p l e (headSpec (wU yX5_follow cX5_follow 15 none) (rmX5_follow (nd + 1))).room s m args below meth c H locs 0 0 (QV D cy shX ad nX adK adV below args s res) (F0 m 82 ls [])), ∀ (M : Mm) (x0 : Nat) (x1 : Int32) (x2 : Int64) (x4 : Nat) (x5 : Int32) (x6 : Nat) (x7 : Int32) (x8 : Int32) (x9 : Int32) (x10 : Int32) (x11 : Int32) (t0 : Int64) (t1 : Int32), f_X5_follow_b128 (f_X5_follow nd) k82 M x0 x1 x2 x4 x5 x6 x7 x8 x9 x10 x11 t0 t1 = some res → ∀ (H : Heap) (locs : List Loc) (ls : Array Slot), Wd D cy shX ad nX (Aw ad nX) s.heap M H locs → lv_has ls 15 [(0, .ref (ad x0)), (1, .int x1), (2, .long x2), (4, .ref (ad x4)), (5, .int x5), (6, .ref (ad x6)), (7, .int x7), (8, .int x8), (9, .int x9), (10, .int x10), (11, .int x11)] → W p l e (headSpec (wU yX5_follow cX5_follow 15 none) (rmX5_follow (nd + 1))).room s m args below meth c H locs 0 0 (QV D cy shX ad nX adK adV below args s res) (F0 m 128 ls [.int t1, .long t0]) := by
    intro k82 hk82
    intro M x0 x1 x2 x4 x5 x6 x7 x8 x9 x10 x11 t0 t1 h H locs ls hw hl
    unfold f_X5_follow_b128 at h
    refine lv_i2l (v := t1.toInt64) hx hb dX5_follow_128 rfl ?_
    refine lv_lmul hx hb dX5_follow_129 ?_
    refine lv_lstore (lv' := [(12, .long (t0 * t1.toInt64)), (0, .ref (ad x0)), (1, .int x1), (2, .long x2), (4, .ref (ad x4)), (5, .int x5), (6, .ref (ad x6)), (7, .int x7), (8, .int x8), (9, .int x9), (10, .int x10), (11, .int x11)]) hx hb dX5_follow_130 hl (by decide) rfl (fun ls hl => ?_)
    refine lv_lload hx hb dX5_follow_132 (lv_at hl 0 rfl) ?_
    refine lv_lconst (v := (0 : Int64)) hx hb dX5_follow_134 (by decide) ?_
    refine W.lcmp hx hb dX5_follow_135 ?_
    refine lv_if_ne (tgt := 149) hx hb dX5_follow_136 (by decide) (fun c23 => ?_) (fun c23 => ?_)
    · replace h := if_some_f c23 h
      exact hb149 _ hk82 _ _ _ _ _ _ _ _ _ _ _ _ _ h _ _ _ hw (lv_sub hl [1, 2, 3, 4, 5, 6, 7, 8, 9, 10, 11, 0] rfl)
    · replace h := if_some_t c23 h
      refine lv_aload_n hx hb dX5_follow_139 rfl (lv_at hl 1 rfl) ?_
      replace h := gd_some h
      obtain ⟨g24, h⟩ := h
      refine r_getI hx hb hts iw5 hown hK hw x0 10 g24 (by decide) rfl (by decide) rfl (hq _ qw256) (fun _ h9 => h9) dX5_follow_140 ?_
      refine lv_if_ne (tgt := 149) hx hb dX5_follow_143 (by decide) (fun c25 => ?_) (fun c25 => ?_)
      · replace h := if_some_f c25 h
        exact hb149 _ hk82 _ _ _ _ _ _ _ _ _ _ _ _ _ h _ _ _ hw (lv_sub hl [1, 2, 3, 4, 5, 6, 7, 8, 9, 10, 11, 0] rfl)
      · replace h := if_some_t c25 h
        refine lv_goto (tgt := 244) hx hb dX5_follow_146 (by decide) ?_
        exact hb244 _ hk82 _ _ _ _ _ _ _ _ _ _ _ h _ _ _ hw (lv_sub hl [1, 2, 3, 4, 5, 6, 7, 8, 9, 10] rfl)
  have hb106 : ∀ (k82 : Mm → Nat → Int32 → Int64 → Nat → Int32 → Nat → Int32 → Int32 → Int32 → Int32 → Option (Mm × Unit)) (hk82 : ∀ (M : Mm) (x0 : Nat) (x1 : Int32) (x2 : Int64) (x4 : Nat) (x5 : Int32) (x6 : Nat) (x7 : Int32) (x8 : Int32) (x9 : Int32) (x10 : Int32), k82 M x0 x1 x2 x4 x5 x6 x7 x8 x9 x10 = some res → ∀ (H : Heap) (locs : List Loc) (ls : Array Slot), Wd D cy shX ad nX (Aw ad nX) s.heap M H locs → lv_has ls 15 [(0, .ref (ad x0)), (1, .int x1), (2, .long x2), (4, .ref (ad x4)), (5, .int x5), (6, .ref (ad x6)), (7, .int x7), (8, .int x8), (9, .int x9), (10, .int x10)] → W p l e (headSpec (wU yX5_follow cX5_follow 15 none) (rmX5_follow (nd + 1))).room s m args below meth c H locs 0 0 (QV D cy shX ad nX adK adV below args s res) (F0 m 82 ls [])), ∀ (M : Mm) (x0 : Nat) (x1 : Int32) (x2 : Int64) (x4 : Nat) (x5 : Int32) (x6 : Nat) (x7 : Int32) (x8 : Int32) (x9 : Int32) (x10 : Int32) (t0 : Int32), f_X5_follow_b106 (f_X5_follow nd) k82 M x0 x1 x2 x4 x5 x6 x7 x8 x9 x10 t0 = some res → ∀ (H : Heap) (locs : List Loc) (ls : Array Slot), Wd D cy shX ad nX (Aw ad nX) s.heap M H locs → lv_has ls 15 [(0, .ref (ad x0)), (1, .int x1), (2, .long x2), (4, .ref (ad x4)), (5, .int x5), (6, .ref (ad x6)), (7, .int x7), (8, .int x8), (9, .int x9), (10, .int x10)] → W p l e (headSpec (wU yX5_follow cX5_follow 15 none) (rmX5_follow (nd + 1))).room s m args below meth c H locs 0 0 (QV D cy shX ad nX adK adV below args s res) (F0 m 106 ls [.int t0]) := by
    intro k82 hk82
    intro M x0 x1 x2 x4 x5 x6 x7 x8 x9 x10 t0 h H locs ls hw hl
    unfold f_X5_follow_b106 at h
    refine lv_istore (lv' := [(11, .int t0), (0, .ref (ad x0)), (1, .int x1), (2, .long x2), (4, .ref (ad x4)), (5, .int x5), (6, .ref (ad x6)), (7, .int x7), (8, .int x8), (9, .int x9), (10, .int x10)]) hx hb dX5_follow_106 hl (by decide) rfl (fun ls hl => ?_)
    refine lv_lload_n hx hb dX5_follow_108 rfl (lv_at hl 3 rfl) ?_
    refine lv_ldc2 (v := (10 : Int64)) hx hb hown (hq _ qw681) dX5_follow_109 ?_
    refine lv_ldiv hx hb dX5_follow_112 (by decide) ?_
    refine lv_iload hx hb dX5_follow_113 (lv_at hl 10 rfl) ?_
    refine lv_if_ne (tgt := 123) hx hb dX5_follow_115 (by decide) (fun c26 => ?_) (fun c26 => ?_)
    · replace h := if_some_f c26 h
      refine lv_bipush (v := (10 : Int32)) hx hb dX5_follow_123 (by decide) ?_
      refine lv_iload hx hb dX5_follow_125 (lv_at hl 9 rfl) ?_
      refine lv_isub hx hb dX5_follow_127 ?_
      exact hb128 _ hk82 _ _ _ _ _ _ _ _ _ _ _ _ _ _ h _ _ _ hw (lv_sub hl [1, 2, 3, 4, 5, 6, 7, 8, 9, 10, 0] rfl)
    · replace h := if_some_t c26 h
      refine lv_iload hx hb dX5_follow_118 (lv_at hl 9 rfl) ?_
      refine lv_goto (tgt := 128) hx hb dX5_follow_120 (by decide) ?_
      exact hb128 _ hk82 _ _ _ _ _ _ _ _ _ _ _ _ _ _ h _ _ _ hw (lv_sub hl [1, 2, 3, 4, 5, 6, 7, 8, 9, 10, 0] rfl)
  have hb82 : ∀ (nn : Nat), ∀ (M : Mm) (x0 : Nat) (x1 : Int32) (x2 : Int64) (x4 : Nat) (x5 : Int32) (x6 : Nat) (x7 : Int32) (x8 : Int32) (x9 : Int32) (x10 : Int32), f_X5_follow_b82 (f_X5_follow nd) nn M x0 x1 x2 x4 x5 x6 x7 x8 x9 x10 = some res → ∀ (H : Heap) (locs : List Loc) (ls : Array Slot), Wd D cy shX ad nX (Aw ad nX) s.heap M H locs → lv_has ls 15 [(0, .ref (ad x0)), (1, .int x1), (2, .long x2), (4, .ref (ad x4)), (5, .int x5), (6, .ref (ad x6)), (7, .int x7), (8, .int x8), (9, .int x9), (10, .int x10)] → W p l e (headSpec (wU yX5_follow cX5_follow 15 none) (rmX5_follow (nd + 1))).room s m args below meth c H locs 0 0 (QV D cy shX ad nX adK adV below args s res) (F0 m 82 ls []) := by
    intro nn
    induction nn with
    | zero => intro M x0 x1 x2 x4 x5 x6 x7 x8 x9 x10 h; simp [f_X5_follow_b82] at h
    | succ nn ih =>
      intro M x0 x1 x2 x4 x5 x6 x7 x8 x9 x10 h H locs ls hw hl
      unfold f_X5_follow_b82 at h
      refine lv_iload hx hb dX5_follow_82 (lv_at hl 9 rfl) ?_
      refine lv_iconst (v := (2 : Int32)) hx hb dX5_follow_84 (by decide) ?_
      refine lv_icmp_ge (tgt := 250) hx hb dX5_follow_85 (by decide) (fun c27 => ?_) (fun c27 => ?_)
      · replace h := if_some_t c27 h
        exact r_vret hx hb hr hlocks hZ hK hw h dX5_follow_250
      · replace h := if_some_f c27 h
        refine lv_iload hx hb dX5_follow_88 (lv_at hl 9 rfl) ?_
        refine lv_if_ne (tgt := 101) hx hb dX5_follow_90 (by decide) (fun c28 => ?_) (fun c28 => ?_)
        · replace h := if_some_f c28 h
          refine lv_aload hx hb dX5_follow_101 (lv_at hl 5 rfl) ?_
          replace h := gd_some h
          obtain ⟨g29, h⟩ := h
          refine r_getI hx hb hts iw0 hown hK hw x6 1 g29 (by decide) rfl (by decide) rfl (hq _ qw139) (fun _ h9 => h9) dX5_follow_103 ?_
          exact hb106 _ ih _ _ _ _ _ _ _ _ _ _ _ _ h _ _ _ hw (lv_sub hl [0, 1, 2, 3, 4, 5, 6, 7, 8, 9] rfl)
        · replace h := if_some_t c28 h
          refine lv_aload hx hb dX5_follow_93 (lv_at hl 5 rfl) ?_
          replace h := gd_some h
          obtain ⟨g30, h⟩ := h
          refine r_getI hx hb hts iw0 hown hK hw x6 0 g30 (by decide) rfl (by decide) rfl (hq _ qw135) (fun _ h9 => h9) dX5_follow_95 ?_
          refine lv_goto (tgt := 106) hx hb dX5_follow_98 (by decide) ?_
          exact hb106 _ ih _ _ _ _ _ _ _ _ _ _ _ _ h _ _ _ hw (lv_sub hl [0, 1, 2, 3, 4, 5, 6, 7, 8, 9] rfl)
  unfold f_X5_follow at h
  refine lv_aload_n hx hb dX5_follow_0 rfl (lv_at hl 0 rfl) ?_
  replace h := gd_some h
  obtain ⟨g31, h⟩ := h
  replace h := bd_some h
  obtain ⟨q32, eq32, h⟩ := h
  refine r_getR hx hb hts iw5 hown hK hw a0 0 g31 (by decide) rfl (by decide) rfl (hq _ qw239) (fun _ h9 => h9) dX5_follow_1 eq32 ?_
  refine lv_astore (lv' := [(4, .ref (ad q32)), (0, .ref (ad a0)), (1, .int a1), (2, .long a2)]) hx hb dX5_follow_4 hl (by decide) rfl (fun ls hl => ?_)
  refine lv_aload hx hb dX5_follow_6 (lv_at hl 0 rfl) ?_
  replace h := gd_some h
  obtain ⟨g34, h⟩ := h
  replace h := bd_some h
  obtain ⟨r33, er33, h⟩ := h
  refine r_callVi (As := []) (rest := []) hF (c_X1_allPlayed l D cy ad adK adV M q32 r33 er33) (gW_goodV hcm qw591 qw689 qw589 qw590 qw61) hdX1_allPlayed rfl ⟨by simp only [headSpec, rmX1_allPlayed, rmX5_follow]; omega, by simp only [headSpec, rmX1_allPlayed, rmX5_follow]; omega⟩ rfl rfl hZ hK hw g34 (by decide) rfl rfl hl.1 rfl (Nat.le_of_ble_eq_true rfl) ⟨Nat.zero_le _, Nat.zero_le _⟩ dX5_follow_8 (fun H locs hw => ?_)
  refine lv_if_eq (tgt := 20) hx hb dX5_follow_11 (by decide) (fun c35 => ?_) (fun c35 => ?_)
  · replace h := if_some_t c35 h
    refine lv_iload_n hx hb dX5_follow_20 rfl (lv_at hl 2 rfl) ?_
    refine lv_bipush (v := (8 : Int32)) hx hb dX5_follow_21 (by decide) ?_
    refine lv_icmp_lt (tgt := 27) hx hb dX5_follow_23 (by decide) (fun c36 => ?_) (fun c36 => ?_)
    · replace h := if_some_t c36 h
      refine lv_aload hx hb dX5_follow_27 (lv_at hl 0 rfl) ?_
      refine r_getI hx hb hts iw1 hown hK hw q32 5 g34 (by decide) rfl (by decide) rfl (hq _ qw198) (fun _ h9 => h9) dX5_follow_29 ?_
      refine lv_istore (lv' := [(5, .int (r33.1.1 q32 5)), (4, .ref (ad q32)), (0, .ref (ad a0)), (1, .int a1), (2, .long a2)]) hx hb dX5_follow_32 hl (by decide) rfl (fun ls hl => ?_)
      refine lv_aload hx hb dX5_follow_34 (lv_at hl 1 rfl) ?_
      replace h := bd_some h
      obtain ⟨q37, eq37, h⟩ := h
      refine r_getR hx hb hts iw1 hown hK hw q32 1 g34 (by decide) rfl (by decide) rfl (hq _ qw185) (fun _ h9 => h9) dX5_follow_36 eq37 ?_
      refine lv_iload hx hb dX5_follow_39 (lv_at hl 0 rfl) ?_
      replace h := gd_some h
      obtain ⟨g38, h⟩ := h
      replace h := bd_some h
      obtain ⟨q39, eq39, h⟩ := h
      refine r_aald hx hb hK hw q37 3 (by decide) rfl g38 dX5_follow_41 eq39 ?_
      refine lv_astore (lv' := [(6, .ref (ad q39)), (5, .int (r33.1.1 q32 5)), (4, .ref (ad q32)), (0, .ref (ad a0)), (1, .int a1), (2, .long a2)]) hx hb dX5_follow_42 hl (by decide) rfl (fun ls hl => ?_)
      refine lv_aload hx hb dX5_follow_44 (lv_at hl 2 rfl) ?_
      refine lv_aload hx hb dX5_follow_46 (lv_at hl 0 rfl) ?_
      replace h := gd_some h
      obtain ⟨g40, h⟩ := h
      refine r_getI hx hb hts iw0 hown hK hw q39 0 g40 (by decide) rfl (by decide) rfl (hq _ qw135) (fun _ h9 => h9) dX5_follow_48 ?_
      replace h := bd_some h
      obtain ⟨r41, er41, h⟩ := h
      refine r_callVi (As := [.int (r33.1.1 q39 0)]) (rest := []) hF (c_X1_effortOf l D cy ad adK adV r33.1 q32 (r33.1.1 q39 0) r41 er41) (gW_goodV hcm qw595 qw696 qw593 qw594 qw61) hdX1_effortOf rfl ⟨by simp only [headSpec, rmX1_effortOf, rmX5_follow]; omega, by simp only [headSpec, rmX1_effortOf, rmX5_follow]; omega⟩ rfl rfl hZ hK hw g34 (by decide) rfl rfl hl.1 rfl (Nat.le_of_ble_eq_true rfl) ⟨Nat.zero_le _, Nat.zero_le _⟩ dX5_follow_51 (fun H locs hw => ?_)
      refine lv_istore (lv' := [(7, .int r41.2), (6, .ref (ad q39)), (5, .int (r33.1.1 q32 5)), (4, .ref (ad q32)), (0, .ref (ad a0)), (1, .int a1), (2, .long a2)]) hx hb dX5_follow_54 hl (by decide) rfl (fun ls hl => ?_)
      refine lv_aload hx hb dX5_follow_56 (lv_at hl 3 rfl) ?_
      refine lv_aload hx hb dX5_follow_58 (lv_at hl 1 rfl) ?_
      refine r_getI hx hb hts iw0 hown hK hw q39 1 g40 (by decide) rfl (by decide) rfl (hq _ qw139) (fun _ h9 => h9) dX5_follow_60 ?_
      replace h := bd_some h
      obtain ⟨r42, er42, h⟩ := h
      refine r_callVi (As := [.int (r41.1.1 q39 1)]) (rest := []) hF (c_X1_effortOf l D cy ad adK adV r41.1 q32 (r41.1.1 q39 1) r42 er42) (gW_goodV hcm qw595 qw696 qw593 qw594 qw61) hdX1_effortOf rfl ⟨by simp only [headSpec, rmX1_effortOf, rmX5_follow]; omega, by simp only [headSpec, rmX1_effortOf, rmX5_follow]; omega⟩ rfl rfl hZ hK hw g34 (by decide) rfl rfl hl.1 rfl (Nat.le_of_ble_eq_true rfl) ⟨Nat.zero_le _, Nat.zero_le _⟩ dX5_follow_63 (fun H locs hw => ?_)
      refine lv_istore (lv' := [(8, .int r42.2), (7, .int r41.2), (6, .ref (ad q39)), (5, .int (r33.1.1 q32 5)), (4, .ref (ad q32)), (0, .ref (ad a0)), (1, .int a1), (2, .long a2)]) hx hb dX5_follow_66 hl (by decide) rfl (fun ls hl => ?_)
      refine lv_aload hx hb dX5_follow_68 (lv_at hl 4 rfl) ?_
      refine lv_iload hx hb dX5_follow_70 (lv_at hl 1 rfl) ?_
      refine lv_iload hx hb dX5_follow_72 (lv_at hl 0 rfl) ?_
      replace h := bd_some h
      obtain ⟨r43, er43, h⟩ := h
      refine r_callVi (As := [.int r41.2, .int r42.2]) (rest := []) hF (c_X1_chanceOfFirst l D cy ad adK adV r42.1 q32 r41.2 r42.2 r43 er43) (gW_goodV hcm qw605 qw697 qw603 qw604 qw61) hdX1_chanceOfFirst rfl ⟨by simp only [headSpec, rmX1_chanceOfFirst, rmX5_follow]; omega, by simp only [headSpec, rmX1_chanceOfFirst, rmX5_follow]; omega⟩ rfl rfl hZ hK hw g34 (by decide) rfl rfl hl.1 rfl (Nat.le_of_ble_eq_true rfl) ⟨Nat.zero_le _, Nat.zero_le _⟩ dX5_follow_74 (fun H locs hw => ?_)
      refine lv_istore (lv' := [(9, .int r43.2), (8, .int r42.2), (7, .int r41.2), (6, .ref (ad q39)), (5, .int (r33.1.1 q32 5)), (4, .ref (ad q32)), (0, .ref (ad a0)), (1, .int a1), (2, .long a2)]) hx hb dX5_follow_77 hl (by decide) rfl (fun ls hl => ?_)
      refine lv_iconst (v := (0 : Int32)) hx hb dX5_follow_79 (by decide) ?_
      refine lv_istore (lv' := [(10, .int (0 : Int32)), (9, .int r43.2), (8, .int r42.2), (7, .int r41.2), (6, .ref (ad q39)), (5, .int (r33.1.1 q32 5)), (4, .ref (ad q32)), (0, .ref (ad a0)), (1, .int a1), (2, .long a2)]) hx hb dX5_follow_80 hl (by decide) rfl (fun ls hl => ?_)
      exact hb82 1000 _ _ _ _ _ _ _ _ _ _ _ h _ _ _ hw (lv_sub hl [7, 8, 9, 6, 5, 4, 3, 2, 1, 0] rfl)
    · replace h := if_some_f c36 h
      exact r_vret hx hb hr hlocks hZ hK hw h dX5_follow_26
  · replace h := if_some_f c35 h
    refine lv_aload_n hx hb dX5_follow_14 rfl (lv_at hl 1 rfl) ?_
    refine lv_lload_n hx hb dX5_follow_15 rfl (lv_at hl 3 rfl) ?_
    replace h := bd_some h
    obtain ⟨r44, er44, h⟩ := h
    refine r_callVv (As := [.long a2]) (rest := []) hF (c_X5_arrive l D cy ad adK adV r33.1 a0 a2 r44 er44) (gW_goodV hcm qw693 qw690 qw692 qw13 qw64) hdX5_arrive rfl ⟨by simp only [headSpec, rmX5_arrive, rmX5_follow]; omega, by simp only [headSpec, rmX5_arrive, rmX5_follow]; omega⟩ rfl rfl hZ hK hw g31 (by decide) rfl rfl hl.1 rfl (Nat.le_of_ble_eq_true rfl) ⟨Nat.zero_le _, Nat.zero_le _⟩ dX5_follow_16 (fun H locs hw => ?_)
    exact r_vret hx hb hr hlocks hZ hK hw h dX5_follow_19
theorem dX5_startSums_0 : decode cX5_startSums 0 = .ok (.iconst 0, 1) := by decide +kernel
theorem dX5_startSums_1 : decode cX5_startSums 1 = .ok (.istore_n 1, 1) := by decide +kernel
theorem dX5_startSums_2 : decode cX5_startSums 2 = .ok (.iload_n 1, 1) := by decide +kernel
theorem dX5_startSums_3 : decode cX5_startSums 3 = .ok (.aload_n 0, 1) := by decide +kernel
theorem dX5_startSums_4 : decode cX5_startSums 4 = .ok (.getfield 12, 3) := by decide +kernel
theorem dX5_startSums_7 : decode cX5_startSums 7 = .ok (.getfield 79, 3) := by decide +kernel
theorem dX5_startSums_10 : decode cX5_startSums 10 = .ok (.if_icmp .ge 40, 3) := by decide +kernel
theorem dX5_startSums_13 : decode cX5_startSums 13 = .ok (.aload_n 0, 1) := by decide +kernel
theorem dX5_startSums_14 : decode cX5_startSums 14 = .ok (.getfield 18, 3) := by decide +kernel
theorem dX5_startSums_17 : decode cX5_startSums 17 = .ok (.iload_n 1, 1) := by decide +kernel
theorem dX5_startSums_18 : decode cX5_startSums 18 = .ok (.aload_n 0, 1) := by decide +kernel
theorem dX5_startSums_19 : decode cX5_startSums 19 = .ok (.getfield 34, 3) := by decide +kernel
theorem dX5_startSums_22 : decode cX5_startSums 22 = .ok (.aload_n 0, 1) := by decide +kernel
theorem dX5_startSums_23 : decode cX5_startSums 23 = .ok (.getfield 12, 3) := by decide +kernel
theorem dX5_startSums_26 : decode cX5_startSums 26 = .ok (.getfield 82, 3) := by decide +kernel
theorem dX5_startSums_29 : decode cX5_startSums 29 = .ok (.iload_n 1, 1) := by decide +kernel
theorem dX5_startSums_30 : decode cX5_startSums 30 = .ok (.aaload, 1) := by decide +kernel
theorem dX5_startSums_31 : decode cX5_startSums 31 = .ok (.getfield 86, 3) := by decide +kernel
theorem dX5_startSums_34 : decode cX5_startSums 34 = .ok (.i2l, 1) := by decide +kernel
theorem dX5_startSums_35 : decode cX5_startSums 35 = .ok (.lmul, 1) := by decide +kernel
theorem dX5_startSums_36 : decode cX5_startSums 36 = .ok (.lastore, 1) := by decide +kernel
theorem dX5_startSums_37 : decode cX5_startSums 37 = .ok (.aload_n 0, 1) := by decide +kernel
theorem dX5_startSums_38 : decode cX5_startSums 38 = .ok (.getfield 22, 3) := by decide +kernel
theorem dX5_startSums_41 : decode cX5_startSums 41 = .ok (.iload_n 1, 1) := by decide +kernel
theorem dX5_startSums_42 : decode cX5_startSums 42 = .ok (.lconst 0, 1) := by decide +kernel
theorem dX5_startSums_43 : decode cX5_startSums 43 = .ok (.lastore, 1) := by decide +kernel
theorem dX5_startSums_44 : decode cX5_startSums 44 = .ok (.iinc 1 1, 3) := by decide +kernel
theorem dX5_startSums_47 : decode cX5_startSums 47 = .ok (.goto (-45), 3) := by decide +kernel
theorem dX5_startSums_50 : decode cX5_startSums 50 = .ok (.iconst 0, 1) := by decide +kernel
theorem dX5_startSums_51 : decode cX5_startSums 51 = .ok (.istore_n 1, 1) := by decide +kernel
theorem dX5_startSums_52 : decode cX5_startSums 52 = .ok (.iload_n 1, 1) := by decide +kernel
theorem dX5_startSums_53 : decode cX5_startSums 53 = .ok (.aload_n 0, 1) := by decide +kernel
theorem dX5_startSums_54 : decode cX5_startSums 54 = .ok (.getfield 12, 3) := by decide +kernel
theorem dX5_startSums_57 : decode cX5_startSums 57 = .ok (.getfield 61, 3) := by decide +kernel
theorem dX5_startSums_60 : decode cX5_startSums 60 = .ok (.if_icmp .ge 94, 3) := by decide +kernel
theorem dX5_startSums_63 : decode cX5_startSums 63 = .ok (.aload_n 0, 1) := by decide +kernel
theorem dX5_startSums_64 : decode cX5_startSums 64 = .ok (.getfield 12, 3) := by decide +kernel
theorem dX5_startSums_67 : decode cX5_startSums 67 = .ok (.getfield 91, 3) := by decide +kernel
theorem dX5_startSums_70 : decode cX5_startSums 70 = .ok (.iload_n 1, 1) := by decide +kernel
theorem dX5_startSums_71 : decode cX5_startSums 71 = .ok (.aaload, 1) := by decide +kernel
theorem dX5_startSums_72 : decode cX5_startSums 72 = .ok (.astore_n 2, 1) := by decide +kernel
theorem dX5_startSums_73 : decode cX5_startSums 73 = .ok (.iload_n 1, 1) := by decide +kernel
theorem dX5_startSums_74 : decode cX5_startSums 74 = .ok (.aload_n 0, 1) := by decide +kernel
theorem dX5_startSums_75 : decode cX5_startSums 75 = .ok (.getfield 12, 3) := by decide +kernel
theorem dX5_startSums_78 : decode cX5_startSums 78 = .ok (.getfield 58, 3) := by decide +kernel
theorem dX5_startSums_81 : decode cX5_startSums 81 = .ok (.if_icmp .ge 7, 3) := by decide +kernel
theorem dX5_startSums_84 : decode cX5_startSums 84 = .ok (.iconst 1, 1) := by decide +kernel
theorem dX5_startSums_85 : decode cX5_startSums 85 = .ok (.goto 4, 3) := by decide +kernel
theorem dX5_startSums_88 : decode cX5_startSums 88 = .ok (.iconst 0, 1) := by decide +kernel
theorem dX5_startSums_89 : decode cX5_startSums 89 = .ok (.istore_n 3, 1) := by decide +kernel
theorem dX5_startSums_90 : decode cX5_startSums 90 = .ok (.aload_n 0, 1) := by decide +kernel
theorem dX5_startSums_91 : decode cX5_startSums 91 = .ok (.getfield 25, 3) := by decide +kernel
theorem dX5_startSums_94 : decode cX5_startSums 94 = .ok (.iload_n 1, 1) := by decide +kernel
theorem dX5_startSums_95 : decode cX5_startSums 95 = .ok (.iload_n 3, 1) := by decide +kernel
theorem dX5_startSums_96 : decode cX5_startSums 96 = .ok (.ifCond .eq 21, 3) := by decide +kernel
theorem dX5_startSums_99 : decode cX5_startSums 99 = .ok (.aload_n 2, 1) := by decide +kernel
theorem dX5_startSums_100 : decode cX5_startSums 100 = .ok (.getfield 95, 3) := by decide +kernel
theorem dX5_startSums_103 : decode cX5_startSums 103 = .ok (.aload_n 2, 1) := by decide +kernel
theorem dX5_startSums_104 : decode cX5_startSums 104 = .ok (.getfield 100, 3) := by decide +kernel
theorem dX5_startSums_107 : decode cX5_startSums 107 = .ok (.if_icmp .ne 10, 3) := by decide +kernel
theorem dX5_startSums_110 : decode cX5_startSums 110 = .ok (.aload_n 0, 1) := by decide +kernel
theorem dX5_startSums_111 : decode cX5_startSums 111 = .ok (.getfield 34, 3) := by decide +kernel
theorem dX5_startSums_114 : decode cX5_startSums 114 = .ok (.goto 4, 3) := by decide +kernel
theorem dX5_startSums_117 : decode cX5_startSums 117 = .ok (.lconst 0, 1) := by decide +kernel
theorem dX5_startSums_118 : decode cX5_startSums 118 = .ok (.lastore, 1) := by decide +kernel
theorem dX5_startSums_119 : decode cX5_startSums 119 = .ok (.aload_n 0, 1) := by decide +kernel
theorem dX5_startSums_120 : decode cX5_startSums 120 = .ok (.getfield 28, 3) := by decide +kernel
theorem dX5_startSums_123 : decode cX5_startSums 123 = .ok (.iload_n 1, 1) := by decide +kernel
theorem dX5_startSums_124 : decode cX5_startSums 124 = .ok (.iload_n 3, 1) := by decide +kernel
theorem dX5_startSums_125 : decode cX5_startSums 125 = .ok (.ifCond .eq 21, 3) := by decide +kernel
theorem dX5_startSums_128 : decode cX5_startSums 128 = .ok (.aload_n 2, 1) := by decide +kernel
theorem dX5_startSums_129 : decode cX5_startSums 129 = .ok (.getfield 95, 3) := by decide +kernel
theorem dX5_startSums_132 : decode cX5_startSums 132 = .ok (.aload_n 2, 1) := by decide +kernel
theorem dX5_startSums_133 : decode cX5_startSums 133 = .ok (.getfield 103, 3) := by decide +kernel
theorem dX5_startSums_136 : decode cX5_startSums 136 = .ok (.if_icmp .eq 10, 3) := by decide +kernel
theorem dX5_startSums_139 : decode cX5_startSums 139 = .ok (.aload_n 0, 1) := by decide +kernel
theorem dX5_startSums_140 : decode cX5_startSums 140 = .ok (.getfield 34, 3) := by decide +kernel
theorem dX5_startSums_143 : decode cX5_startSums 143 = .ok (.goto 4, 3) := by decide +kernel
theorem dX5_startSums_146 : decode cX5_startSums 146 = .ok (.lconst 0, 1) := by decide +kernel
theorem dX5_startSums_147 : decode cX5_startSums 147 = .ok (.lastore, 1) := by decide +kernel
theorem dX5_startSums_148 : decode cX5_startSums 148 = .ok (.iinc 1 1, 3) := by decide +kernel
theorem dX5_startSums_151 : decode cX5_startSums 151 = .ok (.goto (-99), 3) := by decide +kernel
theorem dX5_startSums_154 : decode cX5_startSums 154 = .ok (.return_, 1) := by decide +kernel
set_option maxHeartbeats 4000000 in
set_option maxRecDepth 100000 in
theorem c_X5_startSums (l : Launch) (D : va_G) (cy : Nat → ClassId) (ad adK adV : Nat → Nat) (M : Mm) (o0 : Nat) (res : Mm × Unit) (h : f_X5_startSums M o0 = some res) : Met l yX5_startSums (wU yX5_startSums cX5_startSums 4 none) rmX5_startSums (va_Pc [.ref (ad o0)] (Pre D cy shX ad nX adK adV M)) (va_Qv (fun (M2 : Mm) => M2 = res.1) (Pre D cy shX ad nX adK adV) (Aw ad nX)) 0 0 (Aw ad nX) := by
  refine Met.ofW (cc := cX5_startSums) (maxL := 4) (ret := none) (by decide) rfl ?_
  intro p e s m args below meth c s₁ B hml hv
  obtain ⟨hargs, hPre⟩ := hv
  have hx := B.exec
  have hb := B.bytes
  have hr := B.returns
  have hts := atoms_spec (ws := wU yX5_startSums cX5_startSums 4 none) B.pre
  have hq : ∀ w ∈ gW, w.before args s = true := fun w hw => hts w (List.mem_cons_of_mem _ hw)
  have hcm : ∀ w ∈ gW, w ∈ wU yX5_startSums cX5_startSums 4 none := fun w hw => List.mem_cons_of_mem _ hw
  have hown : s.vm.findClass RX5 = some m.cls := findClass_of_methodNamed B.named
  have hlocks := B.notSynchronized
  have hF : CallFix p m c cX5_startSums 4 s args (wU yX5_startSums cX5_startSums 4 none) RX5 := ⟨hx, hb, hml, hown, hts⟩
  have hK := hPre.2.1
  have hZ := hPre.2.2.2
  have hw : Wd D cy shX ad nX (Aw ad nX) s.heap M s.heap [] := ⟨hPre.1, hPre.2.2.1, va_S.rf⟩
  have iw0 : ∀ w ∈ u_ws RX0 TX0 9, w ∈ wU yX5_startSums cX5_startSums 4 none := fun w hw => List.mem_cons_of_mem _ (iX0 w hw)
  have iw1 : ∀ w ∈ u_ws RX1 TX1 11, w ∈ wU yX5_startSums cX5_startSums 4 none := fun w hw => List.mem_cons_of_mem _ (iX1 w hw)
  have iw3 : ∀ w ∈ u_ws RX3 TX3 6, w ∈ wU yX5_startSums cX5_startSums 4 none := fun w hw => List.mem_cons_of_mem _ (iX3 w hw)
  have iw5 : ∀ w ∈ u_ws RX5 TX5 13, w ∈ wU yX5_startSums cX5_startSums 4 none := fun w hw => List.mem_cons_of_mem _ (iX5 w hw)
  rw [show entryFrame m args 4 = entryFrame m ([.ref (ad o0)] : List Value).toArray 4 from by rw [hargs]]
  have hl := lv_entry ([.ref (ad o0)]) (n := 4) (Nat.le_of_ble_eq_true rfl)
  rw [lg_entry_eq]
  generalize (lg_sl ([.ref (ad o0)]) ++ List.replicate (4 - (lg_sl ([.ref (ad o0)])).length) Slot.unset).toArray = ls at hl ⊢
  have hl : lv_has ls 4 [(0, .ref (ad o0))] := hl
  have hb147 : ∀ (k52 : Mm → Nat → Int32 → Option (Mm × Unit)) (hk52 : ∀ (M : Mm) (x0 : Nat) (x1 : Int32), k52 M x0 x1 = some res → ∀ (H : Heap) (locs : List Loc) (ls : Array Slot), Wd D cy shX ad nX (Aw ad nX) s.heap M H locs → lv_has ls 4 [(0, .ref (ad x0)), (1, .int x1)] → W p l e (headSpec (wU yX5_startSums cX5_startSums 4 none) rmX5_startSums).room s m args below meth c H locs 0 0 (QV D cy shX ad nX adK adV below args s res) (F0 m 52 ls [])), ∀ (M : Mm) (x0 : Nat) (x1 : Int32) (t0 : Nat) (t1 : Int32) (t2 : Int64), f_X5_startSums_b147 k52 M x0 x1 t0 t1 t2 = some res → ∀ (H : Heap) (locs : List Loc) (ls : Array Slot), Wd D cy shX ad nX (Aw ad nX) s.heap M H locs → lv_has ls 4 [(0, .ref (ad x0)), (1, .int x1)] → W p l e (headSpec (wU yX5_startSums cX5_startSums 4 none) rmX5_startSums).room s m args below meth c H locs 0 0 (QV D cy shX ad nX adK adV below args s res) (F0 m 147 ls [.long t2, .int t1, .ref (ad t0)]) := by
    intro k52 hk52
    intro M x0 x1 t0 t1 t2 h H locs ls hw hl
    unfold f_X5_startSums_b147 at h
    replace h := gd_some h
    obtain ⟨g1, h⟩ := h
    refine r_last hx hb hK hw t0 g1 dX5_startSums_147 (fun H locs hw => ?_)
    replace h := lt_some h
    obtain ⟨M2, eM2, h⟩ := h
    rw [← eM2] at hw
    refine lv_iinc (v := x1 + (1 : Int32)) (lv' := [(1, .int (x1 + (1 : Int32))), (0, .ref (ad x0))]) hx hb dX5_startSums_148 hl (k := 1) rfl (congrArg (fun z => x1 + z) (by decide)) (by decide) rfl (fun ls hl => ?_)
    refine lv_goto (tgt := 52) hx hb dX5_startSums_151 (by decide) ?_
    exact hk52 _ _ _ h _ _ _ hw (lv_sub hl [1, 0] rfl)
  have hb146 : ∀ (k52 : Mm → Nat → Int32 → Option (Mm × Unit)) (hk52 : ∀ (M : Mm) (x0 : Nat) (x1 : Int32), k52 M x0 x1 = some res → ∀ (H : Heap) (locs : List Loc) (ls : Array Slot), Wd D cy shX ad nX (Aw ad nX) s.heap M H locs → lv_has ls 4 [(0, .ref (ad x0)), (1, .int x1)] → W p l e (headSpec (wU yX5_startSums cX5_startSums 4 none) rmX5_startSums).room s m args below meth c H locs 0 0 (QV D cy shX ad nX adK adV below args s res) (F0 m 52 ls [])), ∀ (M : Mm) (x0 : Nat) (x1 : Int32) (t0 : Nat) (t1 : Int32), f_X5_startSums_b146 k52 M x0 x1 t0 t1 = some res → ∀ (H : Heap) (locs : List Loc) (ls : Array Slot), Wd D cy shX ad nX (Aw ad nX) s.heap M H locs → lv_has ls 4 [(0, .ref (ad x0)), (1, .int x1)] → W p l e (headSpec (wU yX5_startSums cX5_startSums 4 none) rmX5_startSums).room s m args below meth c H locs 0 0 (QV D cy shX ad nX adK adV below args s res) (F0 m 146 ls [.int t1, .ref (ad t0)]) := by
    intro k52 hk52
    intro M x0 x1 t0 t1 h H locs ls hw hl
    unfold f_X5_startSums_b146 at h
    refine lv_lconst (v := (0 : Int64)) hx hb dX5_startSums_146 (by decide) ?_
    exact hb147 _ hk52 _ _ _ _ _ _ h _ _ _ hw (lv_sub hl [0, 1] rfl)
  have hb118 : ∀ (k52 : Mm → Nat → Int32 → Option (Mm × Unit)) (hk52 : ∀ (M : Mm) (x0 : Nat) (x1 : Int32), k52 M x0 x1 = some res → ∀ (H : Heap) (locs : List Loc) (ls : Array Slot), Wd D cy shX ad nX (Aw ad nX) s.heap M H locs → lv_has ls 4 [(0, .ref (ad x0)), (1, .int x1)] → W p l e (headSpec (wU yX5_startSums cX5_startSums 4 none) rmX5_startSums).room s m args below meth c H locs 0 0 (QV D cy shX ad nX adK adV below args s res) (F0 m 52 ls [])), ∀ (M : Mm) (x0 : Nat) (x1 : Int32) (x2 : Nat) (x3 : Int32) (t0 : Nat) (t1 : Int32) (t2 : Int64), f_X5_startSums_b118 k52 M x0 x1 x2 x3 t0 t1 t2 = some res → ∀ (H : Heap) (locs : List Loc) (ls : Array Slot), Wd D cy shX ad nX (Aw ad nX) s.heap M H locs → lv_has ls 4 [(0, .ref (ad x0)), (1, .int x1), (2, .ref (ad x2)), (3, .int x3)] → W p l e (headSpec (wU yX5_startSums cX5_startSums 4 none) rmX5_startSums).room s m args below meth c H locs 0 0 (QV D cy shX ad nX adK adV below args s res) (F0 m 118 ls [.long t2, .int t1, .ref (ad t0)]) := by
    intro k52 hk52
    intro M x0 x1 x2 x3 t0 t1 t2 h H locs ls hw hl
    unfold f_X5_startSums_b118 at h
    replace h := gd_some h
    obtain ⟨g3, h⟩ := h
    refine r_last hx hb hK hw t0 g3 dX5_startSums_118 (fun H locs hw => ?_)
    replace h := lt_some h
    obtain ⟨M4, eM4, h⟩ := h
    rw [← eM4] at hw
    refine lv_aload_n hx hb dX5_startSums_119 rfl (lv_at hl 0 rfl) ?_
    replace h := gd_some h
    obtain ⟨g5, h⟩ := h
    replace h := bd_some h
    obtain ⟨q6, eq6, h⟩ := h
    refine r_getR hx hb hts iw5 hown hK hw x0 4 g5 (by decide) rfl (by decide) rfl (hq _ qw247) (fun _ h9 => h9) dX5_startSums_120 eq6 ?_
    refine lv_iload_n hx hb dX5_startSums_123 rfl (lv_at hl 1 rfl) ?_
    refine lv_iload_n hx hb dX5_startSums_124 rfl (lv_at hl 3 rfl) ?_
    refine lv_if_eq (tgt := 146) hx hb dX5_startSums_125 (by decide) (fun c7 => ?_) (fun c7 => ?_)
    · replace h := if_some_t c7 h
      exact hb146 _ hk52 _ _ _ _ _ h _ _ _ hw (lv_sub hl [0, 1] rfl)
    · replace h := if_some_f c7 h
      refine lv_aload_n hx hb dX5_startSums_128 rfl (lv_at hl 2 rfl) ?_
      replace h := gd_some h
      obtain ⟨g8, h⟩ := h
      refine r_getI hx hb hts iw0 hown hK hw x2 4 g8 (by decide) rfl (by decide) rfl (hq _ qw151) (fun _ h9 => h9) dX5_startSums_129 ?_
      refine lv_aload_n hx hb dX5_startSums_132 rfl (lv_at hl 2 rfl) ?_
      refine r_getI hx hb hts iw0 hown hK hw x2 3 g8 (by decide) rfl (by decide) rfl (hq _ qw147) (fun _ h9 => h9) dX5_startSums_133 ?_
      refine lv_icmp_eq (tgt := 146) hx hb dX5_startSums_136 (by decide) (fun c9 => ?_) (fun c9 => ?_)
      · replace h := if_some_t c9 h
        exact hb146 _ hk52 _ _ _ _ _ h _ _ _ hw (lv_sub hl [0, 1] rfl)
      · replace h := if_some_f c9 h
        refine lv_aload_n hx hb dX5_startSums_139 rfl (lv_at hl 0 rfl) ?_
        refine r_getL hx hb hts iw5 hown hK hw x0 6 g5 (by decide) rfl (by decide) rfl (hq _ qw250) (fun _ h9 => h9) dX5_startSums_140 ?_
        refine lv_goto (tgt := 147) hx hb dX5_startSums_143 (by decide) ?_
        exact hb147 _ hk52 _ _ _ _ _ _ h _ _ _ hw (lv_sub hl [0, 1] rfl)
  have hb117 : ∀ (k52 : Mm → Nat → Int32 → Option (Mm × Unit)) (hk52 : ∀ (M : Mm) (x0 : Nat) (x1 : Int32), k52 M x0 x1 = some res → ∀ (H : Heap) (locs : List Loc) (ls : Array Slot), Wd D cy shX ad nX (Aw ad nX) s.heap M H locs → lv_has ls 4 [(0, .ref (ad x0)), (1, .int x1)] → W p l e (headSpec (wU yX5_startSums cX5_startSums 4 none) rmX5_startSums).room s m args below meth c H locs 0 0 (QV D cy shX ad nX adK adV below args s res) (F0 m 52 ls [])), ∀ (M : Mm) (x0 : Nat) (x1 : Int32) (x2 : Nat) (x3 : Int32) (t0 : Nat) (t1 : Int32), f_X5_startSums_b117 k52 M x0 x1 x2 x3 t0 t1 = some res → ∀ (H : Heap) (locs : List Loc) (ls : Array Slot), Wd D cy shX ad nX (Aw ad nX) s.heap M H locs → lv_has ls 4 [(0, .ref (ad x0)), (1, .int x1), (2, .ref (ad x2)), (3, .int x3)] → W p l e (headSpec (wU yX5_startSums cX5_startSums 4 none) rmX5_startSums).room s m args below meth c H locs 0 0 (QV D cy shX ad nX adK adV below args s res) (F0 m 117 ls [.int t1, .ref (ad t0)]) := by
    intro k52 hk52
    intro M x0 x1 x2 x3 t0 t1 h H locs ls hw hl
    unfold f_X5_startSums_b117 at h
    refine lv_lconst (v := (0 : Int64)) hx hb dX5_startSums_117 (by decide) ?_
    exact hb118 _ hk52 _ _ _ _ _ _ _ _ h _ _ _ hw (lv_sub hl [0, 1, 2, 3] rfl)
  have hb89 : ∀ (k52 : Mm → Nat → Int32 → Option (Mm × Unit)) (hk52 : ∀ (M : Mm) (x0 : Nat) (x1 : Int32), k52 M x0 x1 = some res → ∀ (H : Heap) (locs : List Loc) (ls : Array Slot), Wd D cy shX ad nX (Aw ad nX) s.heap M H locs → lv_has ls 4 [(0, .ref (ad x0)), (1, .int x1)] → W p l e (headSpec (wU yX5_startSums cX5_startSums 4 none) rmX5_startSums).room s m args below meth c H locs 0 0 (QV D cy shX ad nX adK adV below args s res) (F0 m 52 ls [])), ∀ (M : Mm) (x0 : Nat) (x1 : Int32) (x2 : Nat) (t0 : Int32), f_X5_startSums_b89 k52 M x0 x1 x2 t0 = some res → ∀ (H : Heap) (locs : List Loc) (ls : Array Slot), Wd D cy shX ad nX (Aw ad nX) s.heap M H locs → lv_has ls 4 [(0, .ref (ad x0)), (1, .int x1), (2, .ref (ad x2))] → W p l e (headSpec (wU yX5_startSums cX5_startSums 4 none) rmX5_startSums).room s m args below meth c H locs 0 0 (QV D cy shX ad nX adK adV below args s res) (F0 m 89 ls [.int t0]) := by
    intro k52 hk52
    intro M x0 x1 x2 t0 h H locs ls hw hl
    unfold f_X5_startSums_b89 at h
    refine lv_istore_n (lv' := [(3, .int t0), (0, .ref (ad x0)), (1, .int x1), (2, .ref (ad x2))]) hx hb dX5_startSums_89 rfl hl (by decide) rfl (fun ls hl => ?_)
    refine lv_aload_n hx hb dX5_startSums_90 rfl (lv_at hl 1 rfl) ?_
    replace h := gd_some h
    obtain ⟨g10, h⟩ := h
    replace h := bd_some h
    obtain ⟨q11, eq11, h⟩ := h
    refine r_getR hx hb hts iw5 hown hK hw x0 3 g10 (by decide) rfl (by decide) rfl (hq _ qw245) (fun _ h9 => h9) dX5_startSums_91 eq11 ?_
    refine lv_iload_n hx hb dX5_startSums_94 rfl (lv_at hl 2 rfl) ?_
    refine lv_iload_n hx hb dX5_startSums_95 rfl (lv_at hl 0 rfl) ?_
    refine lv_if_eq (tgt := 117) hx hb dX5_startSums_96 (by decide) (fun c12 => ?_) (fun c12 => ?_)
    · replace h := if_some_t c12 h
      exact hb117 _ hk52 _ _ _ _ _ _ _ h _ _ _ hw (lv_sub hl [1, 2, 3, 0] rfl)
    · replace h := if_some_f c12 h
      refine lv_aload_n hx hb dX5_startSums_99 rfl (lv_at hl 3 rfl) ?_
      replace h := gd_some h
      obtain ⟨g13, h⟩ := h
      refine r_getI hx hb hts iw0 hown hK hw x2 4 g13 (by decide) rfl (by decide) rfl (hq _ qw151) (fun _ h9 => h9) dX5_startSums_100 ?_
      refine lv_aload_n hx hb dX5_startSums_103 rfl (lv_at hl 3 rfl) ?_
      refine r_getI hx hb hts iw0 hown hK hw x2 0 g13 (by decide) rfl (by decide) rfl (hq _ qw135) (fun _ h9 => h9) dX5_startSums_104 ?_
      refine lv_icmp_ne (tgt := 117) hx hb dX5_startSums_107 (by decide) (fun c14 => ?_) (fun c14 => ?_)
      · replace h := if_some_f c14 h
        exact hb117 _ hk52 _ _ _ _ _ _ _ h _ _ _ hw (lv_sub hl [1, 2, 3, 0] rfl)
      · replace h := if_some_t c14 h
        refine lv_aload_n hx hb dX5_startSums_110 rfl (lv_at hl 1 rfl) ?_
        refine r_getL hx hb hts iw5 hown hK hw x0 6 g10 (by decide) rfl (by decide) rfl (hq _ qw250) (fun _ h9 => h9) dX5_startSums_111 ?_
        refine lv_goto (tgt := 118) hx hb dX5_startSums_114 (by decide) ?_
        exact hb118 _ hk52 _ _ _ _ _ _ _ _ h _ _ _ hw (lv_sub hl [1, 2, 3, 0] rfl)
  have hb52 : ∀ (nn : Nat), ∀ (M : Mm) (x0 : Nat) (x1 : Int32), f_X5_startSums_b52 nn M x0 x1 = some res → ∀ (H : Heap) (locs : List Loc) (ls : Array Slot), Wd D cy shX ad nX (Aw ad nX) s.heap M H locs → lv_has ls 4 [(0, .ref (ad x0)), (1, .int x1)] → W p l e (headSpec (wU yX5_startSums cX5_startSums 4 none) rmX5_startSums).room s m args below meth c H locs 0 0 (QV D cy shX ad nX adK adV below args s res) (F0 m 52 ls []) := by
    intro nn
    induction nn with
    | zero => intro M x0 x1 h; simp [f_X5_startSums_b52] at h
    | succ nn ih =>
      intro M x0 x1 h H locs ls hw hl
      unfold f_X5_startSums_b52 at h
      refine lv_iload_n hx hb dX5_startSums_52 rfl (lv_at hl 1 rfl) ?_
      refine lv_aload_n hx hb dX5_startSums_53 rfl (lv_at hl 0 rfl) ?_
      replace h := gd_some h
      obtain ⟨g15, h⟩ := h
      replace h := bd_some h
      obtain ⟨q16, eq16, h⟩ := h
      refine r_getR hx hb hts iw5 hown hK hw x0 0 g15 (by decide) rfl (by decide) rfl (hq _ qw239) (fun _ h9 => h9) dX5_startSums_54 eq16 ?_
      replace h := gd_some h
      obtain ⟨g17, h⟩ := h
      refine r_getI hx hb hts iw1 hown hK hw q16 4 g17 (by decide) rfl (by decide) rfl (hq _ qw194) (fun _ h9 => h9) dX5_startSums_57 ?_
      refine lv_icmp_ge (tgt := 154) hx hb dX5_startSums_60 (by decide) (fun c18 => ?_) (fun c18 => ?_)
      · replace h := if_some_t c18 h
        exact r_vret hx hb hr hlocks hZ hK hw h dX5_startSums_154
      · replace h := if_some_f c18 h
        refine lv_aload_n hx hb dX5_startSums_63 rfl (lv_at hl 0 rfl) ?_
        replace h := bd_some h
        obtain ⟨q19, eq19, h⟩ := h
        refine r_getR hx hb hts iw5 hown hK hw x0 0 g15 (by decide) rfl (by decide) rfl (hq _ qw239) (fun _ h9 => h9) dX5_startSums_64 eq19 ?_
        replace h := gd_some h
        obtain ⟨g20, h⟩ := h
        replace h := bd_some h
        obtain ⟨q21, eq21, h⟩ := h
        refine r_getR hx hb hts iw1 hown hK hw q19 1 g20 (by decide) rfl (by decide) rfl (hq _ qw185) (fun _ h9 => h9) dX5_startSums_67 eq21 ?_
        refine lv_iload_n hx hb dX5_startSums_70 rfl (lv_at hl 1 rfl) ?_
        replace h := gd_some h
        obtain ⟨g22, h⟩ := h
        replace h := bd_some h
        obtain ⟨q23, eq23, h⟩ := h
        refine r_aald hx hb hK hw q21 3 (by decide) rfl g22 dX5_startSums_71 eq23 ?_
        refine lv_astore_n (lv' := [(2, .ref (ad q23)), (0, .ref (ad x0)), (1, .int x1)]) hx hb dX5_startSums_72 rfl hl (by decide) rfl (fun ls hl => ?_)
        refine lv_iload_n hx hb dX5_startSums_73 rfl (lv_at hl 2 rfl) ?_
        refine lv_aload_n hx hb dX5_startSums_74 rfl (lv_at hl 1 rfl) ?_
        replace h := bd_some h
        obtain ⟨q24, eq24, h⟩ := h
        refine r_getR hx hb hts iw5 hown hK hw x0 0 g15 (by decide) rfl (by decide) rfl (hq _ qw239) (fun _ h9 => h9) dX5_startSums_75 eq24 ?_
        replace h := gd_some h
        obtain ⟨g25, h⟩ := h
        refine r_getI hx hb hts iw1 hown hK hw q24 5 g25 (by decide) rfl (by decide) rfl (hq _ qw198) (fun _ h9 => h9) dX5_startSums_78 ?_
        refine lv_icmp_ge (tgt := 88) hx hb dX5_startSums_81 (by decide) (fun c26 => ?_) (fun c26 => ?_)
        · replace h := if_some_t c26 h
          refine lv_iconst (v := (0 : Int32)) hx hb dX5_startSums_88 (by decide) ?_
          exact hb89 _ ih _ _ _ _ _ h _ _ _ hw (lv_sub hl [1, 2, 0] rfl)
        · replace h := if_some_f c26 h
          refine lv_iconst (v := (1 : Int32)) hx hb dX5_startSums_84 (by decide) ?_
          refine lv_goto (tgt := 89) hx hb dX5_startSums_85 (by decide) ?_
          exact hb89 _ ih _ _ _ _ _ h _ _ _ hw (lv_sub hl [1, 2, 0] rfl)
  have hb2 : ∀ (nn : Nat), ∀ (M : Mm) (x0 : Nat) (x1 : Int32), f_X5_startSums_b2 nn M x0 x1 = some res → ∀ (H : Heap) (locs : List Loc) (ls : Array Slot), Wd D cy shX ad nX (Aw ad nX) s.heap M H locs → lv_has ls 4 [(0, .ref (ad x0)), (1, .int x1)] → W p l e (headSpec (wU yX5_startSums cX5_startSums 4 none) rmX5_startSums).room s m args below meth c H locs 0 0 (QV D cy shX ad nX adK adV below args s res) (F0 m 2 ls []) := by
    intro nn
    induction nn with
    | zero => intro M x0 x1 h; simp [f_X5_startSums_b2] at h
    | succ nn ih =>
      intro M x0 x1 h H locs ls hw hl
      unfold f_X5_startSums_b2 at h
      refine lv_iload_n hx hb dX5_startSums_2 rfl (lv_at hl 1 rfl) ?_
      refine lv_aload_n hx hb dX5_startSums_3 rfl (lv_at hl 0 rfl) ?_
      replace h := gd_some h
      obtain ⟨g27, h⟩ := h
      replace h := bd_some h
      obtain ⟨q28, eq28, h⟩ := h
      refine r_getR hx hb hts iw5 hown hK hw x0 0 g27 (by decide) rfl (by decide) rfl (hq _ qw239) (fun _ h9 => h9) dX5_startSums_4 eq28 ?_
      replace h := gd_some h
      obtain ⟨g29, h⟩ := h
      refine r_getI hx hb hts iw1 hown hK hw q28 3 g29 (by decide) rfl (by decide) rfl (hq _ qw192) (fun _ h9 => h9) dX5_startSums_7 ?_
      refine lv_icmp_ge (tgt := 50) hx hb dX5_startSums_10 (by decide) (fun c30 => ?_) (fun c30 => ?_)
      · replace h := if_some_t c30 h
        refine lv_iconst (v := (0 : Int32)) hx hb dX5_startSums_50 (by decide) ?_
        refine lv_istore_n (lv' := [(1, .int (0 : Int32)), (0, .ref (ad x0))]) hx hb dX5_startSums_51 rfl hl (by decide) rfl (fun ls hl => ?_)
        exact hb52 1000 _ _ _ h _ _ _ hw (lv_sub hl [1, 0] rfl)
      · replace h := if_some_f c30 h
        refine lv_aload_n hx hb dX5_startSums_13 rfl (lv_at hl 0 rfl) ?_
        replace h := bd_some h
        obtain ⟨q31, eq31, h⟩ := h
        refine r_getR hx hb hts iw5 hown hK hw x0 1 g27 (by decide) rfl (by decide) rfl (hq _ qw241) (fun _ h9 => h9) dX5_startSums_14 eq31 ?_
        refine lv_iload_n hx hb dX5_startSums_17 rfl (lv_at hl 1 rfl) ?_
        refine lv_aload_n hx hb dX5_startSums_18 rfl (lv_at hl 0 rfl) ?_
        refine r_getL hx hb hts iw5 hown hK hw x0 6 g27 (by decide) rfl (by decide) rfl (hq _ qw250) (fun _ h9 => h9) dX5_startSums_19 ?_
        refine lv_aload_n hx hb dX5_startSums_22 rfl (lv_at hl 0 rfl) ?_
        replace h := bd_some h
        obtain ⟨q32, eq32, h⟩ := h
        refine r_getR hx hb hts iw5 hown hK hw x0 0 g27 (by decide) rfl (by decide) rfl (hq _ qw239) (fun _ h9 => h9) dX5_startSums_23 eq32 ?_
        replace h := gd_some h
        obtain ⟨g33, h⟩ := h
        replace h := bd_some h
        obtain ⟨q34, eq34, h⟩ := h
        refine r_getR hx hb hts iw1 hown hK hw q32 0 g33 (by decide) rfl (by decide) rfl (hq _ qw183) (fun _ h9 => h9) dX5_startSums_26 eq34 ?_
        refine lv_iload_n hx hb dX5_startSums_29 rfl (lv_at hl 1 rfl) ?_
        replace h := gd_some h
        obtain ⟨g35, h⟩ := h
        replace h := bd_some h
        obtain ⟨q36, eq36, h⟩ := h
        refine r_aald hx hb hK hw q34 2 (by decide) rfl g35 dX5_startSums_30 eq36 ?_
        replace h := gd_some h
        obtain ⟨g37, h⟩ := h
        refine r_getI hx hb hts iw3 hown hK hw q36 3 g37 (by decide) rfl (by decide) rfl (hq _ qw108) (fun _ h9 => h9) dX5_startSums_31 ?_
        refine lv_i2l (v := (M.1 q36 3).toInt64) hx hb dX5_startSums_34 rfl ?_
        refine lv_lmul hx hb dX5_startSums_35 ?_
        replace h := gd_some h
        obtain ⟨g38, h⟩ := h
        refine r_last hx hb hK hw q31 g38 dX5_startSums_36 (fun H locs hw => ?_)
        replace h := lt_some h
        obtain ⟨M39, eM39, h⟩ := h
        rw [← eM39] at hw
        refine lv_aload_n hx hb dX5_startSums_37 rfl (lv_at hl 0 rfl) ?_
        replace h := bd_some h
        obtain ⟨q40, eq40, h⟩ := h
        refine r_getR hx hb hts iw5 hown hK hw x0 2 g27 (by decide) rfl (by decide) rfl (hq _ qw243) (fun _ h9 => h9) dX5_startSums_38 eq40 ?_
        refine lv_iload_n hx hb dX5_startSums_41 rfl (lv_at hl 1 rfl) ?_
        refine lv_lconst (v := (0 : Int64)) hx hb dX5_startSums_42 (by decide) ?_
        replace h := gd_some h
        obtain ⟨g41, h⟩ := h
        refine r_last hx hb hK hw q40 g41 dX5_startSums_43 (fun H locs hw => ?_)
        replace h := lt_some h
        obtain ⟨M42, eM42, h⟩ := h
        rw [← eM42] at hw
        refine lv_iinc (v := x1 + (1 : Int32)) (lv' := [(1, .int (x1 + (1 : Int32))), (0, .ref (ad x0))]) hx hb dX5_startSums_44 hl (k := 1) rfl (congrArg (fun z => x1 + z) (by decide)) (by decide) rfl (fun ls hl => ?_)
        refine lv_goto (tgt := 2) hx hb dX5_startSums_47 (by decide) ?_
        exact ih _ _ _ h _ _ _ hw (lv_sub hl [1, 0] rfl)
  unfold f_X5_startSums at h
  refine lv_iconst (v := (0 : Int32)) hx hb dX5_startSums_0 (by decide) ?_
  refine lv_istore_n (lv' := [(1, .int (0 : Int32)), (0, .ref (ad o0))]) hx hb dX5_startSums_1 rfl hl (by decide) rfl (fun ls hl => ?_)
  exact hb2 1000 _ _ _ h _ _ _ hw (lv_sub hl [1, 0] rfl)
theorem dX5_over_0 : decode cX5_over 0 = .ok (.aload_n 0, 1) := by decide +kernel
theorem dX5_over_1 : decode cX5_over 1 = .ok (.iload_n 1, 1) := by decide +kernel
theorem dX5_over_2 : decode cX5_over 2 = .ok (.putfield 42, 3) := by decide +kernel
theorem dX5_over_5 : decode cX5_over 5 = .ok (.aload_n 0, 1) := by decide +kernel
theorem dX5_over_6 : decode cX5_over 6 = .ok (.iload_n 2, 1) := by decide +kernel
theorem dX5_over_7 : decode cX5_over 7 = .ok (.putfield 45, 3) := by decide +kernel
theorem dX5_over_10 : decode cX5_over 10 = .ok (.aload_n 0, 1) := by decide +kernel
theorem dX5_over_11 : decode cX5_over 11 = .ok (.iload_n 3, 1) := by decide +kernel
theorem dX5_over_12 : decode cX5_over 12 = .ok (.putfield 48, 3) := by decide +kernel
theorem dX5_over_15 : decode cX5_over 15 = .ok (.aload_n 0, 1) := by decide +kernel
theorem dX5_over_16 : decode cX5_over 16 = .ok (.lconst 0, 1) := by decide +kernel
theorem dX5_over_17 : decode cX5_over 17 = .ok (.putfield 52, 3) := by decide +kernel
theorem dX5_over_20 : decode cX5_over 20 = .ok (.aload_n 0, 1) := by decide +kernel
theorem dX5_over_21 : decode cX5_over 21 = .ok (.iconst 0, 1) := by decide +kernel
theorem dX5_over_22 : decode cX5_over 22 = .ok (.putfield 55, 3) := by decide +kernel
theorem dX5_over_25 : decode cX5_over 25 = .ok (.aload_n 0, 1) := by decide +kernel
theorem dX5_over_26 : decode cX5_over 26 = .ok (.iconst 0, 1) := by decide +kernel
theorem dX5_over_27 : decode cX5_over 27 = .ok (.putfield 38, 3) := by decide +kernel
theorem dX5_over_30 : decode cX5_over 30 = .ok (.aload_n 0, 1) := by decide +kernel
theorem dX5_over_31 : decode cX5_over 31 = .ok (.lconst 1, 1) := by decide +kernel
theorem dX5_over_32 : decode cX5_over 32 = .ok (.putfield 34, 3) := by decide +kernel
theorem dX5_over_35 : decode cX5_over 35 = .ok (.aload_n 0, 1) := by decide +kernel
theorem dX5_over_36 : decode cX5_over 36 = .ok (.getfield 12, 3) := by decide +kernel
theorem dX5_over_39 : decode cX5_over 39 = .ok (.getfield 58, 3) := by decide +kernel
theorem dX5_over_42 : decode cX5_over 42 = .ok (.istore 4, 2) := by decide +kernel
theorem dX5_over_44 : decode cX5_over 44 = .ok (.iload 4, 2) := by decide +kernel
theorem dX5_over_46 : decode cX5_over 46 = .ok (.aload_n 0, 1) := by decide +kernel
theorem dX5_over_47 : decode cX5_over 47 = .ok (.getfield 12, 3) := by decide +kernel
theorem dX5_over_50 : decode cX5_over 50 = .ok (.getfield 61, 3) := by decide +kernel
theorem dX5_over_53 : decode cX5_over 53 = .ok (.if_icmp .ge 21, 3) := by decide +kernel
theorem dX5_over_56 : decode cX5_over 56 = .ok (.aload_n 0, 1) := by decide +kernel
theorem dX5_over_57 : decode cX5_over 57 = .ok (.dup, 1) := by decide +kernel
theorem dX5_over_58 : decode cX5_over 58 = .ok (.getfield 34, 3) := by decide +kernel
theorem dX5_over_61 : decode cX5_over 61 = .ok (.ldc2_w 64, 3) := by decide +kernel
theorem dX5_over_64 : decode cX5_over 64 = .ok (.lmul, 1) := by decide +kernel
theorem dX5_over_65 : decode cX5_over 65 = .ok (.putfield 34, 3) := by decide +kernel
theorem dX5_over_68 : decode cX5_over 68 = .ok (.iinc 4 1, 3) := by decide +kernel
theorem dX5_over_71 : decode cX5_over 71 = .ok (.goto (-27), 3) := by decide +kernel
theorem dX5_over_74 : decode cX5_over 74 = .ok (.aload_n 0, 1) := by decide +kernel
theorem dX5_over_75 : decode cX5_over 75 = .ok (.invokevirtual 66, 3) := by decide +kernel
theorem dX5_over_78 : decode cX5_over 78 = .ok (.aload_n 0, 1) := by decide +kernel
theorem dX5_over_79 : decode cX5_over 79 = .ok (.iconst 0, 1) := by decide +kernel
theorem dX5_over_80 : decode cX5_over 80 = .ok (.aload_n 0, 1) := by decide +kernel
theorem dX5_over_81 : decode cX5_over 81 = .ok (.getfield 34, 3) := by decide +kernel
theorem dX5_over_84 : decode cX5_over 84 = .ok (.invokestatic 69, 3) := by decide +kernel
theorem dX5_over_87 : decode cX5_over 87 = .ok (.return_, 1) := by decide +kernel
set_option maxHeartbeats 4000000 in
set_option maxRecDepth 100000 in
theorem c_X5_over (l : Launch) (D : va_G) (cy : Nat → ClassId) (ad adK adV : Nat → Nat) (M : Mm) (o0 : Nat) (a1 : Int32) (a2 : Int32) (a3 : Int32) (res : Mm × Unit) (h : f_X5_over M o0 a1 a2 a3 = some res) : Met l yX5_over (wU yX5_over cX5_over 5 none) rmX5_over (va_Pc [.ref (ad o0), .int a1, .int a2, .int a3] (Pre D cy shX ad nX adK adV M)) (va_Qv (fun (M2 : Mm) => M2 = res.1) (Pre D cy shX ad nX adK adV) (Aw ad nX)) 0 0 (Aw ad nX) := by
  refine Met.ofW (cc := cX5_over) (maxL := 5) (ret := none) (by decide) rfl ?_
  intro p e s m args below meth c s₁ B hml hv
  obtain ⟨hargs, hPre⟩ := hv
  have hx := B.exec
  have hb := B.bytes
  have hr := B.returns
  have hts := atoms_spec (ws := wU yX5_over cX5_over 5 none) B.pre
  have hq : ∀ w ∈ gW, w.before args s = true := fun w hw => hts w (List.mem_cons_of_mem _ hw)
  have hcm : ∀ w ∈ gW, w ∈ wU yX5_over cX5_over 5 none := fun w hw => List.mem_cons_of_mem _ hw
  have hown : s.vm.findClass RX5 = some m.cls := findClass_of_methodNamed B.named
  have hlocks := B.notSynchronized
  have hF : CallFix p m c cX5_over 5 s args (wU yX5_over cX5_over 5 none) RX5 := ⟨hx, hb, hml, hown, hts⟩
  have hK := hPre.2.1
  have hZ := hPre.2.2.2
  have hw : Wd D cy shX ad nX (Aw ad nX) s.heap M s.heap [] := ⟨hPre.1, hPre.2.2.1, va_S.rf⟩
  have iw1 : ∀ w ∈ u_ws RX1 TX1 11, w ∈ wU yX5_over cX5_over 5 none := fun w hw => List.mem_cons_of_mem _ (iX1 w hw)
  have iw5 : ∀ w ∈ u_ws RX5 TX5 13, w ∈ wU yX5_over cX5_over 5 none := fun w hw => List.mem_cons_of_mem _ (iX5 w hw)
  rw [show entryFrame m args 5 = entryFrame m ([.ref (ad o0), .int a1, .int a2, .int a3] : List Value).toArray 5 from by rw [hargs]]
  have hl := lv_entry ([.ref (ad o0), .int a1, .int a2, .int a3]) (n := 5) (Nat.le_of_ble_eq_true rfl)
  rw [lg_entry_eq]
  generalize (lg_sl ([.ref (ad o0), .int a1, .int a2, .int a3]) ++ List.replicate (5 - (lg_sl ([.ref (ad o0), .int a1, .int a2, .int a3])).length) Slot.unset).toArray = ls at hl ⊢
  have hl : lv_has ls 5 [(0, .ref (ad o0)), (1, .int a1), (2, .int a2), (3, .int a3)] := hl
  have hb44 : ∀ (nn : Nat), ∀ (M : Mm) (x0 : Nat) (x4 : Int32), f_X5_over_b44 nn M x0 x4 = some res → ∀ (H : Heap) (locs : List Loc) (ls : Array Slot), Wd D cy shX ad nX (Aw ad nX) s.heap M H locs → lv_has ls 5 [(0, .ref (ad x0)), (4, .int x4)] → W p l e (headSpec (wU yX5_over cX5_over 5 none) rmX5_over).room s m args below meth c H locs 0 0 (QV D cy shX ad nX adK adV below args s res) (F0 m 44 ls []) := by
    intro nn
    induction nn with
    | zero => intro M x0 x4 h; simp [f_X5_over_b44] at h
    | succ nn ih =>
      intro M x0 x4 h H locs ls hw hl
      unfold f_X5_over_b44 at h
      refine lv_iload hx hb dX5_over_44 (lv_at hl 1 rfl) ?_
      refine lv_aload_n hx hb dX5_over_46 rfl (lv_at hl 0 rfl) ?_
      replace h := gd_some h
      obtain ⟨g1, h⟩ := h
      replace h := bd_some h
      obtain ⟨q2, eq2, h⟩ := h
      refine r_getR hx hb hts iw5 hown hK hw x0 0 g1 (by decide) rfl (by decide) rfl (hq _ qw239) (fun _ h9 => h9) dX5_over_47 eq2 ?_
      replace h := gd_some h
      obtain ⟨g3, h⟩ := h
      refine r_getI hx hb hts iw1 hown hK hw q2 4 g3 (by decide) rfl (by decide) rfl (hq _ qw194) (fun _ h9 => h9) dX5_over_50 ?_
      refine lv_icmp_ge (tgt := 74) hx hb dX5_over_53 (by decide) (fun c4 => ?_) (fun c4 => ?_)
      · replace h := if_some_t c4 h
        refine lv_aload_n hx hb dX5_over_74 rfl (lv_at hl 0 rfl) ?_
        replace h := bd_some h
        obtain ⟨r5, er5, h⟩ := h
        refine r_callVv (As := []) (rest := []) hF (c_X5_startSums l D cy ad adK adV M x0 r5 er5) (gW_goodV hcm qw685 qw682 qw684 qw12 qw64) hdX5_startSums rfl ⟨Nat.le_of_ble_eq_true rfl, Nat.le_of_ble_eq_true rfl⟩ rfl rfl hZ hK hw g1 (by decide) rfl rfl hl.1 rfl (Nat.le_of_ble_eq_true rfl) ⟨Nat.zero_le _, Nat.zero_le _⟩ dX5_over_75 (fun H locs hw => ?_)
        refine lv_aload_n hx hb dX5_over_78 rfl (lv_at hl 0 rfl) ?_
        refine lv_iconst (v := (0 : Int32)) hx hb dX5_over_79 (by decide) ?_
        refine lv_aload_n hx hb dX5_over_80 rfl (lv_at hl 0 rfl) ?_
        refine r_getL hx hb hts iw5 hown hK hw x0 6 g1 (by decide) rfl (by decide) rfl (hq _ qw250) (fun _ h9 => h9) dX5_over_81 ?_
        replace h := bd_some h
        obtain ⟨r6, er6, h⟩ := h
        refine r_callSv (As := [.ref (ad x0), .int (0 : Int32), .long (r5.1.2.1 x0 6)]) (rest := []) hF (c_X5_follow l D cy ad adK adV 10 r5.1 x0 (0 : Int32) (r5.1.2.1 x0 6) r6 er6) (gW_goodS hcm qw688 qw686 qw687 qw64) hdX5_follow ⟨Nat.le_of_ble_eq_true rfl, Nat.le_of_ble_eq_true rfl⟩ rfl rfl hZ hK hw rfl hl.1 rfl (Nat.le_of_ble_eq_true rfl) ⟨Nat.zero_le _, Nat.zero_le _⟩ dX5_over_84 (fun H locs hw => ?_)
        exact r_vret hx hb hr hlocks hZ hK hw h dX5_over_87
      · replace h := if_some_f c4 h
        refine lv_aload_n hx hb dX5_over_56 rfl (lv_at hl 0 rfl) ?_
        refine lv_dup hx hb dX5_over_57 rfl ?_
        refine r_getL hx hb hts iw5 hown hK hw x0 6 g1 (by decide) rfl (by decide) rfl (hq _ qw250) (fun _ h9 => h9) dX5_over_58 ?_
        refine lv_ldc2 (v := (10 : Int64)) hx hb hown (hq _ qw681) dX5_over_61 ?_
        refine lv_lmul hx hb dX5_over_64 ?_
        refine r_putL hx hb hts iw5 tyX5 tyX5_ok nmX5 hown hK hw x0 6 g1 (by decide) rfl (by decide) rfl (hq _ qw250) (fun _ h9 => h9) rfl rfl rfl dX5_over_65 (fun H locs hw => ?_)
        replace h := lt_some h
        obtain ⟨M7, eM7, h⟩ := h
        rw [← eM7] at hw
        refine lv_iinc (v := x4 + (1 : Int32)) (lv' := [(4, .int (x4 + (1 : Int32))), (0, .ref (ad x0))]) hx hb dX5_over_68 hl (k := 1) rfl (congrArg (fun z => x4 + z) (by decide)) (by decide) rfl (fun ls hl => ?_)
        refine lv_goto (tgt := 44) hx hb dX5_over_71 (by decide) ?_
        exact ih _ _ _ h _ _ _ hw (lv_sub hl [1, 0] rfl)
  unfold f_X5_over at h
  refine lv_aload_n hx hb dX5_over_0 rfl (lv_at hl 0 rfl) ?_
  refine lv_iload_n hx hb dX5_over_1 rfl (lv_at hl 1 rfl) ?_
  replace h := gd_some h
  obtain ⟨g8, h⟩ := h
  refine r_putI hx hb hts iw5 tyX5 tyX5_ok nmX5 hown hK hw o0 8 g8 (by decide) rfl (by decide) rfl (hq _ qw254) (fun _ h9 => h9) rfl rfl rfl dX5_over_2 (fun H locs hw => ?_)
  replace h := lt_some h
  obtain ⟨M9, eM9, h⟩ := h
  rw [← eM9] at hw
  refine lv_aload_n hx hb dX5_over_5 rfl (lv_at hl 0 rfl) ?_
  refine lv_iload_n hx hb dX5_over_6 rfl (lv_at hl 2 rfl) ?_
  refine r_putI hx hb hts iw5 tyX5 tyX5_ok nmX5 hown hK hw o0 9 g8 (by decide) rfl (by decide) rfl (hq _ qw255) (fun _ h9 => h9) rfl rfl rfl dX5_over_7 (fun H locs hw => ?_)
  replace h := lt_some h
  obtain ⟨M10, eM10, h⟩ := h
  rw [← eM10] at hw
  refine lv_aload_n hx hb dX5_over_10 rfl (lv_at hl 0 rfl) ?_
  refine lv_iload_n hx hb dX5_over_11 rfl (lv_at hl 3 rfl) ?_
  replace h := gd_some h
  obtain ⟨z11, h⟩ := h
  refine r_putI hx hb hts iw5 tyX5 tyX5_ok nmX5 hown hK hw o0 10 g8 (by decide) rfl (by decide) rfl (hq _ qw256) (fun _ h9 => h9) rfl (nar_bz z11) (fit_bz z11) dX5_over_12 (fun H locs hw => ?_)
  replace h := lt_some h
  obtain ⟨M12, eM12, h⟩ := h
  rw [← eM12] at hw
  refine lv_aload_n hx hb dX5_over_15 rfl (lv_at hl 0 rfl) ?_
  refine lv_lconst (v := (0 : Int64)) hx hb dX5_over_16 (by decide) ?_
  refine r_putL hx hb hts iw5 tyX5 tyX5_ok nmX5 hown hK hw o0 11 g8 (by decide) rfl (by decide) rfl (hq _ qw257) (fun _ h9 => h9) rfl rfl rfl dX5_over_17 (fun H locs hw => ?_)
  replace h := lt_some h
  obtain ⟨M13, eM13, h⟩ := h
  rw [← eM13] at hw
  refine lv_aload_n hx hb dX5_over_20 rfl (lv_at hl 0 rfl) ?_
  refine lv_iconst (v := (0 : Int32)) hx hb dX5_over_21 (by decide) ?_
  refine r_putI hx hb hts iw5 tyX5 tyX5_ok nmX5 hown hK hw o0 12 g8 (by decide) rfl (by decide) rfl (hq _ qw259) (fun _ h9 => h9) rfl rfl rfl dX5_over_22 (fun H locs hw => ?_)
  replace h := lt_some h
  obtain ⟨M14, eM14, h⟩ := h
  rw [← eM14] at hw
  refine lv_aload_n hx hb dX5_over_25 rfl (lv_at hl 0 rfl) ?_
  refine lv_iconst (v := (0 : Int32)) hx hb dX5_over_26 (by decide) ?_
  refine r_putI hx hb hts iw5 tyX5 tyX5_ok nmX5 hown hK hw o0 7 g8 (by decide) rfl (by decide) rfl (hq _ qw252) (fun _ h9 => h9) rfl rfl rfl dX5_over_27 (fun H locs hw => ?_)
  replace h := lt_some h
  obtain ⟨M15, eM15, h⟩ := h
  rw [← eM15] at hw
  refine lv_aload_n hx hb dX5_over_30 rfl (lv_at hl 0 rfl) ?_
  refine lv_lconst (v := (1 : Int64)) hx hb dX5_over_31 (by decide) ?_
  refine r_putL hx hb hts iw5 tyX5 tyX5_ok nmX5 hown hK hw o0 6 g8 (by decide) rfl (by decide) rfl (hq _ qw250) (fun _ h9 => h9) rfl rfl rfl dX5_over_32 (fun H locs hw => ?_)
  replace h := lt_some h
  obtain ⟨M16, eM16, h⟩ := h
  rw [← eM16] at hw
  refine lv_aload_n hx hb dX5_over_35 rfl (lv_at hl 0 rfl) ?_
  replace h := bd_some h
  obtain ⟨q17, eq17, h⟩ := h
  refine r_getR hx hb hts iw5 hown hK hw o0 0 g8 (by decide) rfl (by decide) rfl (hq _ qw239) (fun _ h9 => h9) dX5_over_36 eq17 ?_
  replace h := gd_some h
  obtain ⟨g18, h⟩ := h
  refine r_getI hx hb hts iw1 hown hK hw q17 5 g18 (by decide) rfl (by decide) rfl (hq _ qw198) (fun _ h9 => h9) dX5_over_39 ?_
  refine lv_istore (lv' := [(4, .int (M16.1 q17 5)), (0, .ref (ad o0)), (1, .int a1), (2, .int a2), (3, .int a3)]) hx hb dX5_over_42 hl (by decide) rfl (fun ls hl => ?_)
  exact hb44 1000 _ _ _ h _ _ _ hw (lv_sub hl [1, 0] rfl)
theorem dX5_keepPointSums_0 : decode cX5_keepPointSums 0 = .ok (.aload_n 0, 1) := by decide +kernel
theorem dX5_keepPointSums_1 : decode cX5_keepPointSums 1 = .ok (.getfield 18, 3) := by decide +kernel
theorem dX5_keepPointSums_4 : decode cX5_keepPointSums 4 = .ok (.iconst 0, 1) := by decide +kernel
theorem dX5_keepPointSums_5 : decode cX5_keepPointSums 5 = .ok (.aload_n 0, 1) := by decide +kernel
theorem dX5_keepPointSums_6 : decode cX5_keepPointSums 6 = .ok (.getfield 31, 3) := by decide +kernel
theorem dX5_keepPointSums_9 : decode cX5_keepPointSums 9 = .ok (.iconst 0, 1) := by decide +kernel
theorem dX5_keepPointSums_10 : decode cX5_keepPointSums 10 = .ok (.bipush 6, 2) := by decide +kernel
theorem dX5_keepPointSums_12 : decode cX5_keepPointSums 12 = .ok (.invokestatic 73, 3) := by decide +kernel
theorem dX5_keepPointSums_15 : decode cX5_keepPointSums 15 = .ok (.return_, 1) := by decide +kernel
set_option maxHeartbeats 4000000 in
set_option maxRecDepth 100000 in
theorem c_X5_keepPointSums (l : Launch) (D : va_G) (cy : Nat → ClassId) (ad adK adV : Nat → Nat) (M : Mm) (o0 : Nat) (res : Mm × Unit) (h : f_X5_keepPointSums M o0 = some res) : Met l yX5_keepPointSums (wU yX5_keepPointSums cX5_keepPointSums 1 none) rmX5_keepPointSums (va_Pc [.ref (ad o0)] (Pre D cy shX ad nX adK adV M)) (va_Qv (fun (M2 : Mm) => M2 = res.1) (Pre D cy shX ad nX adK adV) (Aw ad nX)) 0 0 (Aw ad nX) := by
  refine Met.ofW (cc := cX5_keepPointSums) (maxL := 1) (ret := none) (by decide) rfl ?_
  intro p e s m args below meth c s₁ B hml hv
  obtain ⟨hargs, hPre⟩ := hv
  have hx := B.exec
  have hb := B.bytes
  have hr := B.returns
  have hts := atoms_spec (ws := wU yX5_keepPointSums cX5_keepPointSums 1 none) B.pre
  have hq : ∀ w ∈ gW, w.before args s = true := fun w hw => hts w (List.mem_cons_of_mem _ hw)
  have hcm : ∀ w ∈ gW, w ∈ wU yX5_keepPointSums cX5_keepPointSums 1 none := fun w hw => List.mem_cons_of_mem _ hw
  have hown : s.vm.findClass RX5 = some m.cls := findClass_of_methodNamed B.named
  have hlocks := B.notSynchronized
  have hF : CallFix p m c cX5_keepPointSums 1 s args (wU yX5_keepPointSums cX5_keepPointSums 1 none) RX5 := ⟨hx, hb, hml, hown, hts⟩
  have hK := hPre.2.1
  have hZ := hPre.2.2.2
  have hw : Wd D cy shX ad nX (Aw ad nX) s.heap M s.heap [] := ⟨hPre.1, hPre.2.2.1, va_S.rf⟩
  have iw5 : ∀ w ∈ u_ws RX5 TX5 13, w ∈ wU yX5_keepPointSums cX5_keepPointSums 1 none := fun w hw => List.mem_cons_of_mem _ (iX5 w hw)
  rw [show entryFrame m args 1 = entryFrame m ([.ref (ad o0)] : List Value).toArray 1 from by rw [hargs]]
  have hl := lv_entry ([.ref (ad o0)]) (n := 1) (Nat.le_of_ble_eq_true rfl)
  rw [lg_entry_eq]
  generalize (lg_sl ([.ref (ad o0)]) ++ List.replicate (1 - (lg_sl ([.ref (ad o0)])).length) Slot.unset).toArray = ls at hl ⊢
  have hl : lv_has ls 1 [(0, .ref (ad o0))] := hl
  unfold f_X5_keepPointSums at h
  refine lv_aload_n hx hb dX5_keepPointSums_0 rfl (lv_at hl 0 rfl) ?_
  replace h := gd_some h
  obtain ⟨g1, h⟩ := h
  replace h := bd_some h
  obtain ⟨q2, eq2, h⟩ := h
  refine r_getR hx hb hts iw5 hown hK hw o0 1 g1 (by decide) rfl (by decide) rfl (hq _ qw241) (fun _ h9 => h9) dX5_keepPointSums_1 eq2 ?_
  refine lv_iconst (v := (0 : Int32)) hx hb dX5_keepPointSums_4 (by decide) ?_
  refine lv_aload_n hx hb dX5_keepPointSums_5 rfl (lv_at hl 0 rfl) ?_
  replace h := bd_some h
  obtain ⟨q3, eq3, h⟩ := h
  refine r_getR hx hb hts iw5 hown hK hw o0 5 g1 (by decide) rfl (by decide) rfl (hq _ qw249) (fun _ h9 => h9) dX5_keepPointSums_6 eq3 ?_
  refine lv_iconst (v := (0 : Int32)) hx hb dX5_keepPointSums_9 (by decide) ?_
  refine lv_bipush (v := (6 : Int32)) hx hb dX5_keepPointSums_10 (by decide) ?_
  replace h := gd_some h
  obtain ⟨g4, h⟩ := h
  refine r_copyl hx hb (hml.trans hl.1.symm) hown (hq _ qw780) (hq _ qw468) (hq _ qw467) (hq _ qw68) hK hw q2 q3 g4 (Nat.le_of_ble_eq_true rfl) (Nat.le_of_ble_eq_true rfl) dX5_keepPointSums_12 (fun H locs hw => ?_)
  replace h := lt_some h
  obtain ⟨M5, eM5, h⟩ := h
  rw [← eM5] at hw
  exact r_vret hx hb hr hlocks hZ hK hw h dX5_keepPointSums_15
theorem dX5_keptAbovePointSum_0 : decode cX5_keptAbovePointSum 0 = .ok (.aload_n 0, 1) := by decide +kernel
theorem dX5_keptAbovePointSum_1 : decode cX5_keptAbovePointSum 1 = .ok (.getfield 31, 3) := by decide +kernel
theorem dX5_keptAbovePointSum_4 : decode cX5_keptAbovePointSum 4 = .ok (.iload_n 1, 1) := by decide +kernel
theorem dX5_keptAbovePointSum_5 : decode cX5_keptAbovePointSum 5 = .ok (.laload, 1) := by decide +kernel
theorem dX5_keptAbovePointSum_6 : decode cX5_keptAbovePointSum 6 = .ok (.aload_n 0, 1) := by decide +kernel
theorem dX5_keptAbovePointSum_7 : decode cX5_keptAbovePointSum 7 = .ok (.getfield 18, 3) := by decide +kernel
theorem dX5_keptAbovePointSum_10 : decode cX5_keptAbovePointSum 10 = .ok (.iload_n 1, 1) := by decide +kernel
theorem dX5_keptAbovePointSum_11 : decode cX5_keptAbovePointSum 11 = .ok (.laload, 1) := by decide +kernel
theorem dX5_keptAbovePointSum_12 : decode cX5_keptAbovePointSum 12 = .ok (.lsub, 1) := by decide +kernel
theorem dX5_keptAbovePointSum_13 : decode cX5_keptAbovePointSum 13 = .ok (.lreturn, 1) := by decide +kernel
set_option maxHeartbeats 4000000 in
set_option maxRecDepth 100000 in
theorem c_X5_keptAbovePointSum (l : Launch) (D : va_G) (cy : Nat → ClassId) (ad adK adV : Nat → Nat) (M : Mm) (o0 : Nat) (a1 : Int32) (res : Mm × Int64) (h : f_X5_keptAbovePointSum M o0 a1 = some res) : Met l yX5_keptAbovePointSum (wU yX5_keptAbovePointSum cX5_keptAbovePointSum 2 (some .long)) rmX5_keptAbovePointSum (va_Pc [.ref (ad o0), .int a1] (Pre D cy shX ad nX adK adV M)) (va_Ql (fun r (M2 : Mm) => r = res.2 ∧ M2 = res.1) (Pre D cy shX ad nX adK adV) (Aw ad nX)) 0 0 (Aw ad nX) := by
  refine Met.ofW (cc := cX5_keptAbovePointSum) (maxL := 2) (ret := (some .long)) (by decide) rfl ?_
  intro p e s m args below meth c s₁ B hml hv
  obtain ⟨hargs, hPre⟩ := hv
  have hx := B.exec
  have hb := B.bytes
  have hr := B.returns
  have hts := atoms_spec (ws := wU yX5_keptAbovePointSum cX5_keptAbovePointSum 2 (some .long)) B.pre
  have hq : ∀ w ∈ gW, w.before args s = true := fun w hw => hts w (List.mem_cons_of_mem _ hw)
  have hcm : ∀ w ∈ gW, w ∈ wU yX5_keptAbovePointSum cX5_keptAbovePointSum 2 (some .long) := fun w hw => List.mem_cons_of_mem _ hw
  have hown : s.vm.findClass RX5 = some m.cls := findClass_of_methodNamed B.named
  have hlocks := B.notSynchronized
  have hF : CallFix p m c cX5_keptAbovePointSum 2 s args (wU yX5_keptAbovePointSum cX5_keptAbovePointSum 2 (some .long)) RX5 := ⟨hx, hb, hml, hown, hts⟩
  have hK := hPre.2.1
  have hZ := hPre.2.2.2
  have hw : Wd D cy shX ad nX (Aw ad nX) s.heap M s.heap [] := ⟨hPre.1, hPre.2.2.1, va_S.rf⟩
  have iw5 : ∀ w ∈ u_ws RX5 TX5 13, w ∈ wU yX5_keptAbovePointSum cX5_keptAbovePointSum 2 (some .long) := fun w hw => List.mem_cons_of_mem _ (iX5 w hw)
  rw [show entryFrame m args 2 = entryFrame m ([.ref (ad o0), .int a1] : List Value).toArray 2 from by rw [hargs]]
  have hl := lv_entry ([.ref (ad o0), .int a1]) (n := 2) (Nat.le_of_ble_eq_true rfl)
  rw [lg_entry_eq]
  generalize (lg_sl ([.ref (ad o0), .int a1]) ++ List.replicate (2 - (lg_sl ([.ref (ad o0), .int a1])).length) Slot.unset).toArray = ls at hl ⊢
  have hl : lv_has ls 2 [(0, .ref (ad o0)), (1, .int a1)] := hl
  unfold f_X5_keptAbovePointSum at h
  refine lv_aload_n hx hb dX5_keptAbovePointSum_0 rfl (lv_at hl 0 rfl) ?_
  replace h := gd_some h
  obtain ⟨g1, h⟩ := h
  replace h := bd_some h
  obtain ⟨q2, eq2, h⟩ := h
  refine r_getR hx hb hts iw5 hown hK hw o0 5 g1 (by decide) rfl (by decide) rfl (hq _ qw249) (fun _ h9 => h9) dX5_keptAbovePointSum_1 eq2 ?_
  refine lv_iload_n hx hb dX5_keptAbovePointSum_4 rfl (lv_at hl 1 rfl) ?_
  replace h := gd_some h
  obtain ⟨g3, h⟩ := h
  refine r_lald hx hb hK hw q2 g3 dX5_keptAbovePointSum_5 ?_
  refine lv_aload_n hx hb dX5_keptAbovePointSum_6 rfl (lv_at hl 0 rfl) ?_
  replace h := bd_some h
  obtain ⟨q4, eq4, h⟩ := h
  refine r_getR hx hb hts iw5 hown hK hw o0 1 g1 (by decide) rfl (by decide) rfl (hq _ qw241) (fun _ h9 => h9) dX5_keptAbovePointSum_7 eq4 ?_
  refine lv_iload_n hx hb dX5_keptAbovePointSum_10 rfl (lv_at hl 1 rfl) ?_
  replace h := gd_some h
  obtain ⟨g5, h⟩ := h
  refine r_lald hx hb hK hw q4 g5 dX5_keptAbovePointSum_11 ?_
  refine lv_lsub hx hb dX5_keptAbovePointSum_12 ?_
  exact r_lret hx hb hr hlocks hZ hK hw h dX5_keptAbovePointSum_13

theorem dX0_become_0 : decode cX0_become 0 = .ok (.aload_n 0, 1) := by decide +kernel
theorem dX0_become_1 : decode cX0_become 1 = .ok (.aload_n 1, 1) := by decide +kernel
theorem dX0_become_2 : decode cX0_become 2 = .ok (.getfield 9, 3) := by decide +kernel
theorem dX0_become_5 : decode cX0_become 5 = .ok (.putfield 9, 3) := by decide +kernel
theorem dX0_become_8 : decode cX0_become 8 = .ok (.aload_n 0, 1) := by decide +kernel
theorem dX0_become_9 : decode cX0_become 9 = .ok (.aload_n 1, 1) := by decide +kernel
theorem dX0_become_10 : decode cX0_become 10 = .ok (.getfield 15, 3) := by decide +kernel
theorem dX0_become_13 : decode cX0_become 13 = .ok (.putfield 15, 3) := by decide +kernel
theorem dX0_become_16 : decode cX0_become 16 = .ok (.aload_n 0, 1) := by decide +kernel
theorem dX0_become_17 : decode cX0_become 17 = .ok (.aload_n 1, 1) := by decide +kernel
theorem dX0_become_18 : decode cX0_become 18 = .ok (.getfield 18, 3) := by decide +kernel
theorem dX0_become_21 : decode cX0_become 21 = .ok (.putfield 18, 3) := by decide +kernel
theorem dX0_become_24 : decode cX0_become 24 = .ok (.aload_n 0, 1) := by decide +kernel
theorem dX0_become_25 : decode cX0_become 25 = .ok (.aload_n 1, 1) := by decide +kernel
theorem dX0_become_26 : decode cX0_become 26 = .ok (.getfield 21, 3) := by decide +kernel
theorem dX0_become_29 : decode cX0_become 29 = .ok (.putfield 21, 3) := by decide +kernel
theorem dX0_become_32 : decode cX0_become 32 = .ok (.aload_n 0, 1) := by decide +kernel
theorem dX0_become_33 : decode cX0_become 33 = .ok (.aload_n 1, 1) := by decide +kernel
theorem dX0_become_34 : decode cX0_become 34 = .ok (.getfield 24, 3) := by decide +kernel
theorem dX0_become_37 : decode cX0_become 37 = .ok (.putfield 24, 3) := by decide +kernel
theorem dX0_become_40 : decode cX0_become 40 = .ok (.aload_n 0, 1) := by decide +kernel
theorem dX0_become_41 : decode cX0_become 41 = .ok (.aload_n 1, 1) := by decide +kernel
theorem dX0_become_42 : decode cX0_become 42 = .ok (.getfield 27, 3) := by decide +kernel
theorem dX0_become_45 : decode cX0_become 45 = .ok (.putfield 27, 3) := by decide +kernel
theorem dX0_become_48 : decode cX0_become 48 = .ok (.aload_n 0, 1) := by decide +kernel
theorem dX0_become_49 : decode cX0_become 49 = .ok (.aload_n 1, 1) := by decide +kernel
theorem dX0_become_50 : decode cX0_become 50 = .ok (.getfield 30, 3) := by decide +kernel
theorem dX0_become_53 : decode cX0_become 53 = .ok (.putfield 30, 3) := by decide +kernel
theorem dX0_become_56 : decode cX0_become 56 = .ok (.aload_n 0, 1) := by decide +kernel
theorem dX0_become_57 : decode cX0_become 57 = .ok (.aload_n 1, 1) := by decide +kernel
theorem dX0_become_58 : decode cX0_become 58 = .ok (.getfield 33, 3) := by decide +kernel
theorem dX0_become_61 : decode cX0_become 61 = .ok (.putfield 33, 3) := by decide +kernel
theorem dX0_become_64 : decode cX0_become 64 = .ok (.aload_n 0, 1) := by decide +kernel
theorem dX0_become_65 : decode cX0_become 65 = .ok (.aload_n 1, 1) := by decide +kernel
theorem dX0_become_66 : decode cX0_become 66 = .ok (.getfield 37, 3) := by decide +kernel
theorem dX0_become_69 : decode cX0_become 69 = .ok (.putfield 37, 3) := by decide +kernel
theorem dX0_become_72 : decode cX0_become 72 = .ok (.return_, 1) := by decide +kernel
set_option maxHeartbeats 4000000 in
set_option maxRecDepth 100000 in
theorem c_X0_become (l : Launch) (D : va_G) (cy : Nat → ClassId) (ad adK adV : Nat → Nat) (M : Mm) (o0 : Nat) (a1 : Nat) (res : Mm × Unit) (h : f_X0_become M o0 a1 = some res) : Met l yX0_become (wU yX0_become cX0_become 2 none) rmX0_become (va_Pc [.ref (ad o0), .ref (ad a1)] (Pre D cy shX ad nX adK adV M)) (va_Qv (fun (M2 : Mm) => M2 = res.1) (Pre D cy shX ad nX adK adV) (Aw ad nX)) 0 0 (Aw ad nX) := by
  refine Met.ofW (cc := cX0_become) (maxL := 2) (ret := none) (by decide) rfl ?_
  intro p e s m args below meth c s₁ B hml hv
  obtain ⟨hargs, hPre⟩ := hv
  have hx := B.exec
  have hb := B.bytes
  have hr := B.returns
  have hts := atoms_spec (ws := wU yX0_become cX0_become 2 none) B.pre
  have hq : ∀ w ∈ gW, w.before args s = true := fun w hw => hts w (List.mem_cons_of_mem _ hw)
  have hcm : ∀ w ∈ gW, w ∈ wU yX0_become cX0_become 2 none := fun w hw => List.mem_cons_of_mem _ hw
  have hown : s.vm.findClass RX0 = some m.cls := findClass_of_methodNamed B.named
  have hlocks := B.notSynchronized
  have hF : CallFix p m c cX0_become 2 s args (wU yX0_become cX0_become 2 none) RX0 := ⟨hx, hb, hml, hown, hts⟩
  have hK := hPre.2.1
  have hZ := hPre.2.2.2
  have hw : Wd D cy shX ad nX (Aw ad nX) s.heap M s.heap [] := ⟨hPre.1, hPre.2.2.1, va_S.rf⟩
  have iw0 : ∀ w ∈ u_ws RX0 TX0 9, w ∈ wU yX0_become cX0_become 2 none := fun w hw => List.mem_cons_of_mem _ (iX0 w hw)
  rw [show entryFrame m args 2 = entryFrame m ([.ref (ad o0), .ref (ad a1)] : List Value).toArray 2 from by rw [hargs]]
  have hl := lv_entry ([.ref (ad o0), .ref (ad a1)]) (n := 2) (Nat.le_of_ble_eq_true rfl)
  rw [lg_entry_eq]
  generalize (lg_sl ([.ref (ad o0), .ref (ad a1)]) ++ List.replicate (2 - (lg_sl ([.ref (ad o0), .ref (ad a1)])).length) Slot.unset).toArray = ls at hl ⊢
  have hl : lv_has ls 2 [(0, .ref (ad o0)), (1, .ref (ad a1))] := hl
  unfold f_X0_become at h
  refine lv_aload_n hx hb dX0_become_0 rfl (lv_at hl 0 rfl) ?_
  refine lv_aload_n hx hb dX0_become_1 rfl (lv_at hl 1 rfl) ?_
  replace h := gd_some h
  obtain ⟨g1, h⟩ := h
  refine r_getI hx hb hts iw0 hown hK hw a1 0 g1 (by decide) rfl (by decide) rfl (hq _ qw134) (fun _ h9 => h9) dX0_become_2 ?_
  replace h := gd_some h
  obtain ⟨g2, h⟩ := h
  refine r_putI hx hb hts iw0 tyX0 tyX0_ok nmX0 hown hK hw o0 0 g2 (by decide) rfl (by decide) rfl (hq _ qw134) (fun _ h9 => h9) rfl rfl rfl dX0_become_5 (fun H locs hw => ?_)
  replace h := lt_some h
  obtain ⟨M3, eM3, h⟩ := h
  rw [← eM3] at hw
  refine lv_aload_n hx hb dX0_become_8 rfl (lv_at hl 0 rfl) ?_
  refine lv_aload_n hx hb dX0_become_9 rfl (lv_at hl 1 rfl) ?_
  refine r_getI hx hb hts iw0 hown hK hw a1 1 g1 (by decide) rfl (by decide) rfl (hq _ qw138) (fun _ h9 => h9) dX0_become_10 ?_
  refine r_putI hx hb hts iw0 tyX0 tyX0_ok nmX0 hown hK hw o0 1 g2 (by decide) rfl (by decide) rfl (hq _ qw138) (fun _ h9 => h9) rfl rfl rfl dX0_become_13 (fun H locs hw => ?_)
  replace h := lt_some h
  obtain ⟨M4, eM4, h⟩ := h
  rw [← eM4] at hw
  refine lv_aload_n hx hb dX0_become_16 rfl (lv_at hl 0 rfl) ?_
  refine lv_aload_n hx hb dX0_become_17 rfl (lv_at hl 1 rfl) ?_
  refine r_getI hx hb hts iw0 hown hK hw a1 2 g1 (by decide) rfl (by decide) rfl (hq _ qw142) (fun _ h9 => h9) dX0_become_18 ?_
  refine r_putI hx hb hts iw0 tyX0 tyX0_ok nmX0 hown hK hw o0 2 g2 (by decide) rfl (by decide) rfl (hq _ qw142) (fun _ h9 => h9) rfl rfl rfl dX0_become_21 (fun H locs hw => ?_)
  replace h := lt_some h
  obtain ⟨M5, eM5, h⟩ := h
  rw [← eM5] at hw
  refine lv_aload_n hx hb dX0_become_24 rfl (lv_at hl 0 rfl) ?_
  refine lv_aload_n hx hb dX0_become_25 rfl (lv_at hl 1 rfl) ?_
  refine r_getI hx hb hts iw0 hown hK hw a1 3 g1 (by decide) rfl (by decide) rfl (hq _ qw146) (fun _ h9 => h9) dX0_become_26 ?_
  refine r_putI hx hb hts iw0 tyX0 tyX0_ok nmX0 hown hK hw o0 3 g2 (by decide) rfl (by decide) rfl (hq _ qw146) (fun _ h9 => h9) rfl rfl rfl dX0_become_29 (fun H locs hw => ?_)
  replace h := lt_some h
  obtain ⟨M6, eM6, h⟩ := h
  rw [← eM6] at hw
  refine lv_aload_n hx hb dX0_become_32 rfl (lv_at hl 0 rfl) ?_
  refine lv_aload_n hx hb dX0_become_33 rfl (lv_at hl 1 rfl) ?_
  refine r_getI hx hb hts iw0 hown hK hw a1 4 g1 (by decide) rfl (by decide) rfl (hq _ qw150) (fun _ h9 => h9) dX0_become_34 ?_
  refine r_putI hx hb hts iw0 tyX0 tyX0_ok nmX0 hown hK hw o0 4 g2 (by decide) rfl (by decide) rfl (hq _ qw150) (fun _ h9 => h9) rfl rfl rfl dX0_become_37 (fun H locs hw => ?_)
  replace h := lt_some h
  obtain ⟨M7, eM7, h⟩ := h
  rw [← eM7] at hw
  refine lv_aload_n hx hb dX0_become_40 rfl (lv_at hl 0 rfl) ?_
  refine lv_aload_n hx hb dX0_become_41 rfl (lv_at hl 1 rfl) ?_
  refine r_getI hx hb hts iw0 hown hK hw a1 5 g1 (by decide) rfl (by decide) rfl (hq _ qw154) (fun _ h9 => h9) dX0_become_42 ?_
  refine r_putI hx hb hts iw0 tyX0 tyX0_ok nmX0 hown hK hw o0 5 g2 (by decide) rfl (by decide) rfl (hq _ qw154) (fun _ h9 => h9) rfl rfl rfl dX0_become_45 (fun H locs hw => ?_)
  replace h := lt_some h
  obtain ⟨M8, eM8, h⟩ := h
  rw [← eM8] at hw
  refine lv_aload_n hx hb dX0_become_48 rfl (lv_at hl 0 rfl) ?_
  refine lv_aload_n hx hb dX0_become_49 rfl (lv_at hl 1 rfl) ?_
  refine r_getI hx hb hts iw0 hown hK hw a1 6 g1 (by decide) rfl (by decide) rfl (hq _ qw156) (fun _ h9 => h9) dX0_become_50 ?_
  refine r_putI hx hb hts iw0 tyX0 tyX0_ok nmX0 hown hK hw o0 6 g2 (by decide) rfl (by decide) rfl (hq _ qw156) (fun _ h9 => h9) rfl rfl rfl dX0_become_53 (fun H locs hw => ?_)
  replace h := lt_some h
  obtain ⟨M9, eM9, h⟩ := h
  rw [← eM9] at hw
  refine lv_aload_n hx hb dX0_become_56 rfl (lv_at hl 0 rfl) ?_
  refine lv_aload_n hx hb dX0_become_57 rfl (lv_at hl 1 rfl) ?_
  refine r_getI hx hb hts iw0 hown hK hw a1 7 g1 (by decide) rfl (by decide) rfl (hq _ qw158) (fun _ h9 => h9) dX0_become_58 ?_
  replace h := gd_some h
  obtain ⟨z10, h⟩ := h
  refine r_putI hx hb hts iw0 tyX0 tyX0_ok nmX0 hown hK hw o0 7 g2 (by decide) rfl (by decide) rfl (hq _ qw158) (fun _ h9 => h9) rfl (nar_bz z10) (fit_bz z10) dX0_become_61 (fun H locs hw => ?_)
  replace h := lt_some h
  obtain ⟨M11, eM11, h⟩ := h
  rw [← eM11] at hw
  refine lv_aload_n hx hb dX0_become_64 rfl (lv_at hl 0 rfl) ?_
  refine lv_aload_n hx hb dX0_become_65 rfl (lv_at hl 1 rfl) ?_
  refine r_getI hx hb hts iw0 hown hK hw a1 8 g1 (by decide) rfl (by decide) rfl (hq _ qw160) (fun _ h9 => h9) dX0_become_66 ?_
  replace h := gd_some h
  obtain ⟨z12, h⟩ := h
  refine r_putI hx hb hts iw0 tyX0 tyX0_ok nmX0 hown hK hw o0 8 g2 (by decide) rfl (by decide) rfl (hq _ qw160) (fun _ h9 => h9) rfl (nar_bz z12) (fit_bz z12) dX0_become_69 (fun H locs hw => ?_)
  replace h := lt_some h
  obtain ⟨M13, eM13, h⟩ := h
  rw [← eM13] at hw
  exact r_vret hx hb hr hlocks hZ hK hw h dX0_become_72
theorem dX0_isOf_0 : decode cX0_isOf 0 = .ok (.iload_n 1, 1) := by decide +kernel
theorem dX0_isOf_1 : decode cX0_isOf 1 = .ok (.aload_n 0, 1) := by decide +kernel
theorem dX0_isOf_2 : decode cX0_isOf 2 = .ok (.getfield 9, 3) := by decide +kernel
theorem dX0_isOf_5 : decode cX0_isOf 5 = .ok (.if_icmp .eq 11, 3) := by decide +kernel
theorem dX0_isOf_8 : decode cX0_isOf 8 = .ok (.iload_n 1, 1) := by decide +kernel
theorem dX0_isOf_9 : decode cX0_isOf 9 = .ok (.aload_n 0, 1) := by decide +kernel
theorem dX0_isOf_10 : decode cX0_isOf 10 = .ok (.getfield 15, 3) := by decide +kernel
theorem dX0_isOf_13 : decode cX0_isOf 13 = .ok (.if_icmp .ne 7, 3) := by decide +kernel
theorem dX0_isOf_16 : decode cX0_isOf 16 = .ok (.iconst 1, 1) := by decide +kernel
theorem dX0_isOf_17 : decode cX0_isOf 17 = .ok (.goto 4, 3) := by decide +kernel
theorem dX0_isOf_20 : decode cX0_isOf 20 = .ok (.iconst 0, 1) := by decide +kernel
theorem dX0_isOf_21 : decode cX0_isOf 21 = .ok (.ireturn, 1) := by decide +kernel
set_option maxHeartbeats 4000000 in
set_option maxRecDepth 100000 in
theorem c_X0_isOf (l : Launch) (D : va_G) (cy : Nat → ClassId) (ad adK adV : Nat → Nat) (M : Mm) (o0 : Nat) (a1 : Int32) (res : Mm × Int32) (h : f_X0_isOf M o0 a1 = some res) : Met l yX0_isOf (wU yX0_isOf cX0_isOf 2 (some .boolean)) rmX0_isOf (va_Pc [.ref (ad o0), .int a1] (Pre D cy shX ad nX adK adV M)) (va_Qi (fun r (M2 : Mm) => r = res.2 ∧ M2 = res.1) (Pre D cy shX ad nX adK adV) (Aw ad nX)) 0 0 (Aw ad nX) := by
  refine Met.ofW (cc := cX0_isOf) (maxL := 2) (ret := (some .boolean)) (by decide) rfl ?_
  intro p e s m args below meth c s₁ B hml hv
  obtain ⟨hargs, hPre⟩ := hv
  have hx := B.exec
  have hb := B.bytes
  have hr := B.returns
  have hts := atoms_spec (ws := wU yX0_isOf cX0_isOf 2 (some .boolean)) B.pre
  have hq : ∀ w ∈ gW, w.before args s = true := fun w hw => hts w (List.mem_cons_of_mem _ hw)
  have hcm : ∀ w ∈ gW, w ∈ wU yX0_isOf cX0_isOf 2 (some .boolean) := fun w hw => List.mem_cons_of_mem _ hw
  have hown : s.vm.findClass RX0 = some m.cls := findClass_of_methodNamed B.named
  have hlocks := B.notSynchronized
  have hF : CallFix p m c cX0_isOf 2 s args (wU yX0_isOf cX0_isOf 2 (some .boolean)) RX0 := ⟨hx, hb, hml, hown, hts⟩
  have hK := hPre.2.1
  have hZ := hPre.2.2.2
  have hw : Wd D cy shX ad nX (Aw ad nX) s.heap M s.heap [] := ⟨hPre.1, hPre.2.2.1, va_S.rf⟩
  have iw0 : ∀ w ∈ u_ws RX0 TX0 9, w ∈ wU yX0_isOf cX0_isOf 2 (some .boolean) := fun w hw => List.mem_cons_of_mem _ (iX0 w hw)
  rw [show entryFrame m args 2 = entryFrame m ([.ref (ad o0), .int a1] : List Value).toArray 2 from by rw [hargs]]
  have hl := lv_entry ([.ref (ad o0), .int a1]) (n := 2) (Nat.le_of_ble_eq_true rfl)
  rw [lg_entry_eq]
  generalize (lg_sl ([.ref (ad o0), .int a1]) ++ List.replicate (2 - (lg_sl ([.ref (ad o0), .int a1])).length) Slot.unset).toArray = ls at hl ⊢
  have hl : lv_has ls 2 [(0, .ref (ad o0)), (1, .int a1)] := hl
  have hb16 : ∀ (M : Mm) , f_X0_isOf_b16 M  = some res → ∀ (H : Heap) (locs : List Loc) (ls : Array Slot), Wd D cy shX ad nX (Aw ad nX) s.heap M H locs → lv_has ls 2 [] → W p l e (headSpec (wU yX0_isOf cX0_isOf 2 (some .boolean)) rmX0_isOf).room s m args below meth c H locs 0 0 (QI D cy shX ad nX adK adV below args s res) (F0 m 16 ls []) := by
    intro M h H locs ls hw hl
    unfold f_X0_isOf_b16 at h
    refine lv_iconst (v := (1 : Int32)) hx hb dX0_isOf_16 (by decide) ?_
    refine lv_goto (tgt := 21) hx hb dX0_isOf_17 (by decide) ?_
    exact r_iret hx hb hr rfl hlocks hZ hK hw h dX0_isOf_21
  unfold f_X0_isOf at h
  refine lv_iload_n hx hb dX0_isOf_0 rfl (lv_at hl 1 rfl) ?_
  refine lv_aload_n hx hb dX0_isOf_1 rfl (lv_at hl 0 rfl) ?_
  replace h := gd_some h
  obtain ⟨g1, h⟩ := h
  refine r_getI hx hb hts iw0 hown hK hw o0 0 g1 (by decide) rfl (by decide) rfl (hq _ qw134) (fun _ h9 => h9) dX0_isOf_2 ?_
  refine lv_icmp_eq (tgt := 16) hx hb dX0_isOf_5 (by decide) (fun c2 => ?_) (fun c2 => ?_)
  · replace h := if_some_t c2 h
    exact hb16 _ h _ _ _ hw (lv_sub hl [] rfl)
  · replace h := if_some_f c2 h
    refine lv_iload_n hx hb dX0_isOf_8 rfl (lv_at hl 1 rfl) ?_
    refine lv_aload_n hx hb dX0_isOf_9 rfl (lv_at hl 0 rfl) ?_
    refine r_getI hx hb hts iw0 hown hK hw o0 1 g1 (by decide) rfl (by decide) rfl (hq _ qw138) (fun _ h9 => h9) dX0_isOf_10 ?_
    refine lv_icmp_ne (tgt := 20) hx hb dX0_isOf_13 (by decide) (fun c3 => ?_) (fun c3 => ?_)
    · replace h := if_some_f c3 h
      refine lv_iconst (v := (0 : Int32)) hx hb dX0_isOf_20 (by decide) ?_
      exact r_iret hx hb hr rfl hlocks hZ hK hw h dX0_isOf_21
    · replace h := if_some_t c3 h
      exact hb16 _ h _ _ _ hw (lv_sub hl [] rfl)
theorem dX3_become_0 : decode cX3_become 0 = .ok (.aload_n 0, 1) := by decide +kernel
theorem dX3_become_1 : decode cX3_become 1 = .ok (.aload_n 1, 1) := by decide +kernel
theorem dX3_become_2 : decode cX3_become 2 = .ok (.getfield 9, 3) := by decide +kernel
theorem dX3_become_5 : decode cX3_become 5 = .ok (.putfield 9, 3) := by decide +kernel
theorem dX3_become_8 : decode cX3_become 8 = .ok (.aload_n 0, 1) := by decide +kernel
theorem dX3_become_9 : decode cX3_become 9 = .ok (.aload_n 1, 1) := by decide +kernel
theorem dX3_become_10 : decode cX3_become 10 = .ok (.getfield 15, 3) := by decide +kernel
theorem dX3_become_13 : decode cX3_become 13 = .ok (.putfield 15, 3) := by decide +kernel
theorem dX3_become_16 : decode cX3_become 16 = .ok (.aload_n 0, 1) := by decide +kernel
theorem dX3_become_17 : decode cX3_become 17 = .ok (.aload_n 1, 1) := by decide +kernel
theorem dX3_become_18 : decode cX3_become 18 = .ok (.getfield 18, 3) := by decide +kernel
theorem dX3_become_21 : decode cX3_become 21 = .ok (.putfield 18, 3) := by decide +kernel
theorem dX3_become_24 : decode cX3_become 24 = .ok (.aload_n 0, 1) := by decide +kernel
theorem dX3_become_25 : decode cX3_become 25 = .ok (.aload_n 1, 1) := by decide +kernel
theorem dX3_become_26 : decode cX3_become 26 = .ok (.getfield 21, 3) := by decide +kernel
theorem dX3_become_29 : decode cX3_become 29 = .ok (.putfield 21, 3) := by decide +kernel
theorem dX3_become_32 : decode cX3_become 32 = .ok (.aload_n 0, 1) := by decide +kernel
theorem dX3_become_33 : decode cX3_become 33 = .ok (.aload_n 1, 1) := by decide +kernel
theorem dX3_become_34 : decode cX3_become 34 = .ok (.getfield 24, 3) := by decide +kernel
theorem dX3_become_37 : decode cX3_become 37 = .ok (.putfield 24, 3) := by decide +kernel
theorem dX3_become_40 : decode cX3_become 40 = .ok (.aload_n 0, 1) := by decide +kernel
theorem dX3_become_41 : decode cX3_become 41 = .ok (.aload_n 1, 1) := by decide +kernel
theorem dX3_become_42 : decode cX3_become 42 = .ok (.getfield 27, 3) := by decide +kernel
theorem dX3_become_45 : decode cX3_become 45 = .ok (.putfield 27, 3) := by decide +kernel
theorem dX3_become_48 : decode cX3_become 48 = .ok (.return_, 1) := by decide +kernel
set_option maxHeartbeats 4000000 in
set_option maxRecDepth 100000 in
theorem c_X3_become (l : Launch) (D : va_G) (cy : Nat → ClassId) (ad adK adV : Nat → Nat) (M : Mm) (o0 : Nat) (a1 : Nat) (res : Mm × Unit) (h : f_X3_become M o0 a1 = some res) : Met l yX3_become (wU yX3_become cX3_become 2 none) rmX3_become (va_Pc [.ref (ad o0), .ref (ad a1)] (Pre D cy shX ad nX adK adV M)) (va_Qv (fun (M2 : Mm) => M2 = res.1) (Pre D cy shX ad nX adK adV) (Aw ad nX)) 0 0 (Aw ad nX) := by
  refine Met.ofW (cc := cX3_become) (maxL := 2) (ret := none) (by decide) rfl ?_
  intro p e s m args below meth c s₁ B hml hv
  obtain ⟨hargs, hPre⟩ := hv
  have hx := B.exec
  have hb := B.bytes
  have hr := B.returns
  have hts := atoms_spec (ws := wU yX3_become cX3_become 2 none) B.pre
  have hq : ∀ w ∈ gW, w.before args s = true := fun w hw => hts w (List.mem_cons_of_mem _ hw)
  have hcm : ∀ w ∈ gW, w ∈ wU yX3_become cX3_become 2 none := fun w hw => List.mem_cons_of_mem _ hw
  have hown : s.vm.findClass RX3 = some m.cls := findClass_of_methodNamed B.named
  have hlocks := B.notSynchronized
  have hF : CallFix p m c cX3_become 2 s args (wU yX3_become cX3_become 2 none) RX3 := ⟨hx, hb, hml, hown, hts⟩
  have hK := hPre.2.1
  have hZ := hPre.2.2.2
  have hw : Wd D cy shX ad nX (Aw ad nX) s.heap M s.heap [] := ⟨hPre.1, hPre.2.2.1, va_S.rf⟩
  have iw3 : ∀ w ∈ u_ws RX3 TX3 6, w ∈ wU yX3_become cX3_become 2 none := fun w hw => List.mem_cons_of_mem _ (iX3 w hw)
  rw [show entryFrame m args 2 = entryFrame m ([.ref (ad o0), .ref (ad a1)] : List Value).toArray 2 from by rw [hargs]]
  have hl := lv_entry ([.ref (ad o0), .ref (ad a1)]) (n := 2) (Nat.le_of_ble_eq_true rfl)
  rw [lg_entry_eq]
  generalize (lg_sl ([.ref (ad o0), .ref (ad a1)]) ++ List.replicate (2 - (lg_sl ([.ref (ad o0), .ref (ad a1)])).length) Slot.unset).toArray = ls at hl ⊢
  have hl : lv_has ls 2 [(0, .ref (ad o0)), (1, .ref (ad a1))] := hl
  unfold f_X3_become at h
  refine lv_aload_n hx hb dX3_become_0 rfl (lv_at hl 0 rfl) ?_
  refine lv_aload_n hx hb dX3_become_1 rfl (lv_at hl 1 rfl) ?_
  replace h := gd_some h
  obtain ⟨g1, h⟩ := h
  refine r_getI hx hb hts iw3 hown hK hw a1 0 g1 (by decide) rfl (by decide) rfl (hq _ qw97) (fun _ h9 => h9) dX3_become_2 ?_
  replace h := gd_some h
  obtain ⟨g2, h⟩ := h
  refine r_putI hx hb hts iw3 tyX3 tyX3_ok nmX3 hown hK hw o0 0 g2 (by decide) rfl (by decide) rfl (hq _ qw97) (fun _ h9 => h9) rfl rfl rfl dX3_become_5 (fun H locs hw => ?_)
  replace h := lt_some h
  obtain ⟨M3, eM3, h⟩ := h
  rw [← eM3] at hw
  refine lv_aload_n hx hb dX3_become_8 rfl (lv_at hl 0 rfl) ?_
  refine lv_aload_n hx hb dX3_become_9 rfl (lv_at hl 1 rfl) ?_
  refine r_getI hx hb hts iw3 hown hK hw a1 1 g1 (by decide) rfl (by decide) rfl (hq _ qw100) (fun _ h9 => h9) dX3_become_10 ?_
  refine r_putI hx hb hts iw3 tyX3 tyX3_ok nmX3 hown hK hw o0 1 g2 (by decide) rfl (by decide) rfl (hq _ qw100) (fun _ h9 => h9) rfl rfl rfl dX3_become_13 (fun H locs hw => ?_)
  replace h := lt_some h
  obtain ⟨M4, eM4, h⟩ := h
  rw [← eM4] at hw
  refine lv_aload_n hx hb dX3_become_16 rfl (lv_at hl 0 rfl) ?_
  refine lv_aload_n hx hb dX3_become_17 rfl (lv_at hl 1 rfl) ?_
  refine r_getI hx hb hts iw3 hown hK hw a1 2 g1 (by decide) rfl (by decide) rfl (hq _ qw103) (fun _ h9 => h9) dX3_become_18 ?_
  refine r_putI hx hb hts iw3 tyX3 tyX3_ok nmX3 hown hK hw o0 2 g2 (by decide) rfl (by decide) rfl (hq _ qw103) (fun _ h9 => h9) rfl rfl rfl dX3_become_21 (fun H locs hw => ?_)
  replace h := lt_some h
  obtain ⟨M5, eM5, h⟩ := h
  rw [← eM5] at hw
  refine lv_aload_n hx hb dX3_become_24 rfl (lv_at hl 0 rfl) ?_
  refine lv_aload_n hx hb dX3_become_25 rfl (lv_at hl 1 rfl) ?_
  refine r_getI hx hb hts iw3 hown hK hw a1 3 g1 (by decide) rfl (by decide) rfl (hq _ qw106) (fun _ h9 => h9) dX3_become_26 ?_
  refine r_putI hx hb hts iw3 tyX3 tyX3_ok nmX3 hown hK hw o0 3 g2 (by decide) rfl (by decide) rfl (hq _ qw106) (fun _ h9 => h9) rfl rfl rfl dX3_become_29 (fun H locs hw => ?_)
  replace h := lt_some h
  obtain ⟨M6, eM6, h⟩ := h
  rw [← eM6] at hw
  refine lv_aload_n hx hb dX3_become_32 rfl (lv_at hl 0 rfl) ?_
  refine lv_aload_n hx hb dX3_become_33 rfl (lv_at hl 1 rfl) ?_
  refine r_getI hx hb hts iw3 hown hK hw a1 4 g1 (by decide) rfl (by decide) rfl (hq _ qw110) (fun _ h9 => h9) dX3_become_34 ?_
  refine r_putI hx hb hts iw3 tyX3 tyX3_ok nmX3 hown hK hw o0 4 g2 (by decide) rfl (by decide) rfl (hq _ qw110) (fun _ h9 => h9) rfl rfl rfl dX3_become_37 (fun H locs hw => ?_)
  replace h := lt_some h
  obtain ⟨M7, eM7, h⟩ := h
  rw [← eM7] at hw
  refine lv_aload_n hx hb dX3_become_40 rfl (lv_at hl 0 rfl) ?_
  refine lv_aload_n hx hb dX3_become_41 rfl (lv_at hl 1 rfl) ?_
  refine r_getI hx hb hts iw3 hown hK hw a1 5 g1 (by decide) rfl (by decide) rfl (hq _ qw112) (fun _ h9 => h9) dX3_become_42 ?_
  replace h := gd_some h
  obtain ⟨z8, h⟩ := h
  refine r_putI hx hb hts iw3 tyX3 tyX3_ok nmX3 hown hK hw o0 5 g2 (by decide) rfl (by decide) rfl (hq _ qw112) (fun _ h9 => h9) rfl (nar_bz z8) (fit_bz z8) dX3_become_45 (fun H locs hw => ?_)
  replace h := lt_some h
  obtain ⟨M9, eM9, h⟩ := h
  rw [← eM9] at hw
  exact r_vret hx hb hr hlocks hZ hK hw h dX3_become_48
theorem dX1_become_0 : decode cX1_become 0 = .ok (.iconst 0, 1) := by decide +kernel
theorem dX1_become_1 : decode cX1_become 1 = .ok (.istore_n 2, 1) := by decide +kernel
theorem dX1_become_2 : decode cX1_become 2 = .ok (.iload_n 2, 1) := by decide +kernel
theorem dX1_become_3 : decode cX1_become 3 = .ok (.aload_n 1, 1) := by decide +kernel
theorem dX1_become_4 : decode cX1_become 4 = .ok (.getfield 27, 3) := by decide +kernel
theorem dX1_become_7 : decode cX1_become 7 = .ok (.if_icmp .ge 24, 3) := by decide +kernel
theorem dX1_become_10 : decode cX1_become 10 = .ok (.aload_n 0, 1) := by decide +kernel
theorem dX1_become_11 : decode cX1_become 11 = .ok (.getfield 11, 3) := by decide +kernel
theorem dX1_become_14 : decode cX1_become 14 = .ok (.iload_n 2, 1) := by decide +kernel
theorem dX1_become_15 : decode cX1_become 15 = .ok (.aaload, 1) := by decide +kernel
theorem dX1_become_16 : decode cX1_become 16 = .ok (.aload_n 1, 1) := by decide +kernel
theorem dX1_become_17 : decode cX1_become 17 = .ok (.getfield 11, 3) := by decide +kernel
theorem dX1_become_20 : decode cX1_become 20 = .ok (.iload_n 2, 1) := by decide +kernel
theorem dX1_become_21 : decode cX1_become 21 = .ok (.aaload, 1) := by decide +kernel
theorem dX1_become_22 : decode cX1_become 22 = .ok (.invokevirtual 54, 3) := by decide +kernel
theorem dX1_become_25 : decode cX1_become 25 = .ok (.iinc 2 1, 3) := by decide +kernel
theorem dX1_become_28 : decode cX1_become 28 = .ok (.goto (-26), 3) := by decide +kernel
theorem dX1_become_31 : decode cX1_become 31 = .ok (.iconst 0, 1) := by decide +kernel
theorem dX1_become_32 : decode cX1_become 32 = .ok (.istore_n 2, 1) := by decide +kernel
theorem dX1_become_33 : decode cX1_become 33 = .ok (.iload_n 2, 1) := by decide +kernel
theorem dX1_become_34 : decode cX1_become 34 = .ok (.aload_n 1, 1) := by decide +kernel
theorem dX1_become_35 : decode cX1_become 35 = .ok (.getfield 31, 3) := by decide +kernel
theorem dX1_become_38 : decode cX1_become 38 = .ok (.if_icmp .ge 24, 3) := by decide +kernel
theorem dX1_become_41 : decode cX1_become 41 = .ok (.aload_n 0, 1) := by decide +kernel
theorem dX1_become_42 : decode cX1_become 42 = .ok (.getfield 19, 3) := by decide +kernel
theorem dX1_become_45 : decode cX1_become 45 = .ok (.iload_n 2, 1) := by decide +kernel
theorem dX1_become_46 : decode cX1_become 46 = .ok (.aaload, 1) := by decide +kernel
theorem dX1_become_47 : decode cX1_become 47 = .ok (.aload_n 1, 1) := by decide +kernel
theorem dX1_become_48 : decode cX1_become 48 = .ok (.getfield 19, 3) := by decide +kernel
theorem dX1_become_51 : decode cX1_become 51 = .ok (.iload_n 2, 1) := by decide +kernel
theorem dX1_become_52 : decode cX1_become 52 = .ok (.aaload, 1) := by decide +kernel
theorem dX1_become_53 : decode cX1_become 53 = .ok (.invokevirtual 58, 3) := by decide +kernel
theorem dX1_become_56 : decode cX1_become 56 = .ok (.iinc 2 1, 3) := by decide +kernel
theorem dX1_become_59 : decode cX1_become 59 = .ok (.goto (-26), 3) := by decide +kernel
theorem dX1_become_62 : decode cX1_become 62 = .ok (.aload_n 1, 1) := by decide +kernel
theorem dX1_become_63 : decode cX1_become 63 = .ok (.getfield 23, 3) := by decide +kernel
theorem dX1_become_66 : decode cX1_become 66 = .ok (.iconst 0, 1) := by decide +kernel
theorem dX1_become_67 : decode cX1_become 67 = .ok (.aload_n 0, 1) := by decide +kernel
theorem dX1_become_68 : decode cX1_become 68 = .ok (.getfield 23, 3) := by decide +kernel
theorem dX1_become_71 : decode cX1_become 71 = .ok (.iconst 0, 1) := by decide +kernel
theorem dX1_become_72 : decode cX1_become 72 = .ok (.bipush 10, 2) := by decide +kernel
theorem dX1_become_74 : decode cX1_become 74 = .ok (.invokestatic 61, 3) := by decide +kernel
theorem dX1_become_77 : decode cX1_become 77 = .ok (.aload_n 0, 1) := by decide +kernel
theorem dX1_become_78 : decode cX1_become 78 = .ok (.aload_n 1, 1) := by decide +kernel
theorem dX1_become_79 : decode cX1_become 79 = .ok (.getfield 27, 3) := by decide +kernel
theorem dX1_become_82 : decode cX1_become 82 = .ok (.putfield 27, 3) := by decide +kernel
theorem dX1_become_85 : decode cX1_become 85 = .ok (.aload_n 0, 1) := by decide +kernel
theorem dX1_become_86 : decode cX1_become 86 = .ok (.aload_n 1, 1) := by decide +kernel
theorem dX1_become_87 : decode cX1_become 87 = .ok (.getfield 31, 3) := by decide +kernel
theorem dX1_become_90 : decode cX1_become 90 = .ok (.putfield 31, 3) := by decide +kernel
theorem dX1_become_93 : decode cX1_become 93 = .ok (.aload_n 0, 1) := by decide +kernel
theorem dX1_become_94 : decode cX1_become 94 = .ok (.aload_n 1, 1) := by decide +kernel
theorem dX1_become_95 : decode cX1_become 95 = .ok (.getfield 34, 3) := by decide +kernel
theorem dX1_become_98 : decode cX1_become 98 = .ok (.putfield 34, 3) := by decide +kernel
theorem dX1_become_101 : decode cX1_become 101 = .ok (.aload_n 0, 1) := by decide +kernel
theorem dX1_become_102 : decode cX1_become 102 = .ok (.aload_n 1, 1) := by decide +kernel
theorem dX1_become_103 : decode cX1_become 103 = .ok (.getfield 37, 3) := by decide +kernel
theorem dX1_become_106 : decode cX1_become 106 = .ok (.putfield 37, 3) := by decide +kernel
theorem dX1_become_109 : decode cX1_become 109 = .ok (.aload_n 0, 1) := by decide +kernel
theorem dX1_become_110 : decode cX1_become 110 = .ok (.aload_n 1, 1) := by decide +kernel
theorem dX1_become_111 : decode cX1_become 111 = .ok (.getfield 40, 3) := by decide +kernel
theorem dX1_become_114 : decode cX1_become 114 = .ok (.putfield 40, 3) := by decide +kernel
theorem dX1_become_117 : decode cX1_become 117 = .ok (.aload_n 0, 1) := by decide +kernel
theorem dX1_become_118 : decode cX1_become 118 = .ok (.aload_n 1, 1) := by decide +kernel
theorem dX1_become_119 : decode cX1_become 119 = .ok (.getfield 43, 3) := by decide +kernel
theorem dX1_become_122 : decode cX1_become 122 = .ok (.putfield 43, 3) := by decide +kernel
theorem dX1_become_125 : decode cX1_become 125 = .ok (.aload_n 0, 1) := by decide +kernel
theorem dX1_become_126 : decode cX1_become 126 = .ok (.aload_n 1, 1) := by decide +kernel
theorem dX1_become_127 : decode cX1_become 127 = .ok (.getfield 46, 3) := by decide +kernel
theorem dX1_become_130 : decode cX1_become 130 = .ok (.putfield 46, 3) := by decide +kernel
theorem dX1_become_133 : decode cX1_become 133 = .ok (.aload_n 0, 1) := by decide +kernel
theorem dX1_become_134 : decode cX1_become 134 = .ok (.aload_n 1, 1) := by decide +kernel
theorem dX1_become_135 : decode cX1_become 135 = .ok (.getfield 49, 3) := by decide +kernel
theorem dX1_become_138 : decode cX1_become 138 = .ok (.putfield 49, 3) := by decide +kernel
theorem dX1_become_141 : decode cX1_become 141 = .ok (.return_, 1) := by decide +kernel
set_option maxHeartbeats 4000000 in
set_option maxRecDepth 100000 in
theorem c_X1_become (l : Launch) (D : va_G) (cy : Nat → ClassId) (ad adK adV : Nat → Nat) (M : Mm) (o0 : Nat) (a1 : Nat) (res : Mm × Unit) (h : f_X1_become M o0 a1 = some res) : Met l yX1_become (wU yX1_become cX1_become 3 none) rmX1_become (va_Pc [.ref (ad o0), .ref (ad a1)] (Pre D cy shX ad nX adK adV M)) (va_Qv (fun (M2 : Mm) => M2 = res.1) (Pre D cy shX ad nX adK adV) (Aw ad nX)) 0 0 (Aw ad nX) := by
  refine Met.ofW (cc := cX1_become) (maxL := 3) (ret := none) (by decide) rfl ?_
  intro p e s m args below meth c s₁ B hml hv
  obtain ⟨hargs, hPre⟩ := hv
  have hx := B.exec
  have hb := B.bytes
  have hr := B.returns
  have hts := atoms_spec (ws := wU yX1_become cX1_become 3 none) B.pre
  have hq : ∀ w ∈ gW, w.before args s = true := fun w hw => hts w (List.mem_cons_of_mem _ hw)
  have hcm : ∀ w ∈ gW, w ∈ wU yX1_become cX1_become 3 none := fun w hw => List.mem_cons_of_mem _ hw
  have hown : s.vm.findClass RX1 = some m.cls := findClass_of_methodNamed B.named
  have hlocks := B.notSynchronized
  have hF : CallFix p m c cX1_become 3 s args (wU yX1_become cX1_become 3 none) RX1 := ⟨hx, hb, hml, hown, hts⟩
  have hK := hPre.2.1
  have hZ := hPre.2.2.2
  have hw : Wd D cy shX ad nX (Aw ad nX) s.heap M s.heap [] := ⟨hPre.1, hPre.2.2.1, va_S.rf⟩
  have iw1 : ∀ w ∈ u_ws RX1 TX1 11, w ∈ wU yX1_become cX1_become 3 none := fun w hw => List.mem_cons_of_mem _ (iX1 w hw)
  rw [show entryFrame m args 3 = entryFrame m ([.ref (ad o0), .ref (ad a1)] : List Value).toArray 3 from by rw [hargs]]
  have hl := lv_entry ([.ref (ad o0), .ref (ad a1)]) (n := 3) (Nat.le_of_ble_eq_true rfl)
  rw [lg_entry_eq]
  generalize (lg_sl ([.ref (ad o0), .ref (ad a1)]) ++ List.replicate (3 - (lg_sl ([.ref (ad o0), .ref (ad a1)])).length) Slot.unset).toArray = ls at hl ⊢
  have hl : lv_has ls 3 [(0, .ref (ad o0)), (1, .ref (ad a1))] := hl
  have hb33 : ∀ (nn : Nat), ∀ (M : Mm) (x0 : Nat) (x1 : Nat) (x2 : Int32), f_X1_become_b33 nn M x0 x1 x2 = some res → ∀ (H : Heap) (locs : List Loc) (ls : Array Slot), Wd D cy shX ad nX (Aw ad nX) s.heap M H locs → lv_has ls 3 [(0, .ref (ad x0)), (1, .ref (ad x1)), (2, .int x2)] → W p l e (headSpec (wU yX1_become cX1_become 3 none) rmX1_become).room s m args below meth c H locs 0 0 (QV D cy shX ad nX adK adV below args s res) (F0 m 33 ls []) := by
    intro nn
    induction nn with
    | zero => intro M x0 x1 x2 h; simp [f_X1_become_b33] at h
    | succ nn ih =>
      intro M x0 x1 x2 h H locs ls hw hl
      unfold f_X1_become_b33 at h
      refine lv_iload_n hx hb dX1_become_33 rfl (lv_at hl 2 rfl) ?_
      refine lv_aload_n hx hb dX1_become_34 rfl (lv_at hl 1 rfl) ?_
      replace h := gd_some h
      obtain ⟨g1, h⟩ := h
      refine r_getI hx hb hts iw1 hown hK hw x1 4 g1 (by decide) rfl (by decide) rfl (hq _ qw193) (fun _ h9 => h9) dX1_become_35 ?_
      refine lv_icmp_ge (tgt := 62) hx hb dX1_become_38 (by decide) (fun c2 => ?_) (fun c2 => ?_)
      · replace h := if_some_t c2 h
        refine lv_aload_n hx hb dX1_become_62 rfl (lv_at hl 1 rfl) ?_
        replace h := bd_some h
        obtain ⟨q3, eq3, h⟩ := h
        refine r_getR hx hb hts iw1 hown hK hw x1 2 g1 (by decide) rfl (by decide) rfl (hq _ qw187) (fun _ h9 => h9) dX1_become_63 eq3 ?_
        refine lv_iconst (v := (0 : Int32)) hx hb dX1_become_66 (by decide) ?_
        refine lv_aload_n hx hb dX1_become_67 rfl (lv_at hl 0 rfl) ?_
        replace h := gd_some h
        obtain ⟨g4, h⟩ := h
        replace h := bd_some h
        obtain ⟨q5, eq5, h⟩ := h
        refine r_getR hx hb hts iw1 hown hK hw x0 2 g4 (by decide) rfl (by decide) rfl (hq _ qw187) (fun _ h9 => h9) dX1_become_68 eq5 ?_
        refine lv_iconst (v := (0 : Int32)) hx hb dX1_become_71 (by decide) ?_
        refine lv_bipush (v := (10 : Int32)) hx hb dX1_become_72 (by decide) ?_
        replace h := gd_some h
        obtain ⟨g6, h⟩ := h
        refine r_copyi hx hb (hml.trans hl.1.symm) hown (hq _ qw466) (hq _ qw468) (hq _ qw467) (hq _ qw68) hK hw q3 q5 g6 (Nat.le_of_ble_eq_true rfl) (Nat.le_of_ble_eq_true rfl) dX1_become_74 (fun H locs hw => ?_)
        replace h := lt_some h
        obtain ⟨M7, eM7, h⟩ := h
        rw [← eM7] at hw
        refine lv_aload_n hx hb dX1_become_77 rfl (lv_at hl 0 rfl) ?_
        refine lv_aload_n hx hb dX1_become_78 rfl (lv_at hl 1 rfl) ?_
        refine r_getI hx hb hts iw1 hown hK hw x1 3 g1 (by decide) rfl (by decide) rfl (hq _ qw189) (fun _ h9 => h9) dX1_become_79 ?_
        refine r_putI hx hb hts iw1 tyX1 tyX1_ok nmX1 hown hK hw x0 3 g4 (by decide) rfl (by decide) rfl (hq _ qw189) (fun _ h9 => h9) rfl rfl rfl dX1_become_82 (fun H locs hw => ?_)
        replace h := lt_some h
        obtain ⟨M8, eM8, h⟩ := h
        rw [← eM8] at hw
        refine lv_aload_n hx hb dX1_become_85 rfl (lv_at hl 0 rfl) ?_
        refine lv_aload_n hx hb dX1_become_86 rfl (lv_at hl 1 rfl) ?_
        refine r_getI hx hb hts iw1 hown hK hw x1 4 g1 (by decide) rfl (by decide) rfl (hq _ qw193) (fun _ h9 => h9) dX1_become_87 ?_
        refine r_putI hx hb hts iw1 tyX1 tyX1_ok nmX1 hown hK hw x0 4 g4 (by decide) rfl (by decide) rfl (hq _ qw193) (fun _ h9 => h9) rfl rfl rfl dX1_become_90 (fun H locs hw => ?_)
        replace h := lt_some h
        obtain ⟨M9, eM9, h⟩ := h
        rw [← eM9] at hw
        refine lv_aload_n hx hb dX1_become_93 rfl (lv_at hl 0 rfl) ?_
        refine lv_aload_n hx hb dX1_become_94 rfl (lv_at hl 1 rfl) ?_
        refine r_getI hx hb hts iw1 hown hK hw x1 5 g1 (by decide) rfl (by decide) rfl (hq _ qw197) (fun _ h9 => h9) dX1_become_95 ?_
        refine r_putI hx hb hts iw1 tyX1 tyX1_ok nmX1 hown hK hw x0 5 g4 (by decide) rfl (by decide) rfl (hq _ qw197) (fun _ h9 => h9) rfl rfl rfl dX1_become_98 (fun H locs hw => ?_)
        replace h := lt_some h
        obtain ⟨M10, eM10, h⟩ := h
        rw [← eM10] at hw
        refine lv_aload_n hx hb dX1_become_101 rfl (lv_at hl 0 rfl) ?_
        refine lv_aload_n hx hb dX1_become_102 rfl (lv_at hl 1 rfl) ?_
        refine r_getI hx hb hts iw1 hown hK hw x1 6 g1 (by decide) rfl (by decide) rfl (hq _ qw200) (fun _ h9 => h9) dX1_become_103 ?_
        refine r_putI hx hb hts iw1 tyX1 tyX1_ok nmX1 hown hK hw x0 6 g4 (by decide) rfl (by decide) rfl (hq _ qw200) (fun _ h9 => h9) rfl rfl rfl dX1_become_106 (fun H locs hw => ?_)
        replace h := lt_some h
        obtain ⟨M11, eM11, h⟩ := h
        rw [← eM11] at hw
        refine lv_aload_n hx hb dX1_become_109 rfl (lv_at hl 0 rfl) ?_
        refine lv_aload_n hx hb dX1_become_110 rfl (lv_at hl 1 rfl) ?_
        refine r_getI hx hb hts iw1 hown hK hw x1 7 g1 (by decide) rfl (by decide) rfl (hq _ qw203) (fun _ h9 => h9) dX1_become_111 ?_
        refine r_putI hx hb hts iw1 tyX1 tyX1_ok nmX1 hown hK hw x0 7 g4 (by decide) rfl (by decide) rfl (hq _ qw203) (fun _ h9 => h9) rfl rfl rfl dX1_become_114 (fun H locs hw => ?_)
        replace h := lt_some h
        obtain ⟨M12, eM12, h⟩ := h
        rw [← eM12] at hw
        refine lv_aload_n hx hb dX1_become_117 rfl (lv_at hl 0 rfl) ?_
        refine lv_aload_n hx hb dX1_become_118 rfl (lv_at hl 1 rfl) ?_
        refine r_getI hx hb hts iw1 hown hK hw x1 8 g1 (by decide) rfl (by decide) rfl (hq _ qw205) (fun _ h9 => h9) dX1_become_119 ?_
        refine r_putI hx hb hts iw1 tyX1 tyX1_ok nmX1 hown hK hw x0 8 g4 (by decide) rfl (by decide) rfl (hq _ qw205) (fun _ h9 => h9) rfl rfl rfl dX1_become_122 (fun H locs hw => ?_)
        replace h := lt_some h
        obtain ⟨M13, eM13, h⟩ := h
        rw [← eM13] at hw
        refine lv_aload_n hx hb dX1_become_125 rfl (lv_at hl 0 rfl) ?_
        refine lv_aload_n hx hb dX1_become_126 rfl (lv_at hl 1 rfl) ?_
        refine r_getI hx hb hts iw1 hown hK hw x1 9 g1 (by decide) rfl (by decide) rfl (hq _ qw206) (fun _ h9 => h9) dX1_become_127 ?_
        refine r_putI hx hb hts iw1 tyX1 tyX1_ok nmX1 hown hK hw x0 9 g4 (by decide) rfl (by decide) rfl (hq _ qw206) (fun _ h9 => h9) rfl rfl rfl dX1_become_130 (fun H locs hw => ?_)
        replace h := lt_some h
        obtain ⟨M14, eM14, h⟩ := h
        rw [← eM14] at hw
        refine lv_aload_n hx hb dX1_become_133 rfl (lv_at hl 0 rfl) ?_
        refine lv_aload_n hx hb dX1_become_134 rfl (lv_at hl 1 rfl) ?_
        refine r_getI hx hb hts iw1 hown hK hw x1 10 g1 (by decide) rfl (by decide) rfl (hq _ qw207) (fun _ h9 => h9) dX1_become_135 ?_
        refine r_putI hx hb hts iw1 tyX1 tyX1_ok nmX1 hown hK hw x0 10 g4 (by decide) rfl (by decide) rfl (hq _ qw207) (fun _ h9 => h9) rfl rfl rfl dX1_become_138 (fun H locs hw => ?_)
        replace h := lt_some h
        obtain ⟨M15, eM15, h⟩ := h
        rw [← eM15] at hw
        exact r_vret hx hb hr hlocks hZ hK hw h dX1_become_141
      · replace h := if_some_f c2 h
        refine lv_aload_n hx hb dX1_become_41 rfl (lv_at hl 0 rfl) ?_
        replace h := gd_some h
        obtain ⟨g16, h⟩ := h
        replace h := bd_some h
        obtain ⟨q17, eq17, h⟩ := h
        refine r_getR hx hb hts iw1 hown hK hw x0 1 g16 (by decide) rfl (by decide) rfl (hq _ qw184) (fun _ h9 => h9) dX1_become_42 eq17 ?_
        refine lv_iload_n hx hb dX1_become_45 rfl (lv_at hl 2 rfl) ?_
        replace h := gd_some h
        obtain ⟨g18, h⟩ := h
        replace h := bd_some h
        obtain ⟨q19, eq19, h⟩ := h
        refine r_aald hx hb hK hw q17 3 (by decide) rfl g18 dX1_become_46 eq19 ?_
        refine lv_aload_n hx hb dX1_become_47 rfl (lv_at hl 1 rfl) ?_
        replace h := bd_some h
        obtain ⟨q20, eq20, h⟩ := h
        refine r_getR hx hb hts iw1 hown hK hw x1 1 g1 (by decide) rfl (by decide) rfl (hq _ qw184) (fun _ h9 => h9) dX1_become_48 eq20 ?_
        refine lv_iload_n hx hb dX1_become_51 rfl (lv_at hl 2 rfl) ?_
        replace h := gd_some h
        obtain ⟨g21, h⟩ := h
        replace h := bd_some h
        obtain ⟨q22, eq22, h⟩ := h
        refine r_aald hx hb hK hw q20 3 (by decide) rfl g21 dX1_become_52 eq22 ?_
        replace h := gd_some h
        obtain ⟨g24, h⟩ := h
        replace h := bd_some h
        obtain ⟨r23, er23, h⟩ := h
        refine r_callVv (As := [.ref (ad q22)]) (rest := []) hF (c_X0_become l D cy ad adK adV M q19 q22 r23 er23) (gW_goodV hcm qw465 qw462 qw463 qw464 qw63) hdX0_become rfl ⟨Nat.le_of_ble_eq_true rfl, Nat.le_of_ble_eq_true rfl⟩ rfl rfl hZ hK hw g24 (by decide) rfl rfl hl.1 rfl (Nat.le_of_ble_eq_true rfl) ⟨Nat.zero_le _, Nat.zero_le _⟩ dX1_become_53 (fun H locs hw => ?_)
        refine lv_iinc (v := x2 + (1 : Int32)) (lv' := [(2, .int (x2 + (1 : Int32))), (0, .ref (ad x0)), (1, .ref (ad x1))]) hx hb dX1_become_56 hl (k := 2) rfl (congrArg (fun z => x2 + z) (by decide)) (by decide) rfl (fun ls hl => ?_)
        refine lv_goto (tgt := 33) hx hb dX1_become_59 (by decide) ?_
        exact ih _ _ _ _ h _ _ _ hw (lv_sub hl [1, 2, 0] rfl)
  have hb2 : ∀ (nn : Nat), ∀ (M : Mm) (x0 : Nat) (x1 : Nat) (x2 : Int32), f_X1_become_b2 nn M x0 x1 x2 = some res → ∀ (H : Heap) (locs : List Loc) (ls : Array Slot), Wd D cy shX ad nX (Aw ad nX) s.heap M H locs → lv_has ls 3 [(0, .ref (ad x0)), (1, .ref (ad x1)), (2, .int x2)] → W p l e (headSpec (wU yX1_become cX1_become 3 none) rmX1_become).room s m args below meth c H locs 0 0 (QV D cy shX ad nX adK adV below args s res) (F0 m 2 ls []) := by
    intro nn
    induction nn with
    | zero => intro M x0 x1 x2 h; simp [f_X1_become_b2] at h
    | succ nn ih =>
      intro M x0 x1 x2 h H locs ls hw hl
      unfold f_X1_become_b2 at h
      refine lv_iload_n hx hb dX1_become_2 rfl (lv_at hl 2 rfl) ?_
      refine lv_aload_n hx hb dX1_become_3 rfl (lv_at hl 1 rfl) ?_
      replace h := gd_some h
      obtain ⟨g25, h⟩ := h
      refine r_getI hx hb hts iw1 hown hK hw x1 3 g25 (by decide) rfl (by decide) rfl (hq _ qw189) (fun _ h9 => h9) dX1_become_4 ?_
      refine lv_icmp_ge (tgt := 31) hx hb dX1_become_7 (by decide) (fun c26 => ?_) (fun c26 => ?_)
      · replace h := if_some_t c26 h
        refine lv_iconst (v := (0 : Int32)) hx hb dX1_become_31 (by decide) ?_
        refine lv_istore_n (lv' := [(2, .int (0 : Int32)), (0, .ref (ad x0)), (1, .ref (ad x1))]) hx hb dX1_become_32 rfl hl (by decide) rfl (fun ls hl => ?_)
        exact hb33 1000 _ _ _ _ h _ _ _ hw (lv_sub hl [1, 2, 0] rfl)
      · replace h := if_some_f c26 h
        refine lv_aload_n hx hb dX1_become_10 rfl (lv_at hl 0 rfl) ?_
        replace h := gd_some h
        obtain ⟨g27, h⟩ := h
        replace h := bd_some h
        obtain ⟨q28, eq28, h⟩ := h
        refine r_getR hx hb hts iw1 hown hK hw x0 0 g27 (by decide) rfl (by decide) rfl (hq _ qw181) (fun _ h9 => h9) dX1_become_11 eq28 ?_
        refine lv_iload_n hx hb dX1_become_14 rfl (lv_at hl 2 rfl) ?_
        replace h := gd_some h
        obtain ⟨g29, h⟩ := h
        replace h := bd_some h
        obtain ⟨q30, eq30, h⟩ := h
        refine r_aald hx hb hK hw q28 2 (by decide) rfl g29 dX1_become_15 eq30 ?_
        refine lv_aload_n hx hb dX1_become_16 rfl (lv_at hl 1 rfl) ?_
        replace h := bd_some h
        obtain ⟨q31, eq31, h⟩ := h
        refine r_getR hx hb hts iw1 hown hK hw x1 0 g25 (by decide) rfl (by decide) rfl (hq _ qw181) (fun _ h9 => h9) dX1_become_17 eq31 ?_
        refine lv_iload_n hx hb dX1_become_20 rfl (lv_at hl 2 rfl) ?_
        replace h := gd_some h
        obtain ⟨g32, h⟩ := h
        replace h := bd_some h
        obtain ⟨q33, eq33, h⟩ := h
        refine r_aald hx hb hK hw q31 2 (by decide) rfl g32 dX1_become_21 eq33 ?_
        replace h := gd_some h
        obtain ⟨g35, h⟩ := h
        replace h := bd_some h
        obtain ⟨r34, er34, h⟩ := h
        refine r_callVv (As := [.ref (ad q33)]) (rest := []) hF (c_X3_become l D cy ad adK adV M q30 q33 r34 er34) (gW_goodV hcm qw461 qw458 qw459 qw460 qw62) hdX3_become rfl ⟨Nat.le_of_ble_eq_true rfl, Nat.le_of_ble_eq_true rfl⟩ rfl rfl hZ hK hw g35 (by decide) rfl rfl hl.1 rfl (Nat.le_of_ble_eq_true rfl) ⟨Nat.zero_le _, Nat.zero_le _⟩ dX1_become_22 (fun H locs hw => ?_)
        refine lv_iinc (v := x2 + (1 : Int32)) (lv' := [(2, .int (x2 + (1 : Int32))), (0, .ref (ad x0)), (1, .ref (ad x1))]) hx hb dX1_become_25 hl (k := 2) rfl (congrArg (fun z => x2 + z) (by decide)) (by decide) rfl (fun ls hl => ?_)
        refine lv_goto (tgt := 2) hx hb dX1_become_28 (by decide) ?_
        exact ih _ _ _ _ h _ _ _ hw (lv_sub hl [1, 2, 0] rfl)
  unfold f_X1_become at h
  refine lv_iconst (v := (0 : Int32)) hx hb dX1_become_0 (by decide) ?_
  refine lv_istore_n (lv' := [(2, .int (0 : Int32)), (0, .ref (ad o0)), (1, .ref (ad a1))]) hx hb dX1_become_1 rfl hl (by decide) rfl (fun ls hl => ?_)
  exact hb2 1000 _ _ _ _ h _ _ _ hw (lv_sub hl [1, 2, 0] rfl)
theorem dX1_hasSide_0 : decode cX1_hasSide 0 = .ok (.iload_n 1, 1) := by decide +kernel
theorem dX1_hasSide_1 : decode cX1_hasSide 1 = .ok (.ifCond .lt 15, 3) := by decide +kernel
theorem dX1_hasSide_4 : decode cX1_hasSide 4 = .ok (.iload_n 1, 1) := by decide +kernel
theorem dX1_hasSide_5 : decode cX1_hasSide 5 = .ok (.aload_n 0, 1) := by decide +kernel
theorem dX1_hasSide_6 : decode cX1_hasSide 6 = .ok (.getfield 27, 3) := by decide +kernel
theorem dX1_hasSide_9 : decode cX1_hasSide 9 = .ok (.if_icmp .ge 7, 3) := by decide +kernel
theorem dX1_hasSide_12 : decode cX1_hasSide 12 = .ok (.iconst 1, 1) := by decide +kernel
theorem dX1_hasSide_13 : decode cX1_hasSide 13 = .ok (.goto 4, 3) := by decide +kernel
theorem dX1_hasSide_16 : decode cX1_hasSide 16 = .ok (.iconst 0, 1) := by decide +kernel
theorem dX1_hasSide_17 : decode cX1_hasSide 17 = .ok (.ireturn, 1) := by decide +kernel
set_option maxHeartbeats 4000000 in
set_option maxRecDepth 100000 in
theorem c_X1_hasSide (l : Launch) (D : va_G) (cy : Nat → ClassId) (ad adK adV : Nat → Nat) (M : Mm) (o0 : Nat) (a1 : Int32) (res : Mm × Int32) (h : f_X1_hasSide M o0 a1 = some res) : Met l yX1_hasSide (wU yX1_hasSide cX1_hasSide 2 (some .boolean)) rmX1_hasSide (va_Pc [.ref (ad o0), .int a1] (Pre D cy shX ad nX adK adV M)) (va_Qi (fun r (M2 : Mm) => r = res.2 ∧ M2 = res.1) (Pre D cy shX ad nX adK adV) (Aw ad nX)) 0 0 (Aw ad nX) := by
  refine Met.ofW (cc := cX1_hasSide) (maxL := 2) (ret := (some .boolean)) (by decide) rfl ?_
  intro p e s m args below meth c s₁ B hml hv
  obtain ⟨hargs, hPre⟩ := hv
  have hx := B.exec
  have hb := B.bytes
  have hr := B.returns
  have hts := atoms_spec (ws := wU yX1_hasSide cX1_hasSide 2 (some .boolean)) B.pre
  have hq : ∀ w ∈ gW, w.before args s = true := fun w hw => hts w (List.mem_cons_of_mem _ hw)
  have hcm : ∀ w ∈ gW, w ∈ wU yX1_hasSide cX1_hasSide 2 (some .boolean) := fun w hw => List.mem_cons_of_mem _ hw
  have hown : s.vm.findClass RX1 = some m.cls := findClass_of_methodNamed B.named
  have hlocks := B.notSynchronized
  have hF : CallFix p m c cX1_hasSide 2 s args (wU yX1_hasSide cX1_hasSide 2 (some .boolean)) RX1 := ⟨hx, hb, hml, hown, hts⟩
  have hK := hPre.2.1
  have hZ := hPre.2.2.2
  have hw : Wd D cy shX ad nX (Aw ad nX) s.heap M s.heap [] := ⟨hPre.1, hPre.2.2.1, va_S.rf⟩
  have iw1 : ∀ w ∈ u_ws RX1 TX1 11, w ∈ wU yX1_hasSide cX1_hasSide 2 (some .boolean) := fun w hw => List.mem_cons_of_mem _ (iX1 w hw)
  rw [show entryFrame m args 2 = entryFrame m ([.ref (ad o0), .int a1] : List Value).toArray 2 from by rw [hargs]]
  have hl := lv_entry ([.ref (ad o0), .int a1]) (n := 2) (Nat.le_of_ble_eq_true rfl)
  rw [lg_entry_eq]
  generalize (lg_sl ([.ref (ad o0), .int a1]) ++ List.replicate (2 - (lg_sl ([.ref (ad o0), .int a1])).length) Slot.unset).toArray = ls at hl ⊢
  have hl : lv_has ls 2 [(0, .ref (ad o0)), (1, .int a1)] := hl
  unfold f_X1_hasSide at h
  refine lv_iload_n hx hb dX1_hasSide_0 rfl (lv_at hl 1 rfl) ?_
  refine lv_if_lt (tgt := 16) hx hb dX1_hasSide_1 (by decide) (fun c1 => ?_) (fun c1 => ?_)
  · replace h := if_some_t c1 h
    refine lv_iconst (v := (0 : Int32)) hx hb dX1_hasSide_16 (by decide) ?_
    exact r_iret hx hb hr rfl hlocks hZ hK hw h dX1_hasSide_17
  · replace h := if_some_f c1 h
    refine lv_iload_n hx hb dX1_hasSide_4 rfl (lv_at hl 1 rfl) ?_
    refine lv_aload_n hx hb dX1_hasSide_5 rfl (lv_at hl 0 rfl) ?_
    replace h := gd_some h
    obtain ⟨g2, h⟩ := h
    refine r_getI hx hb hts iw1 hown hK hw o0 3 g2 (by decide) rfl (by decide) rfl (hq _ qw189) (fun _ h9 => h9) dX1_hasSide_6 ?_
    refine lv_icmp_ge (tgt := 16) hx hb dX1_hasSide_9 (by decide) (fun c3 => ?_) (fun c3 => ?_)
    · replace h := if_some_t c3 h
      refine lv_iconst (v := (0 : Int32)) hx hb dX1_hasSide_16 (by decide) ?_
      exact r_iret hx hb hr rfl hlocks hZ hK hw h dX1_hasSide_17
    · replace h := if_some_f c3 h
      refine lv_iconst (v := (1 : Int32)) hx hb dX1_hasSide_12 (by decide) ?_
      refine lv_goto (tgt := 17) hx hb dX1_hasSide_13 (by decide) ?_
      exact r_iret hx hb hr rfl hlocks hZ hK hw h dX1_hasSide_17
theorem dX1_hasGame_0 : decode cX1_hasGame 0 = .ok (.iload_n 1, 1) := by decide +kernel
theorem dX1_hasGame_1 : decode cX1_hasGame 1 = .ok (.ifCond .lt 15, 3) := by decide +kernel
theorem dX1_hasGame_4 : decode cX1_hasGame 4 = .ok (.iload_n 1, 1) := by decide +kernel
theorem dX1_hasGame_5 : decode cX1_hasGame 5 = .ok (.aload_n 0, 1) := by decide +kernel
theorem dX1_hasGame_6 : decode cX1_hasGame 6 = .ok (.getfield 31, 3) := by decide +kernel
theorem dX1_hasGame_9 : decode cX1_hasGame 9 = .ok (.if_icmp .ge 7, 3) := by decide +kernel
theorem dX1_hasGame_12 : decode cX1_hasGame 12 = .ok (.iconst 1, 1) := by decide +kernel
theorem dX1_hasGame_13 : decode cX1_hasGame 13 = .ok (.goto 4, 3) := by decide +kernel
theorem dX1_hasGame_16 : decode cX1_hasGame 16 = .ok (.iconst 0, 1) := by decide +kernel
theorem dX1_hasGame_17 : decode cX1_hasGame 17 = .ok (.ireturn, 1) := by decide +kernel
set_option maxHeartbeats 4000000 in
set_option maxRecDepth 100000 in
theorem c_X1_hasGame (l : Launch) (D : va_G) (cy : Nat → ClassId) (ad adK adV : Nat → Nat) (M : Mm) (o0 : Nat) (a1 : Int32) (res : Mm × Int32) (h : f_X1_hasGame M o0 a1 = some res) : Met l yX1_hasGame (wU yX1_hasGame cX1_hasGame 2 (some .boolean)) rmX1_hasGame (va_Pc [.ref (ad o0), .int a1] (Pre D cy shX ad nX adK adV M)) (va_Qi (fun r (M2 : Mm) => r = res.2 ∧ M2 = res.1) (Pre D cy shX ad nX adK adV) (Aw ad nX)) 0 0 (Aw ad nX) := by
  refine Met.ofW (cc := cX1_hasGame) (maxL := 2) (ret := (some .boolean)) (by decide) rfl ?_
  intro p e s m args below meth c s₁ B hml hv
  obtain ⟨hargs, hPre⟩ := hv
  have hx := B.exec
  have hb := B.bytes
  have hr := B.returns
  have hts := atoms_spec (ws := wU yX1_hasGame cX1_hasGame 2 (some .boolean)) B.pre
  have hq : ∀ w ∈ gW, w.before args s = true := fun w hw => hts w (List.mem_cons_of_mem _ hw)
  have hcm : ∀ w ∈ gW, w ∈ wU yX1_hasGame cX1_hasGame 2 (some .boolean) := fun w hw => List.mem_cons_of_mem _ hw
  have hown : s.vm.findClass RX1 = some m.cls := findClass_of_methodNamed B.named
  have hlocks := B.notSynchronized
  have hF : CallFix p m c cX1_hasGame 2 s args (wU yX1_hasGame cX1_hasGame 2 (some .boolean)) RX1 := ⟨hx, hb, hml, hown, hts⟩
  have hK := hPre.2.1
  have hZ := hPre.2.2.2
  have hw : Wd D cy shX ad nX (Aw ad nX) s.heap M s.heap [] := ⟨hPre.1, hPre.2.2.1, va_S.rf⟩
  have iw1 : ∀ w ∈ u_ws RX1 TX1 11, w ∈ wU yX1_hasGame cX1_hasGame 2 (some .boolean) := fun w hw => List.mem_cons_of_mem _ (iX1 w hw)
  rw [show entryFrame m args 2 = entryFrame m ([.ref (ad o0), .int a1] : List Value).toArray 2 from by rw [hargs]]
  have hl := lv_entry ([.ref (ad o0), .int a1]) (n := 2) (Nat.le_of_ble_eq_true rfl)
  rw [lg_entry_eq]
  generalize (lg_sl ([.ref (ad o0), .int a1]) ++ List.replicate (2 - (lg_sl ([.ref (ad o0), .int a1])).length) Slot.unset).toArray = ls at hl ⊢
  have hl : lv_has ls 2 [(0, .ref (ad o0)), (1, .int a1)] := hl
  unfold f_X1_hasGame at h
  refine lv_iload_n hx hb dX1_hasGame_0 rfl (lv_at hl 1 rfl) ?_
  refine lv_if_lt (tgt := 16) hx hb dX1_hasGame_1 (by decide) (fun c1 => ?_) (fun c1 => ?_)
  · replace h := if_some_t c1 h
    refine lv_iconst (v := (0 : Int32)) hx hb dX1_hasGame_16 (by decide) ?_
    exact r_iret hx hb hr rfl hlocks hZ hK hw h dX1_hasGame_17
  · replace h := if_some_f c1 h
    refine lv_iload_n hx hb dX1_hasGame_4 rfl (lv_at hl 1 rfl) ?_
    refine lv_aload_n hx hb dX1_hasGame_5 rfl (lv_at hl 0 rfl) ?_
    replace h := gd_some h
    obtain ⟨g2, h⟩ := h
    refine r_getI hx hb hts iw1 hown hK hw o0 4 g2 (by decide) rfl (by decide) rfl (hq _ qw193) (fun _ h9 => h9) dX1_hasGame_6 ?_
    refine lv_icmp_ge (tgt := 16) hx hb dX1_hasGame_9 (by decide) (fun c3 => ?_) (fun c3 => ?_)
    · replace h := if_some_t c3 h
      refine lv_iconst (v := (0 : Int32)) hx hb dX1_hasGame_16 (by decide) ?_
      exact r_iret hx hb hr rfl hlocks hZ hK hw h dX1_hasGame_17
    · replace h := if_some_f c3 h
      refine lv_iconst (v := (1 : Int32)) hx hb dX1_hasGame_12 (by decide) ?_
      refine lv_goto (tgt := 17) hx hb dX1_hasGame_13 (by decide) ?_
      exact r_iret hx hb hr rfl hlocks hZ hK hw h dX1_hasGame_17
theorem dX1_allPlayed_0 : decode cX1_allPlayed 0 = .ok (.aload_n 0, 1) := by decide +kernel
theorem dX1_allPlayed_1 : decode cX1_allPlayed 1 = .ok (.getfield 34, 3) := by decide +kernel
theorem dX1_allPlayed_4 : decode cX1_allPlayed 4 = .ok (.aload_n 0, 1) := by decide +kernel
theorem dX1_allPlayed_5 : decode cX1_allPlayed 5 = .ok (.getfield 31, 3) := by decide +kernel
theorem dX1_allPlayed_8 : decode cX1_allPlayed 8 = .ok (.if_icmp .lt 7, 3) := by decide +kernel
theorem dX1_allPlayed_11 : decode cX1_allPlayed 11 = .ok (.iconst 1, 1) := by decide +kernel
theorem dX1_allPlayed_12 : decode cX1_allPlayed 12 = .ok (.goto 4, 3) := by decide +kernel
theorem dX1_allPlayed_15 : decode cX1_allPlayed 15 = .ok (.iconst 0, 1) := by decide +kernel
theorem dX1_allPlayed_16 : decode cX1_allPlayed 16 = .ok (.ireturn, 1) := by decide +kernel
set_option maxHeartbeats 4000000 in
set_option maxRecDepth 100000 in
theorem c_X1_allPlayed (l : Launch) (D : va_G) (cy : Nat → ClassId) (ad adK adV : Nat → Nat) (M : Mm) (o0 : Nat) (res : Mm × Int32) (h : f_X1_allPlayed M o0 = some res) : Met l yX1_allPlayed (wU yX1_allPlayed cX1_allPlayed 1 (some .boolean)) rmX1_allPlayed (va_Pc [.ref (ad o0)] (Pre D cy shX ad nX adK adV M)) (va_Qi (fun r (M2 : Mm) => r = res.2 ∧ M2 = res.1) (Pre D cy shX ad nX adK adV) (Aw ad nX)) 0 0 (Aw ad nX) := by
  refine Met.ofW (cc := cX1_allPlayed) (maxL := 1) (ret := (some .boolean)) (by decide) rfl ?_
  intro p e s m args below meth c s₁ B hml hv
  obtain ⟨hargs, hPre⟩ := hv
  have hx := B.exec
  have hb := B.bytes
  have hr := B.returns
  have hts := atoms_spec (ws := wU yX1_allPlayed cX1_allPlayed 1 (some .boolean)) B.pre
  have hq : ∀ w ∈ gW, w.before args s = true := fun w hw => hts w (List.mem_cons_of_mem _ hw)
  have hcm : ∀ w ∈ gW, w ∈ wU yX1_allPlayed cX1_allPlayed 1 (some .boolean) := fun w hw => List.mem_cons_of_mem _ hw
  have hown : s.vm.findClass RX1 = some m.cls := findClass_of_methodNamed B.named
  have hlocks := B.notSynchronized
  have hF : CallFix p m c cX1_allPlayed 1 s args (wU yX1_allPlayed cX1_allPlayed 1 (some .boolean)) RX1 := ⟨hx, hb, hml, hown, hts⟩
  have hK := hPre.2.1
  have hZ := hPre.2.2.2
  have hw : Wd D cy shX ad nX (Aw ad nX) s.heap M s.heap [] := ⟨hPre.1, hPre.2.2.1, va_S.rf⟩
  have iw1 : ∀ w ∈ u_ws RX1 TX1 11, w ∈ wU yX1_allPlayed cX1_allPlayed 1 (some .boolean) := fun w hw => List.mem_cons_of_mem _ (iX1 w hw)
  rw [show entryFrame m args 1 = entryFrame m ([.ref (ad o0)] : List Value).toArray 1 from by rw [hargs]]
  have hl := lv_entry ([.ref (ad o0)]) (n := 1) (Nat.le_of_ble_eq_true rfl)
  rw [lg_entry_eq]
  generalize (lg_sl ([.ref (ad o0)]) ++ List.replicate (1 - (lg_sl ([.ref (ad o0)])).length) Slot.unset).toArray = ls at hl ⊢
  have hl : lv_has ls 1 [(0, .ref (ad o0))] := hl
  unfold f_X1_allPlayed at h
  refine lv_aload_n hx hb dX1_allPlayed_0 rfl (lv_at hl 0 rfl) ?_
  replace h := gd_some h
  obtain ⟨g1, h⟩ := h
  refine r_getI hx hb hts iw1 hown hK hw o0 5 g1 (by decide) rfl (by decide) rfl (hq _ qw197) (fun _ h9 => h9) dX1_allPlayed_1 ?_
  refine lv_aload_n hx hb dX1_allPlayed_4 rfl (lv_at hl 0 rfl) ?_
  refine r_getI hx hb hts iw1 hown hK hw o0 4 g1 (by decide) rfl (by decide) rfl (hq _ qw193) (fun _ h9 => h9) dX1_allPlayed_5 ?_
  refine lv_icmp_lt (tgt := 15) hx hb dX1_allPlayed_8 (by decide) (fun c2 => ?_) (fun c2 => ?_)
  · replace h := if_some_t c2 h
    refine lv_iconst (v := (0 : Int32)) hx hb dX1_allPlayed_15 (by decide) ?_
    exact r_iret hx hb hr rfl hlocks hZ hK hw h dX1_allPlayed_16
  · replace h := if_some_f c2 h
    refine lv_iconst (v := (1 : Int32)) hx hb dX1_allPlayed_11 (by decide) ?_
    refine lv_goto (tgt := 16) hx hb dX1_allPlayed_12 (by decide) ?_
    exact r_iret hx hb hr rfl hlocks hZ hK hw h dX1_allPlayed_16
theorem dX3_rest_0 : decode cX3_rest 0 = .ok (.aload_n 0, 1) := by decide +kernel
theorem dX3_rest_1 : decode cX3_rest 1 = .ok (.iconst 0, 1) := by decide +kernel
theorem dX3_rest_2 : decode cX3_rest 2 = .ok (.putfield 21, 3) := by decide +kernel
theorem dX3_rest_5 : decode cX3_rest 5 = .ok (.aload_n 0, 1) := by decide +kernel
theorem dX3_rest_6 : decode cX3_rest 6 = .ok (.iconst 0, 1) := by decide +kernel
theorem dX3_rest_7 : decode cX3_rest 7 = .ok (.putfield 24, 3) := by decide +kernel
theorem dX3_rest_10 : decode cX3_rest 10 = .ok (.aload_n 0, 1) := by decide +kernel
theorem dX3_rest_11 : decode cX3_rest 11 = .ok (.iconst 0, 1) := by decide +kernel
theorem dX3_rest_12 : decode cX3_rest 12 = .ok (.putfield 27, 3) := by decide +kernel
theorem dX3_rest_15 : decode cX3_rest 15 = .ok (.return_, 1) := by decide +kernel
set_option maxHeartbeats 4000000 in
set_option maxRecDepth 100000 in
theorem c_X3_rest (l : Launch) (D : va_G) (cy : Nat → ClassId) (ad adK adV : Nat → Nat) (M : Mm) (o0 : Nat) (res : Mm × Unit) (h : f_X3_rest M o0 = some res) : Met l yX3_rest (wU yX3_rest cX3_rest 1 none) rmX3_rest (va_Pc [.ref (ad o0)] (Pre D cy shX ad nX adK adV M)) (va_Qv (fun (M2 : Mm) => M2 = res.1) (Pre D cy shX ad nX adK adV) (Aw ad nX)) 0 0 (Aw ad nX) := by
  refine Met.ofW (cc := cX3_rest) (maxL := 1) (ret := none) (by decide) rfl ?_
  intro p e s m args below meth c s₁ B hml hv
  obtain ⟨hargs, hPre⟩ := hv
  have hx := B.exec
  have hb := B.bytes
  have hr := B.returns
  have hts := atoms_spec (ws := wU yX3_rest cX3_rest 1 none) B.pre
  have hq : ∀ w ∈ gW, w.before args s = true := fun w hw => hts w (List.mem_cons_of_mem _ hw)
  have hcm : ∀ w ∈ gW, w ∈ wU yX3_rest cX3_rest 1 none := fun w hw => List.mem_cons_of_mem _ hw
  have hown : s.vm.findClass RX3 = some m.cls := findClass_of_methodNamed B.named
  have hlocks := B.notSynchronized
  have hF : CallFix p m c cX3_rest 1 s args (wU yX3_rest cX3_rest 1 none) RX3 := ⟨hx, hb, hml, hown, hts⟩
  have hK := hPre.2.1
  have hZ := hPre.2.2.2
  have hw : Wd D cy shX ad nX (Aw ad nX) s.heap M s.heap [] := ⟨hPre.1, hPre.2.2.1, va_S.rf⟩
  have iw3 : ∀ w ∈ u_ws RX3 TX3 6, w ∈ wU yX3_rest cX3_rest 1 none := fun w hw => List.mem_cons_of_mem _ (iX3 w hw)
  rw [show entryFrame m args 1 = entryFrame m ([.ref (ad o0)] : List Value).toArray 1 from by rw [hargs]]
  have hl := lv_entry ([.ref (ad o0)]) (n := 1) (Nat.le_of_ble_eq_true rfl)
  rw [lg_entry_eq]
  generalize (lg_sl ([.ref (ad o0)]) ++ List.replicate (1 - (lg_sl ([.ref (ad o0)])).length) Slot.unset).toArray = ls at hl ⊢
  have hl : lv_has ls 1 [(0, .ref (ad o0))] := hl
  unfold f_X3_rest at h
  refine lv_aload_n hx hb dX3_rest_0 rfl (lv_at hl 0 rfl) ?_
  refine lv_iconst (v := (0 : Int32)) hx hb dX3_rest_1 (by decide) ?_
  replace h := gd_some h
  obtain ⟨g1, h⟩ := h
  refine r_putI hx hb hts iw3 tyX3 tyX3_ok nmX3 hown hK hw o0 3 g1 (by decide) rfl (by decide) rfl (hq _ qw106) (fun _ h9 => h9) rfl rfl rfl dX3_rest_2 (fun H locs hw => ?_)
  replace h := lt_some h
  obtain ⟨M2, eM2, h⟩ := h
  rw [← eM2] at hw
  refine lv_aload_n hx hb dX3_rest_5 rfl (lv_at hl 0 rfl) ?_
  refine lv_iconst (v := (0 : Int32)) hx hb dX3_rest_6 (by decide) ?_
  refine r_putI hx hb hts iw3 tyX3 tyX3_ok nmX3 hown hK hw o0 4 g1 (by decide) rfl (by decide) rfl (hq _ qw110) (fun _ h9 => h9) rfl rfl rfl dX3_rest_7 (fun H locs hw => ?_)
  replace h := lt_some h
  obtain ⟨M3, eM3, h⟩ := h
  rw [← eM3] at hw
  refine lv_aload_n hx hb dX3_rest_10 rfl (lv_at hl 0 rfl) ?_
  refine lv_iconst (v := (0 : Int32)) hx hb dX3_rest_11 (by decide) ?_
  refine r_putI hx hb hts iw3 tyX3 tyX3_ok nmX3 hown hK hw o0 5 g1 (by decide) rfl (by decide) rfl (hq _ qw112) (fun _ h9 => h9) rfl rfl rfl dX3_rest_12 (fun H locs hw => ?_)
  replace h := lt_some h
  obtain ⟨M4, eM4, h⟩ := h
  rw [← eM4] at hw
  exact r_vret hx hb hr hlocks hZ hK hw h dX3_rest_15
theorem dX1_addSide_0 : decode cX1_addSide 0 = .ok (.aload_n 0, 1) := by decide +kernel
theorem dX1_addSide_1 : decode cX1_addSide 1 = .ok (.getfield 11, 3) := by decide +kernel
theorem dX1_addSide_4 : decode cX1_addSide 4 = .ok (.aload_n 0, 1) := by decide +kernel
theorem dX1_addSide_5 : decode cX1_addSide 5 = .ok (.getfield 27, 3) := by decide +kernel
theorem dX1_addSide_8 : decode cX1_addSide 8 = .ok (.aaload, 1) := by decide +kernel
theorem dX1_addSide_9 : decode cX1_addSide 9 = .ok (.astore 4, 2) := by decide +kernel
theorem dX1_addSide_11 : decode cX1_addSide 11 = .ok (.aload 4, 2) := by decide +kernel
theorem dX1_addSide_13 : decode cX1_addSide 13 = .ok (.invokevirtual 67, 3) := by decide +kernel
theorem dX1_addSide_16 : decode cX1_addSide 16 = .ok (.aload 4, 2) := by decide +kernel
theorem dX1_addSide_18 : decode cX1_addSide 18 = .ok (.iload_n 1, 1) := by decide +kernel
theorem dX1_addSide_19 : decode cX1_addSide 19 = .ok (.putfield 70, 3) := by decide +kernel
theorem dX1_addSide_22 : decode cX1_addSide 22 = .ok (.aload 4, 2) := by decide +kernel
theorem dX1_addSide_24 : decode cX1_addSide 24 = .ok (.iload_n 2, 1) := by decide +kernel
theorem dX1_addSide_25 : decode cX1_addSide 25 = .ok (.putfield 73, 3) := by decide +kernel
theorem dX1_addSide_28 : decode cX1_addSide 28 = .ok (.aload 4, 2) := by decide +kernel
theorem dX1_addSide_30 : decode cX1_addSide 30 = .ok (.iload_n 3, 1) := by decide +kernel
theorem dX1_addSide_31 : decode cX1_addSide 31 = .ok (.putfield 76, 3) := by decide +kernel
theorem dX1_addSide_34 : decode cX1_addSide 34 = .ok (.aload_n 0, 1) := by decide +kernel
theorem dX1_addSide_35 : decode cX1_addSide 35 = .ok (.dup, 1) := by decide +kernel
theorem dX1_addSide_36 : decode cX1_addSide 36 = .ok (.getfield 27, 3) := by decide +kernel
theorem dX1_addSide_39 : decode cX1_addSide 39 = .ok (.iconst 1, 1) := by decide +kernel
theorem dX1_addSide_40 : decode cX1_addSide 40 = .ok (.iadd, 1) := by decide +kernel
theorem dX1_addSide_41 : decode cX1_addSide 41 = .ok (.putfield 27, 3) := by decide +kernel
theorem dX1_addSide_44 : decode cX1_addSide 44 = .ok (.aload_n 0, 1) := by decide +kernel
theorem dX1_addSide_45 : decode cX1_addSide 45 = .ok (.getfield 27, 3) := by decide +kernel
theorem dX1_addSide_48 : decode cX1_addSide 48 = .ok (.iconst 1, 1) := by decide +kernel
theorem dX1_addSide_49 : decode cX1_addSide 49 = .ok (.isub, 1) := by decide +kernel
theorem dX1_addSide_50 : decode cX1_addSide 50 = .ok (.ireturn, 1) := by decide +kernel
set_option maxHeartbeats 4000000 in
set_option maxRecDepth 100000 in
theorem c_X1_addSide (l : Launch) (D : va_G) (cy : Nat → ClassId) (ad adK adV : Nat → Nat) (M : Mm) (o0 : Nat) (a1 : Int32) (a2 : Int32) (a3 : Int32) (res : Mm × Int32) (h : f_X1_addSide M o0 a1 a2 a3 = some res) : Met l yX1_addSide (wU yX1_addSide cX1_addSide 5 (some .int)) rmX1_addSide (va_Pc [.ref (ad o0), .int a1, .int a2, .int a3] (Pre D cy shX ad nX adK adV M)) (va_Qi (fun r (M2 : Mm) => r = res.2 ∧ M2 = res.1) (Pre D cy shX ad nX adK adV) (Aw ad nX)) 0 0 (Aw ad nX) := by
  refine Met.ofW (cc := cX1_addSide) (maxL := 5) (ret := (some .int)) (by decide) rfl ?_
  intro p e s m args below meth c s₁ B hml hv
  obtain ⟨hargs, hPre⟩ := hv
  have hx := B.exec
  have hb := B.bytes
  have hr := B.returns
  have hts := atoms_spec (ws := wU yX1_addSide cX1_addSide 5 (some .int)) B.pre
  have hq : ∀ w ∈ gW, w.before args s = true := fun w hw => hts w (List.mem_cons_of_mem _ hw)
  have hcm : ∀ w ∈ gW, w ∈ wU yX1_addSide cX1_addSide 5 (some .int) := fun w hw => List.mem_cons_of_mem _ hw
  have hown : s.vm.findClass RX1 = some m.cls := findClass_of_methodNamed B.named
  have hlocks := B.notSynchronized
  have hF : CallFix p m c cX1_addSide 5 s args (wU yX1_addSide cX1_addSide 5 (some .int)) RX1 := ⟨hx, hb, hml, hown, hts⟩
  have hK := hPre.2.1
  have hZ := hPre.2.2.2
  have hw : Wd D cy shX ad nX (Aw ad nX) s.heap M s.heap [] := ⟨hPre.1, hPre.2.2.1, va_S.rf⟩
  have iw1 : ∀ w ∈ u_ws RX1 TX1 11, w ∈ wU yX1_addSide cX1_addSide 5 (some .int) := fun w hw => List.mem_cons_of_mem _ (iX1 w hw)
  have iw3 : ∀ w ∈ u_ws RX3 TX3 6, w ∈ wU yX1_addSide cX1_addSide 5 (some .int) := fun w hw => List.mem_cons_of_mem _ (iX3 w hw)
  rw [show entryFrame m args 5 = entryFrame m ([.ref (ad o0), .int a1, .int a2, .int a3] : List Value).toArray 5 from by rw [hargs]]
  have hl := lv_entry ([.ref (ad o0), .int a1, .int a2, .int a3]) (n := 5) (Nat.le_of_ble_eq_true rfl)
  rw [lg_entry_eq]
  generalize (lg_sl ([.ref (ad o0), .int a1, .int a2, .int a3]) ++ List.replicate (5 - (lg_sl ([.ref (ad o0), .int a1, .int a2, .int a3])).length) Slot.unset).toArray = ls at hl ⊢
  have hl : lv_has ls 5 [(0, .ref (ad o0)), (1, .int a1), (2, .int a2), (3, .int a3)] := hl
  unfold f_X1_addSide at h
  refine lv_aload_n hx hb dX1_addSide_0 rfl (lv_at hl 0 rfl) ?_
  replace h := gd_some h
  obtain ⟨g1, h⟩ := h
  replace h := bd_some h
  obtain ⟨q2, eq2, h⟩ := h
  refine r_getR hx hb hts iw1 hown hK hw o0 0 g1 (by decide) rfl (by decide) rfl (hq _ qw181) (fun _ h9 => h9) dX1_addSide_1 eq2 ?_
  refine lv_aload_n hx hb dX1_addSide_4 rfl (lv_at hl 0 rfl) ?_
  refine r_getI hx hb hts iw1 hown hK hw o0 3 g1 (by decide) rfl (by decide) rfl (hq _ qw189) (fun _ h9 => h9) dX1_addSide_5 ?_
  replace h := gd_some h
  obtain ⟨g3, h⟩ := h
  replace h := bd_some h
  obtain ⟨q4, eq4, h⟩ := h
  refine r_aald hx hb hK hw q2 2 (by decide) rfl g3 dX1_addSide_8 eq4 ?_
  refine lv_astore (lv' := [(4, .ref (ad q4)), (0, .ref (ad o0)), (1, .int a1), (2, .int a2), (3, .int a3)]) hx hb dX1_addSide_9 hl (by decide) rfl (fun ls hl => ?_)
  refine lv_aload hx hb dX1_addSide_11 (lv_at hl 0 rfl) ?_
  replace h := gd_some h
  obtain ⟨g6, h⟩ := h
  replace h := bd_some h
  obtain ⟨r5, er5, h⟩ := h
  refine r_callVv (As := []) (rest := []) hF (c_X3_rest l D cy ad adK adV M q4 r5 er5) (gW_goodV hcm qw382 qw379 qw380 qw381 qw62) hdX3_rest rfl ⟨Nat.le_of_ble_eq_true rfl, Nat.le_of_ble_eq_true rfl⟩ rfl rfl hZ hK hw g6 (by decide) rfl rfl hl.1 rfl (Nat.le_of_ble_eq_true rfl) ⟨Nat.zero_le _, Nat.zero_le _⟩ dX1_addSide_13 (fun H locs hw => ?_)
  refine lv_aload hx hb dX1_addSide_16 (lv_at hl 0 rfl) ?_
  refine lv_iload_n hx hb dX1_addSide_18 rfl (lv_at hl 2 rfl) ?_
  refine r_putI hx hb hts iw3 tyX3 tyX3_ok nmX3 hown hK hw q4 0 g6 (by decide) rfl (by decide) rfl (hq _ qw99) (fun _ h9 => h9) rfl rfl rfl dX1_addSide_19 (fun H locs hw => ?_)
  replace h := lt_some h
  obtain ⟨M7, eM7, h⟩ := h
  rw [← eM7] at hw
  refine lv_aload hx hb dX1_addSide_22 (lv_at hl 0 rfl) ?_
  refine lv_iload_n hx hb dX1_addSide_24 rfl (lv_at hl 3 rfl) ?_
  refine r_putI hx hb hts iw3 tyX3 tyX3_ok nmX3 hown hK hw q4 1 g6 (by decide) rfl (by decide) rfl (hq _ qw102) (fun _ h9 => h9) rfl rfl rfl dX1_addSide_25 (fun H locs hw => ?_)
  replace h := lt_some h
  obtain ⟨M8, eM8, h⟩ := h
  rw [← eM8] at hw
  refine lv_aload hx hb dX1_addSide_28 (lv_at hl 0 rfl) ?_
  refine lv_iload_n hx hb dX1_addSide_30 rfl (lv_at hl 4 rfl) ?_
  refine r_putI hx hb hts iw3 tyX3 tyX3_ok nmX3 hown hK hw q4 2 g6 (by decide) rfl (by decide) rfl (hq _ qw105) (fun _ h9 => h9) rfl rfl rfl dX1_addSide_31 (fun H locs hw => ?_)
  replace h := lt_some h
  obtain ⟨M9, eM9, h⟩ := h
  rw [← eM9] at hw
  refine lv_aload_n hx hb dX1_addSide_34 rfl (lv_at hl 1 rfl) ?_
  refine lv_dup hx hb dX1_addSide_35 rfl ?_
  refine r_getI hx hb hts iw1 hown hK hw o0 3 g1 (by decide) rfl (by decide) rfl (hq _ qw189) (fun _ h9 => h9) dX1_addSide_36 ?_
  refine lv_iconst (v := (1 : Int32)) hx hb dX1_addSide_39 (by decide) ?_
  refine lv_iadd hx hb dX1_addSide_40 ?_
  refine r_putI hx hb hts iw1 tyX1 tyX1_ok nmX1 hown hK hw o0 3 g1 (by decide) rfl (by decide) rfl (hq _ qw189) (fun _ h9 => h9) rfl rfl rfl dX1_addSide_41 (fun H locs hw => ?_)
  replace h := lt_some h
  obtain ⟨M10, eM10, h⟩ := h
  rw [← eM10] at hw
  refine lv_aload_n hx hb dX1_addSide_44 rfl (lv_at hl 1 rfl) ?_
  refine r_getI hx hb hts iw1 hown hK hw o0 3 g1 (by decide) rfl (by decide) rfl (hq _ qw189) (fun _ h9 => h9) dX1_addSide_45 ?_
  refine lv_iconst (v := (1 : Int32)) hx hb dX1_addSide_48 (by decide) ?_
  refine lv_isub hx hb dX1_addSide_49 ?_
  exact r_iret hx hb hr rfl hlocks hZ hK hw h dX1_addSide_50
theorem dX1_addGame_0 : decode cX1_addGame 0 = .ok (.aload_n 0, 1) := by decide +kernel
theorem dX1_addGame_1 : decode cX1_addGame 1 = .ok (.getfield 19, 3) := by decide +kernel
theorem dX1_addGame_4 : decode cX1_addGame 4 = .ok (.aload_n 0, 1) := by decide +kernel
theorem dX1_addGame_5 : decode cX1_addGame 5 = .ok (.getfield 31, 3) := by decide +kernel
theorem dX1_addGame_8 : decode cX1_addGame 8 = .ok (.aaload, 1) := by decide +kernel
theorem dX1_addGame_9 : decode cX1_addGame 9 = .ok (.astore 4, 2) := by decide +kernel
theorem dX1_addGame_11 : decode cX1_addGame 11 = .ok (.aload 4, 2) := by decide +kernel
theorem dX1_addGame_13 : decode cX1_addGame 13 = .ok (.iload_n 1, 1) := by decide +kernel
theorem dX1_addGame_14 : decode cX1_addGame 14 = .ok (.putfield 79, 3) := by decide +kernel
theorem dX1_addGame_17 : decode cX1_addGame 17 = .ok (.aload 4, 2) := by decide +kernel
theorem dX1_addGame_19 : decode cX1_addGame 19 = .ok (.iload_n 2, 1) := by decide +kernel
theorem dX1_addGame_20 : decode cX1_addGame 20 = .ok (.putfield 82, 3) := by decide +kernel
theorem dX1_addGame_23 : decode cX1_addGame 23 = .ok (.aload 4, 2) := by decide +kernel
theorem dX1_addGame_25 : decode cX1_addGame 25 = .ok (.iload_n 3, 1) := by decide +kernel
theorem dX1_addGame_26 : decode cX1_addGame 26 = .ok (.putfield 85, 3) := by decide +kernel
theorem dX1_addGame_29 : decode cX1_addGame 29 = .ok (.aload_n 0, 1) := by decide +kernel
theorem dX1_addGame_30 : decode cX1_addGame 30 = .ok (.dup, 1) := by decide +kernel
theorem dX1_addGame_31 : decode cX1_addGame 31 = .ok (.getfield 31, 3) := by decide +kernel
theorem dX1_addGame_34 : decode cX1_addGame 34 = .ok (.iconst 1, 1) := by decide +kernel
theorem dX1_addGame_35 : decode cX1_addGame 35 = .ok (.iadd, 1) := by decide +kernel
theorem dX1_addGame_36 : decode cX1_addGame 36 = .ok (.putfield 31, 3) := by decide +kernel
theorem dX1_addGame_39 : decode cX1_addGame 39 = .ok (.aload_n 0, 1) := by decide +kernel
theorem dX1_addGame_40 : decode cX1_addGame 40 = .ok (.getfield 31, 3) := by decide +kernel
theorem dX1_addGame_43 : decode cX1_addGame 43 = .ok (.iconst 1, 1) := by decide +kernel
theorem dX1_addGame_44 : decode cX1_addGame 44 = .ok (.isub, 1) := by decide +kernel
theorem dX1_addGame_45 : decode cX1_addGame 45 = .ok (.ireturn, 1) := by decide +kernel
set_option maxHeartbeats 4000000 in
set_option maxRecDepth 100000 in
theorem c_X1_addGame (l : Launch) (D : va_G) (cy : Nat → ClassId) (ad adK adV : Nat → Nat) (M : Mm) (o0 : Nat) (a1 : Int32) (a2 : Int32) (a3 : Int32) (res : Mm × Int32) (h : f_X1_addGame M o0 a1 a2 a3 = some res) : Met l yX1_addGame (wU yX1_addGame cX1_addGame 5 (some .int)) rmX1_addGame (va_Pc [.ref (ad o0), .int a1, .int a2, .int a3] (Pre D cy shX ad nX adK adV M)) (va_Qi (fun r (M2 : Mm) => r = res.2 ∧ M2 = res.1) (Pre D cy shX ad nX adK adV) (Aw ad nX)) 0 0 (Aw ad nX) := by
  refine Met.ofW (cc := cX1_addGame) (maxL := 5) (ret := (some .int)) (by decide) rfl ?_
  intro p e s m args below meth c s₁ B hml hv
  obtain ⟨hargs, hPre⟩ := hv
  have hx := B.exec
  have hb := B.bytes
  have hr := B.returns
  have hts := atoms_spec (ws := wU yX1_addGame cX1_addGame 5 (some .int)) B.pre
  have hq : ∀ w ∈ gW, w.before args s = true := fun w hw => hts w (List.mem_cons_of_mem _ hw)
  have hcm : ∀ w ∈ gW, w ∈ wU yX1_addGame cX1_addGame 5 (some .int) := fun w hw => List.mem_cons_of_mem _ hw
  have hown : s.vm.findClass RX1 = some m.cls := findClass_of_methodNamed B.named
  have hlocks := B.notSynchronized
  have hF : CallFix p m c cX1_addGame 5 s args (wU yX1_addGame cX1_addGame 5 (some .int)) RX1 := ⟨hx, hb, hml, hown, hts⟩
  have hK := hPre.2.1
  have hZ := hPre.2.2.2
  have hw : Wd D cy shX ad nX (Aw ad nX) s.heap M s.heap [] := ⟨hPre.1, hPre.2.2.1, va_S.rf⟩
  have iw0 : ∀ w ∈ u_ws RX0 TX0 9, w ∈ wU yX1_addGame cX1_addGame 5 (some .int) := fun w hw => List.mem_cons_of_mem _ (iX0 w hw)
  have iw1 : ∀ w ∈ u_ws RX1 TX1 11, w ∈ wU yX1_addGame cX1_addGame 5 (some .int) := fun w hw => List.mem_cons_of_mem _ (iX1 w hw)
  rw [show entryFrame m args 5 = entryFrame m ([.ref (ad o0), .int a1, .int a2, .int a3] : List Value).toArray 5 from by rw [hargs]]
  have hl := lv_entry ([.ref (ad o0), .int a1, .int a2, .int a3]) (n := 5) (Nat.le_of_ble_eq_true rfl)
  rw [lg_entry_eq]
  generalize (lg_sl ([.ref (ad o0), .int a1, .int a2, .int a3]) ++ List.replicate (5 - (lg_sl ([.ref (ad o0), .int a1, .int a2, .int a3])).length) Slot.unset).toArray = ls at hl ⊢
  have hl : lv_has ls 5 [(0, .ref (ad o0)), (1, .int a1), (2, .int a2), (3, .int a3)] := hl
  unfold f_X1_addGame at h
  refine lv_aload_n hx hb dX1_addGame_0 rfl (lv_at hl 0 rfl) ?_
  replace h := gd_some h
  obtain ⟨g1, h⟩ := h
  replace h := bd_some h
  obtain ⟨q2, eq2, h⟩ := h
  refine r_getR hx hb hts iw1 hown hK hw o0 1 g1 (by decide) rfl (by decide) rfl (hq _ qw184) (fun _ h9 => h9) dX1_addGame_1 eq2 ?_
  refine lv_aload_n hx hb dX1_addGame_4 rfl (lv_at hl 0 rfl) ?_
  refine r_getI hx hb hts iw1 hown hK hw o0 4 g1 (by decide) rfl (by decide) rfl (hq _ qw193) (fun _ h9 => h9) dX1_addGame_5 ?_
  replace h := gd_some h
  obtain ⟨g3, h⟩ := h
  replace h := bd_some h
  obtain ⟨q4, eq4, h⟩ := h
  refine r_aald hx hb hK hw q2 3 (by decide) rfl g3 dX1_addGame_8 eq4 ?_
  refine lv_astore (lv' := [(4, .ref (ad q4)), (0, .ref (ad o0)), (1, .int a1), (2, .int a2), (3, .int a3)]) hx hb dX1_addGame_9 hl (by decide) rfl (fun ls hl => ?_)
  refine lv_aload hx hb dX1_addGame_11 (lv_at hl 0 rfl) ?_
  refine lv_iload_n hx hb dX1_addGame_13 rfl (lv_at hl 2 rfl) ?_
  replace h := gd_some h
  obtain ⟨g5, h⟩ := h
  refine r_putI hx hb hts iw0 tyX0 tyX0_ok nmX0 hown hK hw q4 0 g5 (by decide) rfl (by decide) rfl (hq _ qw137) (fun _ h9 => h9) rfl rfl rfl dX1_addGame_14 (fun H locs hw => ?_)
  replace h := lt_some h
  obtain ⟨M6, eM6, h⟩ := h
  rw [← eM6] at hw
  refine lv_aload hx hb dX1_addGame_17 (lv_at hl 0 rfl) ?_
  refine lv_iload_n hx hb dX1_addGame_19 rfl (lv_at hl 3 rfl) ?_
  refine r_putI hx hb hts iw0 tyX0 tyX0_ok nmX0 hown hK hw q4 1 g5 (by decide) rfl (by decide) rfl (hq _ qw141) (fun _ h9 => h9) rfl rfl rfl dX1_addGame_20 (fun H locs hw => ?_)
  replace h := lt_some h
  obtain ⟨M7, eM7, h⟩ := h
  rw [← eM7] at hw
  refine lv_aload hx hb dX1_addGame_23 (lv_at hl 0 rfl) ?_
  refine lv_iload_n hx hb dX1_addGame_25 rfl (lv_at hl 4 rfl) ?_
  refine r_putI hx hb hts iw0 tyX0 tyX0_ok nmX0 hown hK hw q4 2 g5 (by decide) rfl (by decide) rfl (hq _ qw145) (fun _ h9 => h9) rfl rfl rfl dX1_addGame_26 (fun H locs hw => ?_)
  replace h := lt_some h
  obtain ⟨M8, eM8, h⟩ := h
  rw [← eM8] at hw
  refine lv_aload_n hx hb dX1_addGame_29 rfl (lv_at hl 1 rfl) ?_
  refine lv_dup hx hb dX1_addGame_30 rfl ?_
  refine r_getI hx hb hts iw1 hown hK hw o0 4 g1 (by decide) rfl (by decide) rfl (hq _ qw193) (fun _ h9 => h9) dX1_addGame_31 ?_
  refine lv_iconst (v := (1 : Int32)) hx hb dX1_addGame_34 (by decide) ?_
  refine lv_iadd hx hb dX1_addGame_35 ?_
  refine r_putI hx hb hts iw1 tyX1 tyX1_ok nmX1 hown hK hw o0 4 g1 (by decide) rfl (by decide) rfl (hq _ qw193) (fun _ h9 => h9) rfl rfl rfl dX1_addGame_36 (fun H locs hw => ?_)
  replace h := lt_some h
  obtain ⟨M9, eM9, h⟩ := h
  rw [← eM9] at hw
  refine lv_aload_n hx hb dX1_addGame_39 rfl (lv_at hl 1 rfl) ?_
  refine r_getI hx hb hts iw1 hown hK hw o0 4 g1 (by decide) rfl (by decide) rfl (hq _ qw193) (fun _ h9 => h9) dX1_addGame_40 ?_
  refine lv_iconst (v := (1 : Int32)) hx hb dX1_addGame_43 (by decide) ?_
  refine lv_isub hx hb dX1_addGame_44 ?_
  exact r_iret hx hb hr rfl hlocks hZ hK hw h dX1_addGame_45
theorem dX1_gamesPlayedBy_0 : decode cX1_gamesPlayedBy 0 = .ok (.iconst 0, 1) := by decide +kernel
theorem dX1_gamesPlayedBy_1 : decode cX1_gamesPlayedBy 1 = .ok (.istore_n 2, 1) := by decide +kernel
theorem dX1_gamesPlayedBy_2 : decode cX1_gamesPlayedBy 2 = .ok (.iconst 0, 1) := by decide +kernel
theorem dX1_gamesPlayedBy_3 : decode cX1_gamesPlayedBy 3 = .ok (.istore_n 3, 1) := by decide +kernel
theorem dX1_gamesPlayedBy_4 : decode cX1_gamesPlayedBy 4 = .ok (.iload_n 3, 1) := by decide +kernel
theorem dX1_gamesPlayedBy_5 : decode cX1_gamesPlayedBy 5 = .ok (.aload_n 0, 1) := by decide +kernel
theorem dX1_gamesPlayedBy_6 : decode cX1_gamesPlayedBy 6 = .ok (.getfield 34, 3) := by decide +kernel
theorem dX1_gamesPlayedBy_9 : decode cX1_gamesPlayedBy 9 = .ok (.if_icmp .ge 25, 3) := by decide +kernel
theorem dX1_gamesPlayedBy_12 : decode cX1_gamesPlayedBy 12 = .ok (.aload_n 0, 1) := by decide +kernel
theorem dX1_gamesPlayedBy_13 : decode cX1_gamesPlayedBy 13 = .ok (.getfield 19, 3) := by decide +kernel
theorem dX1_gamesPlayedBy_16 : decode cX1_gamesPlayedBy 16 = .ok (.iload_n 3, 1) := by decide +kernel
theorem dX1_gamesPlayedBy_17 : decode cX1_gamesPlayedBy 17 = .ok (.aaload, 1) := by decide +kernel
theorem dX1_gamesPlayedBy_18 : decode cX1_gamesPlayedBy 18 = .ok (.iload_n 1, 1) := by decide +kernel
theorem dX1_gamesPlayedBy_19 : decode cX1_gamesPlayedBy 19 = .ok (.invokevirtual 88, 3) := by decide +kernel
theorem dX1_gamesPlayedBy_22 : decode cX1_gamesPlayedBy 22 = .ok (.ifCond .eq 6, 3) := by decide +kernel
theorem dX1_gamesPlayedBy_25 : decode cX1_gamesPlayedBy 25 = .ok (.iinc 2 1, 3) := by decide +kernel
theorem dX1_gamesPlayedBy_28 : decode cX1_gamesPlayedBy 28 = .ok (.iinc 3 1, 3) := by decide +kernel
theorem dX1_gamesPlayedBy_31 : decode cX1_gamesPlayedBy 31 = .ok (.goto (-27), 3) := by decide +kernel
theorem dX1_gamesPlayedBy_34 : decode cX1_gamesPlayedBy 34 = .ok (.iload_n 2, 1) := by decide +kernel
theorem dX1_gamesPlayedBy_35 : decode cX1_gamesPlayedBy 35 = .ok (.ireturn, 1) := by decide +kernel
set_option maxHeartbeats 4000000 in
set_option maxRecDepth 100000 in
theorem c_X1_gamesPlayedBy (l : Launch) (D : va_G) (cy : Nat → ClassId) (ad adK adV : Nat → Nat) (M : Mm) (o0 : Nat) (a1 : Int32) (res : Mm × Int32) (h : f_X1_gamesPlayedBy M o0 a1 = some res) : Met l yX1_gamesPlayedBy (wU yX1_gamesPlayedBy cX1_gamesPlayedBy 4 (some .int)) rmX1_gamesPlayedBy (va_Pc [.ref (ad o0), .int a1] (Pre D cy shX ad nX adK adV M)) (va_Qi (fun r (M2 : Mm) => r = res.2 ∧ M2 = res.1) (Pre D cy shX ad nX adK adV) (Aw ad nX)) 0 0 (Aw ad nX) := by
  refine Met.ofW (cc := cX1_gamesPlayedBy) (maxL := 4) (ret := (some .int)) (by decide) rfl ?_
  intro p e s m args below meth c s₁ B hml hv
  obtain ⟨hargs, hPre⟩ := hv
  have hx := B.exec
  have hb := B.bytes
  have hr := B.returns
  have hts := atoms_spec (ws := wU yX1_gamesPlayedBy cX1_gamesPlayedBy 4 (some .int)) B.pre
  have hq : ∀ w ∈ gW, w.before args s = true := fun w hw => hts w (List.mem_cons_of_mem _ hw)
  have hcm : ∀ w ∈ gW, w ∈ wU yX1_gamesPlayedBy cX1_gamesPlayedBy 4 (some .int) := fun w hw => List.mem_cons_of_mem _ hw
  have hown : s.vm.findClass RX1 = some m.cls := findClass_of_methodNamed B.named
  have hlocks := B.notSynchronized
  have hF : CallFix p m c cX1_gamesPlayedBy 4 s args (wU yX1_gamesPlayedBy cX1_gamesPlayedBy 4 (some .int)) RX1 := ⟨hx, hb, hml, hown, hts⟩
  have hK := hPre.2.1
  have hZ := hPre.2.2.2
  have hw : Wd D cy shX ad nX (Aw ad nX) s.heap M s.heap [] := ⟨hPre.1, hPre.2.2.1, va_S.rf⟩
  have iw1 : ∀ w ∈ u_ws RX1 TX1 11, w ∈ wU yX1_gamesPlayedBy cX1_gamesPlayedBy 4 (some .int) := fun w hw => List.mem_cons_of_mem _ (iX1 w hw)
  rw [show entryFrame m args 4 = entryFrame m ([.ref (ad o0), .int a1] : List Value).toArray 4 from by rw [hargs]]
  have hl := lv_entry ([.ref (ad o0), .int a1]) (n := 4) (Nat.le_of_ble_eq_true rfl)
  rw [lg_entry_eq]
  generalize (lg_sl ([.ref (ad o0), .int a1]) ++ List.replicate (4 - (lg_sl ([.ref (ad o0), .int a1])).length) Slot.unset).toArray = ls at hl ⊢
  have hl : lv_has ls 4 [(0, .ref (ad o0)), (1, .int a1)] := hl
  have hb28 : ∀ (k4 : Mm → Nat → Int32 → Int32 → Int32 → Option (Mm × Int32)) (hk4 : ∀ (M : Mm) (x0 : Nat) (x1 : Int32) (x2 : Int32) (x3 : Int32), k4 M x0 x1 x2 x3 = some res → ∀ (H : Heap) (locs : List Loc) (ls : Array Slot), Wd D cy shX ad nX (Aw ad nX) s.heap M H locs → lv_has ls 4 [(0, .ref (ad x0)), (1, .int x1), (2, .int x2), (3, .int x3)] → W p l e (headSpec (wU yX1_gamesPlayedBy cX1_gamesPlayedBy 4 (some .int)) rmX1_gamesPlayedBy).room s m args below meth c H locs 0 0 (QI D cy shX ad nX adK adV below args s res) (F0 m 4 ls [])), ∀ (M : Mm) (x0 : Nat) (x1 : Int32) (x2 : Int32) (x3 : Int32), f_X1_gamesPlayedBy_b28 k4 M x0 x1 x2 x3 = some res → ∀ (H : Heap) (locs : List Loc) (ls : Array Slot), Wd D cy shX ad nX (Aw ad nX) s.heap M H locs → lv_has ls 4 [(0, .ref (ad x0)), (1, .int x1), (2, .int x2), (3, .int x3)] → W p l e (headSpec (wU yX1_gamesPlayedBy cX1_gamesPlayedBy 4 (some .int)) rmX1_gamesPlayedBy).room s m args below meth c H locs 0 0 (QI D cy shX ad nX adK adV below args s res) (F0 m 28 ls []) := by
    intro k4 hk4
    intro M x0 x1 x2 x3 h H locs ls hw hl
    unfold f_X1_gamesPlayedBy_b28 at h
    refine lv_iinc (v := x3 + (1 : Int32)) (lv' := [(3, .int (x3 + (1 : Int32))), (0, .ref (ad x0)), (1, .int x1), (2, .int x2)]) hx hb dX1_gamesPlayedBy_28 hl (k := 3) rfl (congrArg (fun z => x3 + z) (by decide)) (by decide) rfl (fun ls hl => ?_)
    refine lv_goto (tgt := 4) hx hb dX1_gamesPlayedBy_31 (by decide) ?_
    exact hk4 _ _ _ _ _ h _ _ _ hw (lv_sub hl [1, 2, 3, 0] rfl)
  have hb4 : ∀ (nn : Nat), ∀ (M : Mm) (x0 : Nat) (x1 : Int32) (x2 : Int32) (x3 : Int32), f_X1_gamesPlayedBy_b4 nn M x0 x1 x2 x3 = some res → ∀ (H : Heap) (locs : List Loc) (ls : Array Slot), Wd D cy shX ad nX (Aw ad nX) s.heap M H locs → lv_has ls 4 [(0, .ref (ad x0)), (1, .int x1), (2, .int x2), (3, .int x3)] → W p l e (headSpec (wU yX1_gamesPlayedBy cX1_gamesPlayedBy 4 (some .int)) rmX1_gamesPlayedBy).room s m args below meth c H locs 0 0 (QI D cy shX ad nX adK adV below args s res) (F0 m 4 ls []) := by
    intro nn
    induction nn with
    | zero => intro M x0 x1 x2 x3 h; simp [f_X1_gamesPlayedBy_b4] at h
    | succ nn ih =>
      intro M x0 x1 x2 x3 h H locs ls hw hl
      unfold f_X1_gamesPlayedBy_b4 at h
      refine lv_iload_n hx hb dX1_gamesPlayedBy_4 rfl (lv_at hl 3 rfl) ?_
      refine lv_aload_n hx hb dX1_gamesPlayedBy_5 rfl (lv_at hl 0 rfl) ?_
      replace h := gd_some h
      obtain ⟨g1, h⟩ := h
      refine r_getI hx hb hts iw1 hown hK hw x0 5 g1 (by decide) rfl (by decide) rfl (hq _ qw197) (fun _ h9 => h9) dX1_gamesPlayedBy_6 ?_
      refine lv_icmp_ge (tgt := 34) hx hb dX1_gamesPlayedBy_9 (by decide) (fun c2 => ?_) (fun c2 => ?_)
      · replace h := if_some_t c2 h
        refine lv_iload_n hx hb dX1_gamesPlayedBy_34 rfl (lv_at hl 2 rfl) ?_
        exact r_iret hx hb hr rfl hlocks hZ hK hw h dX1_gamesPlayedBy_35
      · replace h := if_some_f c2 h
        refine lv_aload_n hx hb dX1_gamesPlayedBy_12 rfl (lv_at hl 0 rfl) ?_
        replace h := bd_some h
        obtain ⟨q3, eq3, h⟩ := h
        refine r_getR hx hb hts iw1 hown hK hw x0 1 g1 (by decide) rfl (by decide) rfl (hq _ qw184) (fun _ h9 => h9) dX1_gamesPlayedBy_13 eq3 ?_
        refine lv_iload_n hx hb dX1_gamesPlayedBy_16 rfl (lv_at hl 3 rfl) ?_
        replace h := gd_some h
        obtain ⟨g4, h⟩ := h
        replace h := bd_some h
        obtain ⟨q5, eq5, h⟩ := h
        refine r_aald hx hb hK hw q3 3 (by decide) rfl g4 dX1_gamesPlayedBy_17 eq5 ?_
        refine lv_iload_n hx hb dX1_gamesPlayedBy_18 rfl (lv_at hl 1 rfl) ?_
        replace h := gd_some h
        obtain ⟨g7, h⟩ := h
        replace h := bd_some h
        obtain ⟨r6, er6, h⟩ := h
        refine r_callVi (As := [.int x1]) (rest := []) hF (c_X0_isOf l D cy ad adK adV M q5 x1 r6 er6) (gW_goodV hcm qw402 qw399 qw400 qw401 qw63) hdX0_isOf rfl ⟨Nat.le_of_ble_eq_true rfl, Nat.le_of_ble_eq_true rfl⟩ rfl rfl hZ hK hw g7 (by decide) rfl rfl hl.1 rfl (Nat.le_of_ble_eq_true rfl) ⟨Nat.zero_le _, Nat.zero_le _⟩ dX1_gamesPlayedBy_19 (fun H locs hw => ?_)
        refine lv_if_eq (tgt := 28) hx hb dX1_gamesPlayedBy_22 (by decide) (fun c8 => ?_) (fun c8 => ?_)
        · replace h := if_some_t c8 h
          exact hb28 _ ih _ _ _ _ _ h _ _ _ hw (lv_sub hl [0, 1, 2, 3] rfl)
        · replace h := if_some_f c8 h
          refine lv_iinc (v := x2 + (1 : Int32)) (lv' := [(2, .int (x2 + (1 : Int32))), (0, .ref (ad x0)), (1, .int x1), (3, .int x3)]) hx hb dX1_gamesPlayedBy_25 hl (k := 2) rfl (congrArg (fun z => x2 + z) (by decide)) (by decide) rfl (fun ls hl => ?_)
          exact hb28 _ ih _ _ _ _ _ h _ _ _ hw (lv_sub hl [1, 2, 0, 3] rfl)
  unfold f_X1_gamesPlayedBy at h
  refine lv_iconst (v := (0 : Int32)) hx hb dX1_gamesPlayedBy_0 (by decide) ?_
  refine lv_istore_n (lv' := [(2, .int (0 : Int32)), (0, .ref (ad o0)), (1, .int a1)]) hx hb dX1_gamesPlayedBy_1 rfl hl (by decide) rfl (fun ls hl => ?_)
  refine lv_iconst (v := (0 : Int32)) hx hb dX1_gamesPlayedBy_2 (by decide) ?_
  refine lv_istore_n (lv' := [(3, .int (0 : Int32)), (2, .int (0 : Int32)), (0, .ref (ad o0)), (1, .int a1)]) hx hb dX1_gamesPlayedBy_3 rfl hl (by decide) rfl (fun ls hl => ?_)
  exact hb4 1000 _ _ _ _ _ h _ _ _ hw (lv_sub hl [2, 3, 1, 0] rfl)
theorem dX1_gamesGivenTo_0 : decode cX1_gamesGivenTo 0 = .ok (.iconst 0, 1) := by decide +kernel
theorem dX1_gamesGivenTo_1 : decode cX1_gamesGivenTo 1 = .ok (.istore_n 2, 1) := by decide +kernel
theorem dX1_gamesGivenTo_2 : decode cX1_gamesGivenTo 2 = .ok (.iconst 0, 1) := by decide +kernel
theorem dX1_gamesGivenTo_3 : decode cX1_gamesGivenTo 3 = .ok (.istore_n 3, 1) := by decide +kernel
theorem dX1_gamesGivenTo_4 : decode cX1_gamesGivenTo 4 = .ok (.iload_n 3, 1) := by decide +kernel
theorem dX1_gamesGivenTo_5 : decode cX1_gamesGivenTo 5 = .ok (.aload_n 0, 1) := by decide +kernel
theorem dX1_gamesGivenTo_6 : decode cX1_gamesGivenTo 6 = .ok (.getfield 34, 3) := by decide +kernel
theorem dX1_gamesGivenTo_9 : decode cX1_gamesGivenTo 9 = .ok (.if_icmp .ge 25, 3) := by decide +kernel
theorem dX1_gamesGivenTo_12 : decode cX1_gamesGivenTo 12 = .ok (.aload_n 0, 1) := by decide +kernel
theorem dX1_gamesGivenTo_13 : decode cX1_gamesGivenTo 13 = .ok (.getfield 19, 3) := by decide +kernel
theorem dX1_gamesGivenTo_16 : decode cX1_gamesGivenTo 16 = .ok (.iload_n 3, 1) := by decide +kernel
theorem dX1_gamesGivenTo_17 : decode cX1_gamesGivenTo 17 = .ok (.aaload, 1) := by decide +kernel
theorem dX1_gamesGivenTo_18 : decode cX1_gamesGivenTo 18 = .ok (.getfield 92, 3) := by decide +kernel
theorem dX1_gamesGivenTo_21 : decode cX1_gamesGivenTo 21 = .ok (.iload_n 1, 1) := by decide +kernel
theorem dX1_gamesGivenTo_22 : decode cX1_gamesGivenTo 22 = .ok (.if_icmp .ne 6, 3) := by decide +kernel
theorem dX1_gamesGivenTo_25 : decode cX1_gamesGivenTo 25 = .ok (.iinc 2 1, 3) := by decide +kernel
theorem dX1_gamesGivenTo_28 : decode cX1_gamesGivenTo 28 = .ok (.iinc 3 1, 3) := by decide +kernel
theorem dX1_gamesGivenTo_31 : decode cX1_gamesGivenTo 31 = .ok (.goto (-27), 3) := by decide +kernel
theorem dX1_gamesGivenTo_34 : decode cX1_gamesGivenTo 34 = .ok (.iload_n 2, 1) := by decide +kernel
theorem dX1_gamesGivenTo_35 : decode cX1_gamesGivenTo 35 = .ok (.ireturn, 1) := by decide +kernel
set_option maxHeartbeats 4000000 in
set_option maxRecDepth 100000 in
theorem c_X1_gamesGivenTo (l : Launch) (D : va_G) (cy : Nat → ClassId) (ad adK adV : Nat → Nat) (M : Mm) (o0 : Nat) (a1 : Int32) (res : Mm × Int32) (h : f_X1_gamesGivenTo M o0 a1 = some res) : Met l yX1_gamesGivenTo (wU yX1_gamesGivenTo cX1_gamesGivenTo 4 (some .int)) rmX1_gamesGivenTo (va_Pc [.ref (ad o0), .int a1] (Pre D cy shX ad nX adK adV M)) (va_Qi (fun r (M2 : Mm) => r = res.2 ∧ M2 = res.1) (Pre D cy shX ad nX adK adV) (Aw ad nX)) 0 0 (Aw ad nX) := by
  refine Met.ofW (cc := cX1_gamesGivenTo) (maxL := 4) (ret := (some .int)) (by decide) rfl ?_
  intro p e s m args below meth c s₁ B hml hv
  obtain ⟨hargs, hPre⟩ := hv
  have hx := B.exec
  have hb := B.bytes
  have hr := B.returns
  have hts := atoms_spec (ws := wU yX1_gamesGivenTo cX1_gamesGivenTo 4 (some .int)) B.pre
  have hq : ∀ w ∈ gW, w.before args s = true := fun w hw => hts w (List.mem_cons_of_mem _ hw)
  have hcm : ∀ w ∈ gW, w ∈ wU yX1_gamesGivenTo cX1_gamesGivenTo 4 (some .int) := fun w hw => List.mem_cons_of_mem _ hw
  have hown : s.vm.findClass RX1 = some m.cls := findClass_of_methodNamed B.named
  have hlocks := B.notSynchronized
  have hF : CallFix p m c cX1_gamesGivenTo 4 s args (wU yX1_gamesGivenTo cX1_gamesGivenTo 4 (some .int)) RX1 := ⟨hx, hb, hml, hown, hts⟩
  have hK := hPre.2.1
  have hZ := hPre.2.2.2
  have hw : Wd D cy shX ad nX (Aw ad nX) s.heap M s.heap [] := ⟨hPre.1, hPre.2.2.1, va_S.rf⟩
  have iw0 : ∀ w ∈ u_ws RX0 TX0 9, w ∈ wU yX1_gamesGivenTo cX1_gamesGivenTo 4 (some .int) := fun w hw => List.mem_cons_of_mem _ (iX0 w hw)
  have iw1 : ∀ w ∈ u_ws RX1 TX1 11, w ∈ wU yX1_gamesGivenTo cX1_gamesGivenTo 4 (some .int) := fun w hw => List.mem_cons_of_mem _ (iX1 w hw)
  rw [show entryFrame m args 4 = entryFrame m ([.ref (ad o0), .int a1] : List Value).toArray 4 from by rw [hargs]]
  have hl := lv_entry ([.ref (ad o0), .int a1]) (n := 4) (Nat.le_of_ble_eq_true rfl)
  rw [lg_entry_eq]
  generalize (lg_sl ([.ref (ad o0), .int a1]) ++ List.replicate (4 - (lg_sl ([.ref (ad o0), .int a1])).length) Slot.unset).toArray = ls at hl ⊢
  have hl : lv_has ls 4 [(0, .ref (ad o0)), (1, .int a1)] := hl
  have hb28 : ∀ (k4 : Mm → Nat → Int32 → Int32 → Int32 → Option (Mm × Int32)) (hk4 : ∀ (M : Mm) (x0 : Nat) (x1 : Int32) (x2 : Int32) (x3 : Int32), k4 M x0 x1 x2 x3 = some res → ∀ (H : Heap) (locs : List Loc) (ls : Array Slot), Wd D cy shX ad nX (Aw ad nX) s.heap M H locs → lv_has ls 4 [(0, .ref (ad x0)), (1, .int x1), (2, .int x2), (3, .int x3)] → W p l e (headSpec (wU yX1_gamesGivenTo cX1_gamesGivenTo 4 (some .int)) rmX1_gamesGivenTo).room s m args below meth c H locs 0 0 (QI D cy shX ad nX adK adV below args s res) (F0 m 4 ls [])), ∀ (M : Mm) (x0 : Nat) (x1 : Int32) (x2 : Int32) (x3 : Int32), f_X1_gamesGivenTo_b28 k4 M x0 x1 x2 x3 = some res → ∀ (H : Heap) (locs : List Loc) (ls : Array Slot), Wd D cy shX ad nX (Aw ad nX) s.heap M H locs → lv_has ls 4 [(0, .ref (ad x0)), (1, .int x1), (2, .int x2), (3, .int x3)] → W p l e (headSpec (wU yX1_gamesGivenTo cX1_gamesGivenTo 4 (some .int)) rmX1_gamesGivenTo).room s m args below meth c H locs 0 0 (QI D cy shX ad nX adK adV below args s res) (F0 m 28 ls []) := by
    intro k4 hk4
    intro M x0 x1 x2 x3 h H locs ls hw hl
    unfold f_X1_gamesGivenTo_b28 at h
    refine lv_iinc (v := x3 + (1 : Int32)) (lv' := [(3, .int (x3 + (1 : Int32))), (0, .ref (ad x0)), (1, .int x1), (2, .int x2)]) hx hb dX1_gamesGivenTo_28 hl (k := 3) rfl (congrArg (fun z => x3 + z) (by decide)) (by decide) rfl (fun ls hl => ?_)
    refine lv_goto (tgt := 4) hx hb dX1_gamesGivenTo_31 (by decide) ?_
    exact hk4 _ _ _ _ _ h _ _ _ hw (lv_sub hl [1, 2, 3, 0] rfl)
  have hb4 : ∀ (nn : Nat), ∀ (M : Mm) (x0 : Nat) (x1 : Int32) (x2 : Int32) (x3 : Int32), f_X1_gamesGivenTo_b4 nn M x0 x1 x2 x3 = some res → ∀ (H : Heap) (locs : List Loc) (ls : Array Slot), Wd D cy shX ad nX (Aw ad nX) s.heap M H locs → lv_has ls 4 [(0, .ref (ad x0)), (1, .int x1), (2, .int x2), (3, .int x3)] → W p l e (headSpec (wU yX1_gamesGivenTo cX1_gamesGivenTo 4 (some .int)) rmX1_gamesGivenTo).room s m args below meth c H locs 0 0 (QI D cy shX ad nX adK adV below args s res) (F0 m 4 ls []) := by
    intro nn
    induction nn with
    | zero => intro M x0 x1 x2 x3 h; simp [f_X1_gamesGivenTo_b4] at h
    | succ nn ih =>
      intro M x0 x1 x2 x3 h H locs ls hw hl
      unfold f_X1_gamesGivenTo_b4 at h
      refine lv_iload_n hx hb dX1_gamesGivenTo_4 rfl (lv_at hl 3 rfl) ?_
      refine lv_aload_n hx hb dX1_gamesGivenTo_5 rfl (lv_at hl 0 rfl) ?_
      replace h := gd_some h
      obtain ⟨g1, h⟩ := h
      refine r_getI hx hb hts iw1 hown hK hw x0 5 g1 (by decide) rfl (by decide) rfl (hq _ qw197) (fun _ h9 => h9) dX1_gamesGivenTo_6 ?_
      refine lv_icmp_ge (tgt := 34) hx hb dX1_gamesGivenTo_9 (by decide) (fun c2 => ?_) (fun c2 => ?_)
      · replace h := if_some_t c2 h
        refine lv_iload_n hx hb dX1_gamesGivenTo_34 rfl (lv_at hl 2 rfl) ?_
        exact r_iret hx hb hr rfl hlocks hZ hK hw h dX1_gamesGivenTo_35
      · replace h := if_some_f c2 h
        refine lv_aload_n hx hb dX1_gamesGivenTo_12 rfl (lv_at hl 0 rfl) ?_
        replace h := bd_some h
        obtain ⟨q3, eq3, h⟩ := h
        refine r_getR hx hb hts iw1 hown hK hw x0 1 g1 (by decide) rfl (by decide) rfl (hq _ qw184) (fun _ h9 => h9) dX1_gamesGivenTo_13 eq3 ?_
        refine lv_iload_n hx hb dX1_gamesGivenTo_16 rfl (lv_at hl 3 rfl) ?_
        replace h := gd_some h
        obtain ⟨g4, h⟩ := h
        replace h := bd_some h
        obtain ⟨q5, eq5, h⟩ := h
        refine r_aald hx hb hK hw q3 3 (by decide) rfl g4 dX1_gamesGivenTo_17 eq5 ?_
        replace h := gd_some h
        obtain ⟨g6, h⟩ := h
        refine r_getI hx hb hts iw0 hown hK hw q5 4 g6 (by decide) rfl (by decide) rfl (hq _ qw153) (fun _ h9 => h9) dX1_gamesGivenTo_18 ?_
        refine lv_iload_n hx hb dX1_gamesGivenTo_21 rfl (lv_at hl 1 rfl) ?_
        refine lv_icmp_ne (tgt := 28) hx hb dX1_gamesGivenTo_22 (by decide) (fun c7 => ?_) (fun c7 => ?_)
        · replace h := if_some_f c7 h
          exact hb28 _ ih _ _ _ _ _ h _ _ _ hw (lv_sub hl [0, 1, 2, 3] rfl)
        · replace h := if_some_t c7 h
          refine lv_iinc (v := x2 + (1 : Int32)) (lv' := [(2, .int (x2 + (1 : Int32))), (0, .ref (ad x0)), (1, .int x1), (3, .int x3)]) hx hb dX1_gamesGivenTo_25 hl (k := 2) rfl (congrArg (fun z => x2 + z) (by decide)) (by decide) rfl (fun ls hl => ?_)
          exact hb28 _ ih _ _ _ _ _ h _ _ _ hw (lv_sub hl [1, 2, 0, 3] rfl)
  unfold f_X1_gamesGivenTo at h
  refine lv_iconst (v := (0 : Int32)) hx hb dX1_gamesGivenTo_0 (by decide) ?_
  refine lv_istore_n (lv' := [(2, .int (0 : Int32)), (0, .ref (ad o0)), (1, .int a1)]) hx hb dX1_gamesGivenTo_1 rfl hl (by decide) rfl (fun ls hl => ?_)
  refine lv_iconst (v := (0 : Int32)) hx hb dX1_gamesGivenTo_2 (by decide) ?_
  refine lv_istore_n (lv' := [(3, .int (0 : Int32)), (2, .int (0 : Int32)), (0, .ref (ad o0)), (1, .int a1)]) hx hb dX1_gamesGivenTo_3 rfl hl (by decide) rfl (fun ls hl => ?_)
  exact hb4 1000 _ _ _ _ _ h _ _ _ hw (lv_sub hl [2, 3, 1, 0] rfl)
theorem dX1_spotsInUse_0 : decode cX1_spotsInUse 0 = .ok (.iconst 0, 1) := by decide +kernel
theorem dX1_spotsInUse_1 : decode cX1_spotsInUse 1 = .ok (.istore_n 1, 1) := by decide +kernel
theorem dX1_spotsInUse_2 : decode cX1_spotsInUse 2 = .ok (.iconst 0, 1) := by decide +kernel
theorem dX1_spotsInUse_3 : decode cX1_spotsInUse 3 = .ok (.istore_n 2, 1) := by decide +kernel
theorem dX1_spotsInUse_4 : decode cX1_spotsInUse 4 = .ok (.iload_n 2, 1) := by decide +kernel
theorem dX1_spotsInUse_5 : decode cX1_spotsInUse 5 = .ok (.bipush 10, 2) := by decide +kernel
theorem dX1_spotsInUse_7 : decode cX1_spotsInUse 7 = .ok (.if_icmp .ge 22, 3) := by decide +kernel
theorem dX1_spotsInUse_10 : decode cX1_spotsInUse 10 = .ok (.aload_n 0, 1) := by decide +kernel
theorem dX1_spotsInUse_11 : decode cX1_spotsInUse 11 = .ok (.getfield 23, 3) := by decide +kernel
theorem dX1_spotsInUse_14 : decode cX1_spotsInUse 14 = .ok (.iload_n 2, 1) := by decide +kernel
theorem dX1_spotsInUse_15 : decode cX1_spotsInUse 15 = .ok (.iaload, 1) := by decide +kernel
theorem dX1_spotsInUse_16 : decode cX1_spotsInUse 16 = .ok (.iconst (-1), 1) := by decide +kernel
theorem dX1_spotsInUse_17 : decode cX1_spotsInUse 17 = .ok (.if_icmp .eq 6, 3) := by decide +kernel
theorem dX1_spotsInUse_20 : decode cX1_spotsInUse 20 = .ok (.iinc 1 1, 3) := by decide +kernel
theorem dX1_spotsInUse_23 : decode cX1_spotsInUse 23 = .ok (.iinc 2 1, 3) := by decide +kernel
theorem dX1_spotsInUse_26 : decode cX1_spotsInUse 26 = .ok (.goto (-22), 3) := by decide +kernel
theorem dX1_spotsInUse_29 : decode cX1_spotsInUse 29 = .ok (.iload_n 1, 1) := by decide +kernel
theorem dX1_spotsInUse_30 : decode cX1_spotsInUse 30 = .ok (.ireturn, 1) := by decide +kernel
set_option maxHeartbeats 4000000 in
set_option maxRecDepth 100000 in
theorem c_X1_spotsInUse (l : Launch) (D : va_G) (cy : Nat → ClassId) (ad adK adV : Nat → Nat) (M : Mm) (o0 : Nat) (res : Mm × Int32) (h : f_X1_spotsInUse M o0 = some res) : Met l yX1_spotsInUse (wU yX1_spotsInUse cX1_spotsInUse 3 (some .int)) rmX1_spotsInUse (va_Pc [.ref (ad o0)] (Pre D cy shX ad nX adK adV M)) (va_Qi (fun r (M2 : Mm) => r = res.2 ∧ M2 = res.1) (Pre D cy shX ad nX adK adV) (Aw ad nX)) 0 0 (Aw ad nX) := by
  refine Met.ofW (cc := cX1_spotsInUse) (maxL := 3) (ret := (some .int)) (by decide) rfl ?_
  intro p e s m args below meth c s₁ B hml hv
  obtain ⟨hargs, hPre⟩ := hv
  have hx := B.exec
  have hb := B.bytes
  have hr := B.returns
  have hts := atoms_spec (ws := wU yX1_spotsInUse cX1_spotsInUse 3 (some .int)) B.pre
  have hq : ∀ w ∈ gW, w.before args s = true := fun w hw => hts w (List.mem_cons_of_mem _ hw)
  have hcm : ∀ w ∈ gW, w ∈ wU yX1_spotsInUse cX1_spotsInUse 3 (some .int) := fun w hw => List.mem_cons_of_mem _ hw
  have hown : s.vm.findClass RX1 = some m.cls := findClass_of_methodNamed B.named
  have hlocks := B.notSynchronized
  have hF : CallFix p m c cX1_spotsInUse 3 s args (wU yX1_spotsInUse cX1_spotsInUse 3 (some .int)) RX1 := ⟨hx, hb, hml, hown, hts⟩
  have hK := hPre.2.1
  have hZ := hPre.2.2.2
  have hw : Wd D cy shX ad nX (Aw ad nX) s.heap M s.heap [] := ⟨hPre.1, hPre.2.2.1, va_S.rf⟩
  have iw1 : ∀ w ∈ u_ws RX1 TX1 11, w ∈ wU yX1_spotsInUse cX1_spotsInUse 3 (some .int) := fun w hw => List.mem_cons_of_mem _ (iX1 w hw)
  rw [show entryFrame m args 3 = entryFrame m ([.ref (ad o0)] : List Value).toArray 3 from by rw [hargs]]
  have hl := lv_entry ([.ref (ad o0)]) (n := 3) (Nat.le_of_ble_eq_true rfl)
  rw [lg_entry_eq]
  generalize (lg_sl ([.ref (ad o0)]) ++ List.replicate (3 - (lg_sl ([.ref (ad o0)])).length) Slot.unset).toArray = ls at hl ⊢
  have hl : lv_has ls 3 [(0, .ref (ad o0))] := hl
  have hb23 : ∀ (k4 : Mm → Nat → Int32 → Int32 → Option (Mm × Int32)) (hk4 : ∀ (M : Mm) (x0 : Nat) (x1 : Int32) (x2 : Int32), k4 M x0 x1 x2 = some res → ∀ (H : Heap) (locs : List Loc) (ls : Array Slot), Wd D cy shX ad nX (Aw ad nX) s.heap M H locs → lv_has ls 3 [(0, .ref (ad x0)), (1, .int x1), (2, .int x2)] → W p l e (headSpec (wU yX1_spotsInUse cX1_spotsInUse 3 (some .int)) rmX1_spotsInUse).room s m args below meth c H locs 0 0 (QI D cy shX ad nX adK adV below args s res) (F0 m 4 ls [])), ∀ (M : Mm) (x0 : Nat) (x1 : Int32) (x2 : Int32), f_X1_spotsInUse_b23 k4 M x0 x1 x2 = some res → ∀ (H : Heap) (locs : List Loc) (ls : Array Slot), Wd D cy shX ad nX (Aw ad nX) s.heap M H locs → lv_has ls 3 [(0, .ref (ad x0)), (1, .int x1), (2, .int x2)] → W p l e (headSpec (wU yX1_spotsInUse cX1_spotsInUse 3 (some .int)) rmX1_spotsInUse).room s m args below meth c H locs 0 0 (QI D cy shX ad nX adK adV below args s res) (F0 m 23 ls []) := by
    intro k4 hk4
    intro M x0 x1 x2 h H locs ls hw hl
    unfold f_X1_spotsInUse_b23 at h
    refine lv_iinc (v := x2 + (1 : Int32)) (lv' := [(2, .int (x2 + (1 : Int32))), (0, .ref (ad x0)), (1, .int x1)]) hx hb dX1_spotsInUse_23 hl (k := 2) rfl (congrArg (fun z => x2 + z) (by decide)) (by decide) rfl (fun ls hl => ?_)
    refine lv_goto (tgt := 4) hx hb dX1_spotsInUse_26 (by decide) ?_
    exact hk4 _ _ _ _ h _ _ _ hw (lv_sub hl [1, 2, 0] rfl)
  have hb4 : ∀ (nn : Nat), ∀ (M : Mm) (x0 : Nat) (x1 : Int32) (x2 : Int32), f_X1_spotsInUse_b4 nn M x0 x1 x2 = some res → ∀ (H : Heap) (locs : List Loc) (ls : Array Slot), Wd D cy shX ad nX (Aw ad nX) s.heap M H locs → lv_has ls 3 [(0, .ref (ad x0)), (1, .int x1), (2, .int x2)] → W p l e (headSpec (wU yX1_spotsInUse cX1_spotsInUse 3 (some .int)) rmX1_spotsInUse).room s m args below meth c H locs 0 0 (QI D cy shX ad nX adK adV below args s res) (F0 m 4 ls []) := by
    intro nn
    induction nn with
    | zero => intro M x0 x1 x2 h; simp [f_X1_spotsInUse_b4] at h
    | succ nn ih =>
      intro M x0 x1 x2 h H locs ls hw hl
      unfold f_X1_spotsInUse_b4 at h
      refine lv_iload_n hx hb dX1_spotsInUse_4 rfl (lv_at hl 2 rfl) ?_
      refine lv_bipush (v := (10 : Int32)) hx hb dX1_spotsInUse_5 (by decide) ?_
      refine lv_icmp_ge (tgt := 29) hx hb dX1_spotsInUse_7 (by decide) (fun c1 => ?_) (fun c1 => ?_)
      · replace h := if_some_t c1 h
        refine lv_iload_n hx hb dX1_spotsInUse_29 rfl (lv_at hl 1 rfl) ?_
        exact r_iret hx hb hr rfl hlocks hZ hK hw h dX1_spotsInUse_30
      · replace h := if_some_f c1 h
        refine lv_aload_n hx hb dX1_spotsInUse_10 rfl (lv_at hl 0 rfl) ?_
        replace h := gd_some h
        obtain ⟨g2, h⟩ := h
        replace h := bd_some h
        obtain ⟨q3, eq3, h⟩ := h
        refine r_getR hx hb hts iw1 hown hK hw x0 2 g2 (by decide) rfl (by decide) rfl (hq _ qw187) (fun _ h9 => h9) dX1_spotsInUse_11 eq3 ?_
        refine lv_iload_n hx hb dX1_spotsInUse_14 rfl (lv_at hl 2 rfl) ?_
        replace h := gd_some h
        obtain ⟨g4, h⟩ := h
        refine r_iald hx hb hK hw q3 g4 dX1_spotsInUse_15 ?_
        refine lv_iconst (v := (-1 : Int32)) hx hb dX1_spotsInUse_16 (by decide) ?_
        refine lv_icmp_eq (tgt := 23) hx hb dX1_spotsInUse_17 (by decide) (fun c5 => ?_) (fun c5 => ?_)
        · replace h := if_some_t c5 h
          exact hb23 _ ih _ _ _ _ h _ _ _ hw (lv_sub hl [0, 1, 2] rfl)
        · replace h := if_some_f c5 h
          refine lv_iinc (v := x1 + (1 : Int32)) (lv' := [(1, .int (x1 + (1 : Int32))), (0, .ref (ad x0)), (2, .int x2)]) hx hb dX1_spotsInUse_20 hl (k := 1) rfl (congrArg (fun z => x1 + z) (by decide)) (by decide) rfl (fun ls hl => ?_)
          exact hb23 _ ih _ _ _ _ h _ _ _ hw (lv_sub hl [1, 0, 2] rfl)
  unfold f_X1_spotsInUse at h
  refine lv_iconst (v := (0 : Int32)) hx hb dX1_spotsInUse_0 (by decide) ?_
  refine lv_istore_n (lv' := [(1, .int (0 : Int32)), (0, .ref (ad o0))]) hx hb dX1_spotsInUse_1 rfl hl (by decide) rfl (fun ls hl => ?_)
  refine lv_iconst (v := (0 : Int32)) hx hb dX1_spotsInUse_2 (by decide) ?_
  refine lv_istore_n (lv' := [(2, .int (0 : Int32)), (1, .int (0 : Int32)), (0, .ref (ad o0))]) hx hb dX1_spotsInUse_3 rfl hl (by decide) rfl (fun ls hl => ?_)
  exact hb4 1000 _ _ _ _ h _ _ _ hw (lv_sub hl [2, 1, 0] rfl)
theorem dX1_isBarred_0 : decode cX1_isBarred 0 = .ok (.aload_n 0, 1) := by decide +kernel
theorem dX1_isBarred_1 : decode cX1_isBarred 1 = .ok (.getfield 11, 3) := by decide +kernel
theorem dX1_isBarred_4 : decode cX1_isBarred 4 = .ok (.iload_n 1, 1) := by decide +kernel
theorem dX1_isBarred_5 : decode cX1_isBarred 5 = .ok (.aaload, 1) := by decide +kernel
theorem dX1_isBarred_6 : decode cX1_isBarred 6 = .ok (.getfield 95, 3) := by decide +kernel
theorem dX1_isBarred_9 : decode cX1_isBarred 9 = .ok (.aload_n 0, 1) := by decide +kernel
theorem dX1_isBarred_10 : decode cX1_isBarred 10 = .ok (.getfield 37, 3) := by decide +kernel
theorem dX1_isBarred_13 : decode cX1_isBarred 13 = .ok (.if_icmp .lt 7, 3) := by decide +kernel
theorem dX1_isBarred_16 : decode cX1_isBarred 16 = .ok (.iconst 1, 1) := by decide +kernel
theorem dX1_isBarred_17 : decode cX1_isBarred 17 = .ok (.goto 4, 3) := by decide +kernel
theorem dX1_isBarred_20 : decode cX1_isBarred 20 = .ok (.iconst 0, 1) := by decide +kernel
theorem dX1_isBarred_21 : decode cX1_isBarred 21 = .ok (.ireturn, 1) := by decide +kernel
set_option maxHeartbeats 4000000 in
set_option maxRecDepth 100000 in
theorem c_X1_isBarred (l : Launch) (D : va_G) (cy : Nat → ClassId) (ad adK adV : Nat → Nat) (M : Mm) (o0 : Nat) (a1 : Int32) (res : Mm × Int32) (h : f_X1_isBarred M o0 a1 = some res) : Met l yX1_isBarred (wU yX1_isBarred cX1_isBarred 2 (some .boolean)) rmX1_isBarred (va_Pc [.ref (ad o0), .int a1] (Pre D cy shX ad nX adK adV M)) (va_Qi (fun r (M2 : Mm) => r = res.2 ∧ M2 = res.1) (Pre D cy shX ad nX adK adV) (Aw ad nX)) 0 0 (Aw ad nX) := by
  refine Met.ofW (cc := cX1_isBarred) (maxL := 2) (ret := (some .boolean)) (by decide) rfl ?_
  intro p e s m args below meth c s₁ B hml hv
  obtain ⟨hargs, hPre⟩ := hv
  have hx := B.exec
  have hb := B.bytes
  have hr := B.returns
  have hts := atoms_spec (ws := wU yX1_isBarred cX1_isBarred 2 (some .boolean)) B.pre
  have hq : ∀ w ∈ gW, w.before args s = true := fun w hw => hts w (List.mem_cons_of_mem _ hw)
  have hcm : ∀ w ∈ gW, w ∈ wU yX1_isBarred cX1_isBarred 2 (some .boolean) := fun w hw => List.mem_cons_of_mem _ hw
  have hown : s.vm.findClass RX1 = some m.cls := findClass_of_methodNamed B.named
  have hlocks := B.notSynchronized
  have hF : CallFix p m c cX1_isBarred 2 s args (wU yX1_isBarred cX1_isBarred 2 (some .boolean)) RX1 := ⟨hx, hb, hml, hown, hts⟩
  have hK := hPre.2.1
  have hZ := hPre.2.2.2
  have hw : Wd D cy shX ad nX (Aw ad nX) s.heap M s.heap [] := ⟨hPre.1, hPre.2.2.1, va_S.rf⟩
  have iw1 : ∀ w ∈ u_ws RX1 TX1 11, w ∈ wU yX1_isBarred cX1_isBarred 2 (some .boolean) := fun w hw => List.mem_cons_of_mem _ (iX1 w hw)
  have iw3 : ∀ w ∈ u_ws RX3 TX3 6, w ∈ wU yX1_isBarred cX1_isBarred 2 (some .boolean) := fun w hw => List.mem_cons_of_mem _ (iX3 w hw)
  rw [show entryFrame m args 2 = entryFrame m ([.ref (ad o0), .int a1] : List Value).toArray 2 from by rw [hargs]]
  have hl := lv_entry ([.ref (ad o0), .int a1]) (n := 2) (Nat.le_of_ble_eq_true rfl)
  rw [lg_entry_eq]
  generalize (lg_sl ([.ref (ad o0), .int a1]) ++ List.replicate (2 - (lg_sl ([.ref (ad o0), .int a1])).length) Slot.unset).toArray = ls at hl ⊢
  have hl : lv_has ls 2 [(0, .ref (ad o0)), (1, .int a1)] := hl
  unfold f_X1_isBarred at h
  refine lv_aload_n hx hb dX1_isBarred_0 rfl (lv_at hl 0 rfl) ?_
  replace h := gd_some h
  obtain ⟨g1, h⟩ := h
  replace h := bd_some h
  obtain ⟨q2, eq2, h⟩ := h
  refine r_getR hx hb hts iw1 hown hK hw o0 0 g1 (by decide) rfl (by decide) rfl (hq _ qw181) (fun _ h9 => h9) dX1_isBarred_1 eq2 ?_
  refine lv_iload_n hx hb dX1_isBarred_4 rfl (lv_at hl 1 rfl) ?_
  replace h := gd_some h
  obtain ⟨g3, h⟩ := h
  replace h := bd_some h
  obtain ⟨q4, eq4, h⟩ := h
  refine r_aald hx hb hK hw q2 2 (by decide) rfl g3 dX1_isBarred_5 eq4 ?_
  replace h := gd_some h
  obtain ⟨g5, h⟩ := h
  refine r_getI hx hb hts iw3 hown hK hw q4 4 g5 (by decide) rfl (by decide) rfl (hq _ qw111) (fun _ h9 => h9) dX1_isBarred_6 ?_
  refine lv_aload_n hx hb dX1_isBarred_9 rfl (lv_at hl 0 rfl) ?_
  refine r_getI hx hb hts iw1 hown hK hw o0 6 g1 (by decide) rfl (by decide) rfl (hq _ qw200) (fun _ h9 => h9) dX1_isBarred_10 ?_
  refine lv_icmp_lt (tgt := 20) hx hb dX1_isBarred_13 (by decide) (fun c6 => ?_) (fun c6 => ?_)
  · replace h := if_some_t c6 h
    refine lv_iconst (v := (0 : Int32)) hx hb dX1_isBarred_20 (by decide) ?_
    exact r_iret hx hb hr rfl hlocks hZ hK hw h dX1_isBarred_21
  · replace h := if_some_f c6 h
    refine lv_iconst (v := (1 : Int32)) hx hb dX1_isBarred_16 (by decide) ?_
    refine lv_goto (tgt := 21) hx hb dX1_isBarred_17 (by decide) ?_
    exact r_iret hx hb hr rfl hlocks hZ hK hw h dX1_isBarred_21
theorem dX1_force_0 : decode cX1_force 0 = .ok (.aload_n 0, 1) := by decide +kernel
theorem dX1_force_1 : decode cX1_force 1 = .ok (.aload_n 0, 1) := by decide +kernel
theorem dX1_force_2 : decode cX1_force 2 = .ok (.getfield 34, 3) := by decide +kernel
theorem dX1_force_5 : decode cX1_force 5 = .ok (.putfield 43, 3) := by decide +kernel
theorem dX1_force_8 : decode cX1_force 8 = .ok (.aload_n 0, 1) := by decide +kernel
theorem dX1_force_9 : decode cX1_force 9 = .ok (.iload_n 1, 1) := by decide +kernel
theorem dX1_force_10 : decode cX1_force 10 = .ok (.putfield 46, 3) := by decide +kernel
theorem dX1_force_13 : decode cX1_force 13 = .ok (.aload_n 0, 1) := by decide +kernel
theorem dX1_force_14 : decode cX1_force 14 = .ok (.iload_n 2, 1) := by decide +kernel
theorem dX1_force_15 : decode cX1_force 15 = .ok (.putfield 49, 3) := by decide +kernel
theorem dX1_force_18 : decode cX1_force 18 = .ok (.return_, 1) := by decide +kernel
set_option maxHeartbeats 4000000 in
set_option maxRecDepth 100000 in
theorem c_X1_force (l : Launch) (D : va_G) (cy : Nat → ClassId) (ad adK adV : Nat → Nat) (M : Mm) (o0 : Nat) (a1 : Int32) (a2 : Int32) (res : Mm × Unit) (h : f_X1_force M o0 a1 a2 = some res) : Met l yX1_force (wU yX1_force cX1_force 3 none) rmX1_force (va_Pc [.ref (ad o0), .int a1, .int a2] (Pre D cy shX ad nX adK adV M)) (va_Qv (fun (M2 : Mm) => M2 = res.1) (Pre D cy shX ad nX adK adV) (Aw ad nX)) 0 0 (Aw ad nX) := by
  refine Met.ofW (cc := cX1_force) (maxL := 3) (ret := none) (by decide) rfl ?_
  intro p e s m args below meth c s₁ B hml hv
  obtain ⟨hargs, hPre⟩ := hv
  have hx := B.exec
  have hb := B.bytes
  have hr := B.returns
  have hts := atoms_spec (ws := wU yX1_force cX1_force 3 none) B.pre
  have hq : ∀ w ∈ gW, w.before args s = true := fun w hw => hts w (List.mem_cons_of_mem _ hw)
  have hcm : ∀ w ∈ gW, w ∈ wU yX1_force cX1_force 3 none := fun w hw => List.mem_cons_of_mem _ hw
  have hown : s.vm.findClass RX1 = some m.cls := findClass_of_methodNamed B.named
  have hlocks := B.notSynchronized
  have hF : CallFix p m c cX1_force 3 s args (wU yX1_force cX1_force 3 none) RX1 := ⟨hx, hb, hml, hown, hts⟩
  have hK := hPre.2.1
  have hZ := hPre.2.2.2
  have hw : Wd D cy shX ad nX (Aw ad nX) s.heap M s.heap [] := ⟨hPre.1, hPre.2.2.1, va_S.rf⟩
  have iw1 : ∀ w ∈ u_ws RX1 TX1 11, w ∈ wU yX1_force cX1_force 3 none := fun w hw => List.mem_cons_of_mem _ (iX1 w hw)
  rw [show entryFrame m args 3 = entryFrame m ([.ref (ad o0), .int a1, .int a2] : List Value).toArray 3 from by rw [hargs]]
  have hl := lv_entry ([.ref (ad o0), .int a1, .int a2]) (n := 3) (Nat.le_of_ble_eq_true rfl)
  rw [lg_entry_eq]
  generalize (lg_sl ([.ref (ad o0), .int a1, .int a2]) ++ List.replicate (3 - (lg_sl ([.ref (ad o0), .int a1, .int a2])).length) Slot.unset).toArray = ls at hl ⊢
  have hl : lv_has ls 3 [(0, .ref (ad o0)), (1, .int a1), (2, .int a2)] := hl
  unfold f_X1_force at h
  refine lv_aload_n hx hb dX1_force_0 rfl (lv_at hl 0 rfl) ?_
  refine lv_aload_n hx hb dX1_force_1 rfl (lv_at hl 0 rfl) ?_
  replace h := gd_some h
  obtain ⟨g1, h⟩ := h
  refine r_getI hx hb hts iw1 hown hK hw o0 5 g1 (by decide) rfl (by decide) rfl (hq _ qw197) (fun _ h9 => h9) dX1_force_2 ?_
  refine r_putI hx hb hts iw1 tyX1 tyX1_ok nmX1 hown hK hw o0 8 g1 (by decide) rfl (by decide) rfl (hq _ qw205) (fun _ h9 => h9) rfl rfl rfl dX1_force_5 (fun H locs hw => ?_)
  replace h := lt_some h
  obtain ⟨M2, eM2, h⟩ := h
  rw [← eM2] at hw
  refine lv_aload_n hx hb dX1_force_8 rfl (lv_at hl 0 rfl) ?_
  refine lv_iload_n hx hb dX1_force_9 rfl (lv_at hl 1 rfl) ?_
  refine r_putI hx hb hts iw1 tyX1 tyX1_ok nmX1 hown hK hw o0 9 g1 (by decide) rfl (by decide) rfl (hq _ qw206) (fun _ h9 => h9) rfl rfl rfl dX1_force_10 (fun H locs hw => ?_)
  replace h := lt_some h
  obtain ⟨M3, eM3, h⟩ := h
  rw [← eM3] at hw
  refine lv_aload_n hx hb dX1_force_13 rfl (lv_at hl 0 rfl) ?_
  refine lv_iload_n hx hb dX1_force_14 rfl (lv_at hl 2 rfl) ?_
  refine r_putI hx hb hts iw1 tyX1 tyX1_ok nmX1 hown hK hw o0 10 g1 (by decide) rfl (by decide) rfl (hq _ qw207) (fun _ h9 => h9) rfl rfl rfl dX1_force_15 (fun H locs hw => ?_)
  replace h := lt_some h
  obtain ⟨M4, eM4, h⟩ := h
  rw [← eM4] at hw
  exact r_vret hx hb hr hlocks hZ hK hw h dX1_force_18
theorem dX1_nextWorthOf_0 : decode cX1_nextWorthOf 0 = .ok (.aload_n 0, 1) := by decide +kernel
theorem dX1_nextWorthOf_1 : decode cX1_nextWorthOf 1 = .ok (.getfield 34, 3) := by decide +kernel
theorem dX1_nextWorthOf_4 : decode cX1_nextWorthOf 4 = .ok (.iconst 1, 1) := by decide +kernel
theorem dX1_nextWorthOf_5 : decode cX1_nextWorthOf 5 = .ok (.iadd, 1) := by decide +kernel
theorem dX1_nextWorthOf_6 : decode cX1_nextWorthOf 6 = .ok (.istore_n 2, 1) := by decide +kernel
theorem dX1_nextWorthOf_7 : decode cX1_nextWorthOf 7 = .ok (.iload_n 2, 1) := by decide +kernel
theorem dX1_nextWorthOf_8 : decode cX1_nextWorthOf 8 = .ok (.aload_n 0, 1) := by decide +kernel
theorem dX1_nextWorthOf_9 : decode cX1_nextWorthOf 9 = .ok (.getfield 31, 3) := by decide +kernel
theorem dX1_nextWorthOf_12 : decode cX1_nextWorthOf 12 = .ok (.if_icmp .ge 32, 3) := by decide +kernel
theorem dX1_nextWorthOf_15 : decode cX1_nextWorthOf 15 = .ok (.aload_n 0, 1) := by decide +kernel
theorem dX1_nextWorthOf_16 : decode cX1_nextWorthOf 16 = .ok (.getfield 19, 3) := by decide +kernel
theorem dX1_nextWorthOf_19 : decode cX1_nextWorthOf 19 = .ok (.iload_n 2, 1) := by decide +kernel
theorem dX1_nextWorthOf_20 : decode cX1_nextWorthOf 20 = .ok (.aaload, 1) := by decide +kernel
theorem dX1_nextWorthOf_21 : decode cX1_nextWorthOf 21 = .ok (.iload_n 1, 1) := by decide +kernel
theorem dX1_nextWorthOf_22 : decode cX1_nextWorthOf 22 = .ok (.invokevirtual 88, 3) := by decide +kernel
theorem dX1_nextWorthOf_25 : decode cX1_nextWorthOf 25 = .ok (.ifCond .eq 13, 3) := by decide +kernel
theorem dX1_nextWorthOf_28 : decode cX1_nextWorthOf 28 = .ok (.aload_n 0, 1) := by decide +kernel
theorem dX1_nextWorthOf_29 : decode cX1_nextWorthOf 29 = .ok (.getfield 19, 3) := by decide +kernel
theorem dX1_nextWorthOf_32 : decode cX1_nextWorthOf 32 = .ok (.iload_n 2, 1) := by decide +kernel
theorem dX1_nextWorthOf_33 : decode cX1_nextWorthOf 33 = .ok (.aaload, 1) := by decide +kernel
theorem dX1_nextWorthOf_34 : decode cX1_nextWorthOf 34 = .ok (.getfield 85, 3) := by decide +kernel
theorem dX1_nextWorthOf_37 : decode cX1_nextWorthOf 37 = .ok (.ireturn, 1) := by decide +kernel
theorem dX1_nextWorthOf_38 : decode cX1_nextWorthOf 38 = .ok (.iinc 2 1, 3) := by decide +kernel
theorem dX1_nextWorthOf_41 : decode cX1_nextWorthOf 41 = .ok (.goto (-34), 3) := by decide +kernel
theorem dX1_nextWorthOf_44 : decode cX1_nextWorthOf 44 = .ok (.iconst 0, 1) := by decide +kernel
theorem dX1_nextWorthOf_45 : decode cX1_nextWorthOf 45 = .ok (.ireturn, 1) := by decide +kernel
set_option maxHeartbeats 4000000 in
set_option maxRecDepth 100000 in
theorem c_X1_nextWorthOf (l : Launch) (D : va_G) (cy : Nat → ClassId) (ad adK adV : Nat → Nat) (M : Mm) (o0 : Nat) (a1 : Int32) (res : Mm × Int32) (h : f_X1_nextWorthOf M o0 a1 = some res) : Met l yX1_nextWorthOf (wU yX1_nextWorthOf cX1_nextWorthOf 3 (some .int)) rmX1_nextWorthOf (va_Pc [.ref (ad o0), .int a1] (Pre D cy shX ad nX adK adV M)) (va_Qi (fun r (M2 : Mm) => r = res.2 ∧ M2 = res.1) (Pre D cy shX ad nX adK adV) (Aw ad nX)) 0 0 (Aw ad nX) := by
  refine Met.ofW (cc := cX1_nextWorthOf) (maxL := 3) (ret := (some .int)) (by decide) rfl ?_
  intro p e s m args below meth c s₁ B hml hv
  obtain ⟨hargs, hPre⟩ := hv
  have hx := B.exec
  have hb := B.bytes
  have hr := B.returns
  have hts := atoms_spec (ws := wU yX1_nextWorthOf cX1_nextWorthOf 3 (some .int)) B.pre
  have hq : ∀ w ∈ gW, w.before args s = true := fun w hw => hts w (List.mem_cons_of_mem _ hw)
  have hcm : ∀ w ∈ gW, w ∈ wU yX1_nextWorthOf cX1_nextWorthOf 3 (some .int) := fun w hw => List.mem_cons_of_mem _ hw
  have hown : s.vm.findClass RX1 = some m.cls := findClass_of_methodNamed B.named
  have hlocks := B.notSynchronized
  have hF : CallFix p m c cX1_nextWorthOf 3 s args (wU yX1_nextWorthOf cX1_nextWorthOf 3 (some .int)) RX1 := ⟨hx, hb, hml, hown, hts⟩
  have hK := hPre.2.1
  have hZ := hPre.2.2.2
  have hw : Wd D cy shX ad nX (Aw ad nX) s.heap M s.heap [] := ⟨hPre.1, hPre.2.2.1, va_S.rf⟩
  have iw0 : ∀ w ∈ u_ws RX0 TX0 9, w ∈ wU yX1_nextWorthOf cX1_nextWorthOf 3 (some .int) := fun w hw => List.mem_cons_of_mem _ (iX0 w hw)
  have iw1 : ∀ w ∈ u_ws RX1 TX1 11, w ∈ wU yX1_nextWorthOf cX1_nextWorthOf 3 (some .int) := fun w hw => List.mem_cons_of_mem _ (iX1 w hw)
  rw [show entryFrame m args 3 = entryFrame m ([.ref (ad o0), .int a1] : List Value).toArray 3 from by rw [hargs]]
  have hl := lv_entry ([.ref (ad o0), .int a1]) (n := 3) (Nat.le_of_ble_eq_true rfl)
  rw [lg_entry_eq]
  generalize (lg_sl ([.ref (ad o0), .int a1]) ++ List.replicate (3 - (lg_sl ([.ref (ad o0), .int a1])).length) Slot.unset).toArray = ls at hl ⊢
  have hl : lv_has ls 3 [(0, .ref (ad o0)), (1, .int a1)] := hl
  have hb7 : ∀ (nn : Nat), ∀ (M : Mm) (x0 : Nat) (x1 : Int32) (x2 : Int32), f_X1_nextWorthOf_b7 nn M x0 x1 x2 = some res → ∀ (H : Heap) (locs : List Loc) (ls : Array Slot), Wd D cy shX ad nX (Aw ad nX) s.heap M H locs → lv_has ls 3 [(0, .ref (ad x0)), (1, .int x1), (2, .int x2)] → W p l e (headSpec (wU yX1_nextWorthOf cX1_nextWorthOf 3 (some .int)) rmX1_nextWorthOf).room s m args below meth c H locs 0 0 (QI D cy shX ad nX adK adV below args s res) (F0 m 7 ls []) := by
    intro nn
    induction nn with
    | zero => intro M x0 x1 x2 h; simp [f_X1_nextWorthOf_b7] at h
    | succ nn ih =>
      intro M x0 x1 x2 h H locs ls hw hl
      unfold f_X1_nextWorthOf_b7 at h
      refine lv_iload_n hx hb dX1_nextWorthOf_7 rfl (lv_at hl 2 rfl) ?_
      refine lv_aload_n hx hb dX1_nextWorthOf_8 rfl (lv_at hl 0 rfl) ?_
      replace h := gd_some h
      obtain ⟨g1, h⟩ := h
      refine r_getI hx hb hts iw1 hown hK hw x0 4 g1 (by decide) rfl (by decide) rfl (hq _ qw193) (fun _ h9 => h9) dX1_nextWorthOf_9 ?_
      refine lv_icmp_ge (tgt := 44) hx hb dX1_nextWorthOf_12 (by decide) (fun c2 => ?_) (fun c2 => ?_)
      · replace h := if_some_t c2 h
        refine lv_iconst (v := (0 : Int32)) hx hb dX1_nextWorthOf_44 (by decide) ?_
        exact r_iret hx hb hr rfl hlocks hZ hK hw h dX1_nextWorthOf_45
      · replace h := if_some_f c2 h
        refine lv_aload_n hx hb dX1_nextWorthOf_15 rfl (lv_at hl 0 rfl) ?_
        replace h := bd_some h
        obtain ⟨q3, eq3, h⟩ := h
        refine r_getR hx hb hts iw1 hown hK hw x0 1 g1 (by decide) rfl (by decide) rfl (hq _ qw184) (fun _ h9 => h9) dX1_nextWorthOf_16 eq3 ?_
        refine lv_iload_n hx hb dX1_nextWorthOf_19 rfl (lv_at hl 2 rfl) ?_
        replace h := gd_some h
        obtain ⟨g4, h⟩ := h
        replace h := bd_some h
        obtain ⟨q5, eq5, h⟩ := h
        refine r_aald hx hb hK hw q3 3 (by decide) rfl g4 dX1_nextWorthOf_20 eq5 ?_
        refine lv_iload_n hx hb dX1_nextWorthOf_21 rfl (lv_at hl 1 rfl) ?_
        replace h := gd_some h
        obtain ⟨g7, h⟩ := h
        replace h := bd_some h
        obtain ⟨r6, er6, h⟩ := h
        refine r_callVi (As := [.int x1]) (rest := []) hF (c_X0_isOf l D cy ad adK adV M q5 x1 r6 er6) (gW_goodV hcm qw402 qw399 qw400 qw401 qw63) hdX0_isOf rfl ⟨Nat.le_of_ble_eq_true rfl, Nat.le_of_ble_eq_true rfl⟩ rfl rfl hZ hK hw g7 (by decide) rfl rfl hl.1 rfl (Nat.le_of_ble_eq_true rfl) ⟨Nat.zero_le _, Nat.zero_le _⟩ dX1_nextWorthOf_22 (fun H locs hw => ?_)
        refine lv_if_eq (tgt := 38) hx hb dX1_nextWorthOf_25 (by decide) (fun c8 => ?_) (fun c8 => ?_)
        · replace h := if_some_t c8 h
          refine lv_iinc (v := x2 + (1 : Int32)) (lv' := [(2, .int (x2 + (1 : Int32))), (0, .ref (ad x0)), (1, .int x1)]) hx hb dX1_nextWorthOf_38 hl (k := 2) rfl (congrArg (fun z => x2 + z) (by decide)) (by decide) rfl (fun ls hl => ?_)
          refine lv_goto (tgt := 7) hx hb dX1_nextWorthOf_41 (by decide) ?_
          exact ih _ _ _ _ h _ _ _ hw (lv_sub hl [1, 2, 0] rfl)
        · replace h := if_some_f c8 h
          refine lv_aload_n hx hb dX1_nextWorthOf_28 rfl (lv_at hl 0 rfl) ?_
          replace h := bd_some h
          obtain ⟨q9, eq9, h⟩ := h
          refine r_getR hx hb hts iw1 hown hK hw x0 1 g1 (by decide) rfl (by decide) rfl (hq _ qw184) (fun _ h9 => h9) dX1_nextWorthOf_29 eq9 ?_
          refine lv_iload_n hx hb dX1_nextWorthOf_32 rfl (lv_at hl 2 rfl) ?_
          replace h := gd_some h
          obtain ⟨g10, h⟩ := h
          replace h := bd_some h
          obtain ⟨q11, eq11, h⟩ := h
          refine r_aald hx hb hK hw q9 3 (by decide) rfl g10 dX1_nextWorthOf_33 eq11 ?_
          replace h := gd_some h
          obtain ⟨g12, h⟩ := h
          refine r_getI hx hb hts iw0 hown hK hw q11 2 g12 (by decide) rfl (by decide) rfl (hq _ qw145) (fun _ h9 => h9) dX1_nextWorthOf_34 ?_
          exact r_iret hx hb hr rfl hlocks hZ hK hw h dX1_nextWorthOf_37
  unfold f_X1_nextWorthOf at h
  refine lv_aload_n hx hb dX1_nextWorthOf_0 rfl (lv_at hl 0 rfl) ?_
  replace h := gd_some h
  obtain ⟨g13, h⟩ := h
  refine r_getI hx hb hts iw1 hown hK hw o0 5 g13 (by decide) rfl (by decide) rfl (hq _ qw197) (fun _ h9 => h9) dX1_nextWorthOf_1 ?_
  refine lv_iconst (v := (1 : Int32)) hx hb dX1_nextWorthOf_4 (by decide) ?_
  refine lv_iadd hx hb dX1_nextWorthOf_5 ?_
  refine lv_istore_n (lv' := [(2, .int ((M.1 o0 5) + (1 : Int32))), (0, .ref (ad o0)), (1, .int a1)]) hx hb dX1_nextWorthOf_6 rfl hl (by decide) rfl (fun ls hl => ?_)
  exact hb7 1000 _ _ _ _ h _ _ _ hw (lv_sub hl [1, 2, 0] rfl)
theorem dX1_effortOf_0 : decode cX1_effortOf 0 = .ok (.aload_n 0, 1) := by decide +kernel
theorem dX1_effortOf_1 : decode cX1_effortOf 1 = .ok (.getfield 43, 3) := by decide +kernel
theorem dX1_effortOf_4 : decode cX1_effortOf 4 = .ok (.aload_n 0, 1) := by decide +kernel
theorem dX1_effortOf_5 : decode cX1_effortOf 5 = .ok (.getfield 34, 3) := by decide +kernel
theorem dX1_effortOf_8 : decode cX1_effortOf 8 = .ok (.if_icmp .ne 16, 3) := by decide +kernel
theorem dX1_effortOf_11 : decode cX1_effortOf 11 = .ok (.aload_n 0, 1) := by decide +kernel
theorem dX1_effortOf_12 : decode cX1_effortOf 12 = .ok (.getfield 46, 3) := by decide +kernel
theorem dX1_effortOf_15 : decode cX1_effortOf 15 = .ok (.iload_n 1, 1) := by decide +kernel
theorem dX1_effortOf_16 : decode cX1_effortOf 16 = .ok (.if_icmp .ne 8, 3) := by decide +kernel
theorem dX1_effortOf_19 : decode cX1_effortOf 19 = .ok (.aload_n 0, 1) := by decide +kernel
theorem dX1_effortOf_20 : decode cX1_effortOf 20 = .ok (.getfield 49, 3) := by decide +kernel
theorem dX1_effortOf_23 : decode cX1_effortOf 23 = .ok (.ireturn, 1) := by decide +kernel
theorem dX1_effortOf_24 : decode cX1_effortOf 24 = .ok (.aload_n 0, 1) := by decide +kernel
theorem dX1_effortOf_25 : decode cX1_effortOf 25 = .ok (.getfield 19, 3) := by decide +kernel
theorem dX1_effortOf_28 : decode cX1_effortOf 28 = .ok (.aload_n 0, 1) := by decide +kernel
theorem dX1_effortOf_29 : decode cX1_effortOf 29 = .ok (.getfield 34, 3) := by decide +kernel
theorem dX1_effortOf_32 : decode cX1_effortOf 32 = .ok (.aaload, 1) := by decide +kernel
theorem dX1_effortOf_33 : decode cX1_effortOf 33 = .ok (.astore_n 2, 1) := by decide +kernel
theorem dX1_effortOf_34 : decode cX1_effortOf 34 = .ok (.aload_n 0, 1) := by decide +kernel
theorem dX1_effortOf_35 : decode cX1_effortOf 35 = .ok (.iload_n 1, 1) := by decide +kernel
theorem dX1_effortOf_36 : decode cX1_effortOf 36 = .ok (.invokevirtual 98, 3) := by decide +kernel
theorem dX1_effortOf_39 : decode cX1_effortOf 39 = .ok (.istore_n 3, 1) := by decide +kernel
theorem dX1_effortOf_40 : decode cX1_effortOf 40 = .ok (.iload_n 3, 1) := by decide +kernel
theorem dX1_effortOf_41 : decode cX1_effortOf 41 = .ok (.ifCond .eq 7, 3) := by decide +kernel
theorem dX1_effortOf_44 : decode cX1_effortOf 44 = .ok (.iconst 1, 1) := by decide +kernel
theorem dX1_effortOf_45 : decode cX1_effortOf 45 = .ok (.goto 4, 3) := by decide +kernel
theorem dX1_effortOf_48 : decode cX1_effortOf 48 = .ok (.iconst 2, 1) := by decide +kernel
theorem dX1_effortOf_49 : decode cX1_effortOf 49 = .ok (.istore 4, 2) := by decide +kernel
theorem dX1_effortOf_51 : decode cX1_effortOf 51 = .ok (.aload_n 0, 1) := by decide +kernel
theorem dX1_effortOf_52 : decode cX1_effortOf 52 = .ok (.getfield 11, 3) := by decide +kernel
theorem dX1_effortOf_55 : decode cX1_effortOf 55 = .ok (.iload_n 1, 1) := by decide +kernel
theorem dX1_effortOf_56 : decode cX1_effortOf 56 = .ok (.aaload, 1) := by decide +kernel
theorem dX1_effortOf_57 : decode cX1_effortOf 57 = .ok (.getfield 70, 3) := by decide +kernel
theorem dX1_effortOf_60 : decode cX1_effortOf 60 = .ok (.tableswitch 143 1 6 #[40, 42, 45, 84, 107, 129], 40) := by decide +kernel
theorem dX1_effortOf_100 : decode cX1_effortOf 100 = .ok (.iconst 3, 1) := by decide +kernel
theorem dX1_effortOf_101 : decode cX1_effortOf 101 = .ok (.ireturn, 1) := by decide +kernel
theorem dX1_effortOf_102 : decode cX1_effortOf 102 = .ok (.iload 4, 2) := by decide +kernel
theorem dX1_effortOf_104 : decode cX1_effortOf 104 = .ok (.ireturn, 1) := by decide +kernel
theorem dX1_effortOf_105 : decode cX1_effortOf 105 = .ok (.iload_n 3, 1) := by decide +kernel
theorem dX1_effortOf_106 : decode cX1_effortOf 106 = .ok (.ifCond .eq 5, 3) := by decide +kernel
theorem dX1_effortOf_109 : decode cX1_effortOf 109 = .ok (.iconst 0, 1) := by decide +kernel
theorem dX1_effortOf_110 : decode cX1_effortOf 110 = .ok (.ireturn, 1) := by decide +kernel
theorem dX1_effortOf_111 : decode cX1_effortOf 111 = .ok (.aload_n 0, 1) := by decide +kernel
theorem dX1_effortOf_112 : decode cX1_effortOf 112 = .ok (.iload_n 1, 1) := by decide +kernel
theorem dX1_effortOf_113 : decode cX1_effortOf 113 = .ok (.aload_n 2, 1) := by decide +kernel
theorem dX1_effortOf_114 : decode cX1_effortOf 114 = .ok (.getfield 79, 3) := by decide +kernel
theorem dX1_effortOf_117 : decode cX1_effortOf 117 = .ok (.if_icmp .ne 10, 3) := by decide +kernel
theorem dX1_effortOf_120 : decode cX1_effortOf 120 = .ok (.aload_n 2, 1) := by decide +kernel
theorem dX1_effortOf_121 : decode cX1_effortOf 121 = .ok (.getfield 82, 3) := by decide +kernel
theorem dX1_effortOf_124 : decode cX1_effortOf 124 = .ok (.goto 7, 3) := by decide +kernel
theorem dX1_effortOf_127 : decode cX1_effortOf 127 = .ok (.aload_n 2, 1) := by decide +kernel
theorem dX1_effortOf_128 : decode cX1_effortOf 128 = .ok (.getfield 79, 3) := by decide +kernel
theorem dX1_effortOf_131 : decode cX1_effortOf 131 = .ok (.invokevirtual 98, 3) := by decide +kernel
theorem dX1_effortOf_134 : decode cX1_effortOf 134 = .ok (.ifCond .eq 7, 3) := by decide +kernel
theorem dX1_effortOf_137 : decode cX1_effortOf 137 = .ok (.iconst 3, 1) := by decide +kernel
theorem dX1_effortOf_138 : decode cX1_effortOf 138 = .ok (.goto 5, 3) := by decide +kernel
theorem dX1_effortOf_141 : decode cX1_effortOf 141 = .ok (.iload 4, 2) := by decide +kernel
theorem dX1_effortOf_143 : decode cX1_effortOf 143 = .ok (.ireturn, 1) := by decide +kernel
theorem dX1_effortOf_144 : decode cX1_effortOf 144 = .ok (.iload_n 3, 1) := by decide +kernel
theorem dX1_effortOf_145 : decode cX1_effortOf 145 = .ok (.ifCond .ne 19, 3) := by decide +kernel
theorem dX1_effortOf_148 : decode cX1_effortOf 148 = .ok (.aload_n 0, 1) := by decide +kernel
theorem dX1_effortOf_149 : decode cX1_effortOf 149 = .ok (.iload_n 1, 1) := by decide +kernel
theorem dX1_effortOf_150 : decode cX1_effortOf 150 = .ok (.invokevirtual 101, 3) := by decide +kernel
theorem dX1_effortOf_153 : decode cX1_effortOf 153 = .ok (.aload_n 2, 1) := by decide +kernel
theorem dX1_effortOf_154 : decode cX1_effortOf 154 = .ok (.getfield 85, 3) := by decide +kernel
theorem dX1_effortOf_157 : decode cX1_effortOf 157 = .ok (.if_icmp .le 7, 3) := by decide +kernel
theorem dX1_effortOf_160 : decode cX1_effortOf 160 = .ok (.iconst 0, 1) := by decide +kernel
theorem dX1_effortOf_161 : decode cX1_effortOf 161 = .ok (.goto 5, 3) := by decide +kernel
theorem dX1_effortOf_164 : decode cX1_effortOf 164 = .ok (.iload 4, 2) := by decide +kernel
theorem dX1_effortOf_166 : decode cX1_effortOf 166 = .ok (.ireturn, 1) := by decide +kernel
theorem dX1_effortOf_167 : decode cX1_effortOf 167 = .ok (.aload_n 2, 1) := by decide +kernel
theorem dX1_effortOf_168 : decode cX1_effortOf 168 = .ok (.getfield 85, 3) := by decide +kernel
theorem dX1_effortOf_171 : decode cX1_effortOf 171 = .ok (.aload_n 0, 1) := by decide +kernel
theorem dX1_effortOf_172 : decode cX1_effortOf 172 = .ok (.getfield 11, 3) := by decide +kernel
theorem dX1_effortOf_175 : decode cX1_effortOf 175 = .ok (.iload_n 1, 1) := by decide +kernel
theorem dX1_effortOf_176 : decode cX1_effortOf 176 = .ok (.aaload, 1) := by decide +kernel
theorem dX1_effortOf_177 : decode cX1_effortOf 177 = .ok (.getfield 76, 3) := by decide +kernel
theorem dX1_effortOf_180 : decode cX1_effortOf 180 = .ok (.if_icmp .ge 7, 3) := by decide +kernel
theorem dX1_effortOf_183 : decode cX1_effortOf 183 = .ok (.iconst 0, 1) := by decide +kernel
theorem dX1_effortOf_184 : decode cX1_effortOf 184 = .ok (.goto 4, 3) := by decide +kernel
theorem dX1_effortOf_187 : decode cX1_effortOf 187 = .ok (.iconst 3, 1) := by decide +kernel
theorem dX1_effortOf_188 : decode cX1_effortOf 188 = .ok (.ireturn, 1) := by decide +kernel
theorem dX1_effortOf_189 : decode cX1_effortOf 189 = .ok (.aload_n 0, 1) := by decide +kernel
theorem dX1_effortOf_190 : decode cX1_effortOf 190 = .ok (.getfield 11, 3) := by decide +kernel
theorem dX1_effortOf_193 : decode cX1_effortOf 193 = .ok (.iload_n 1, 1) := by decide +kernel
theorem dX1_effortOf_194 : decode cX1_effortOf 194 = .ok (.aaload, 1) := by decide +kernel
theorem dX1_effortOf_195 : decode cX1_effortOf 195 = .ok (.getfield 76, 3) := by decide +kernel
theorem dX1_effortOf_198 : decode cX1_effortOf 198 = .ok (.iconst 3, 1) := by decide +kernel
theorem dX1_effortOf_199 : decode cX1_effortOf 199 = .ok (.invokestatic 105, 3) := by decide +kernel
theorem dX1_effortOf_202 : decode cX1_effortOf 202 = .ok (.ireturn, 1) := by decide +kernel
theorem dX1_effortOf_203 : decode cX1_effortOf 203 = .ok (.iconst 2, 1) := by decide +kernel
theorem dX1_effortOf_204 : decode cX1_effortOf 204 = .ok (.ireturn, 1) := by decide +kernel
set_option maxHeartbeats 4000000 in
set_option maxRecDepth 100000 in
theorem c_X1_effortOf (l : Launch) (D : va_G) (cy : Nat → ClassId) (ad adK adV : Nat → Nat) (M : Mm) (o0 : Nat) (a1 : Int32) (res : Mm × Int32) (h : f_X1_effortOf M o0 a1 = some res) : Met l yX1_effortOf (wU yX1_effortOf cX1_effortOf 5 (some .int)) rmX1_effortOf (va_Pc [.ref (ad o0), .int a1] (Pre D cy shX ad nX adK adV M)) (va_Qi (fun r (M2 : Mm) => r = res.2 ∧ M2 = res.1) (Pre D cy shX ad nX adK adV) (Aw ad nX)) 0 0 (Aw ad nX) := by
  refine Met.ofW (cc := cX1_effortOf) (maxL := 5) (ret := (some .int)) (by decide) rfl ?_
  intro p e s m args below meth c s₁ B hml hv
  obtain ⟨hargs, hPre⟩ := hv
  have hx := B.exec
  have hb := B.bytes
  have hr := B.returns
  have hts := atoms_spec (ws := wU yX1_effortOf cX1_effortOf 5 (some .int)) B.pre
  have hq : ∀ w ∈ gW, w.before args s = true := fun w hw => hts w (List.mem_cons_of_mem _ hw)
  have hcm : ∀ w ∈ gW, w ∈ wU yX1_effortOf cX1_effortOf 5 (some .int) := fun w hw => List.mem_cons_of_mem _ hw
  have hown : s.vm.findClass RX1 = some m.cls := findClass_of_methodNamed B.named
  have hlocks := B.notSynchronized
  have hF : CallFix p m c cX1_effortOf 5 s args (wU yX1_effortOf cX1_effortOf 5 (some .int)) RX1 := ⟨hx, hb, hml, hown, hts⟩
  have hK := hPre.2.1
  have hZ := hPre.2.2.2
  have hw : Wd D cy shX ad nX (Aw ad nX) s.heap M s.heap [] := ⟨hPre.1, hPre.2.2.1, va_S.rf⟩
  have iw0 : ∀ w ∈ u_ws RX0 TX0 9, w ∈ wU yX1_effortOf cX1_effortOf 5 (some .int) := fun w hw => List.mem_cons_of_mem _ (iX0 w hw)
  have iw1 : ∀ w ∈ u_ws RX1 TX1 11, w ∈ wU yX1_effortOf cX1_effortOf 5 (some .int) := fun w hw => List.mem_cons_of_mem _ (iX1 w hw)
  have iw3 : ∀ w ∈ u_ws RX3 TX3 6, w ∈ wU yX1_effortOf cX1_effortOf 5 (some .int) := fun w hw => List.mem_cons_of_mem _ (iX3 w hw)
  rw [show entryFrame m args 5 = entryFrame m ([.ref (ad o0), .int a1] : List Value).toArray 5 from by rw [hargs]]
  have hl := lv_entry ([.ref (ad o0), .int a1]) (n := 5) (Nat.le_of_ble_eq_true rfl)
  rw [lg_entry_eq]
  generalize (lg_sl ([.ref (ad o0), .int a1]) ++ List.replicate (5 - (lg_sl ([.ref (ad o0), .int a1])).length) Slot.unset).toArray = ls at hl ⊢
  have hl : lv_has ls 5 [(0, .ref (ad o0)), (1, .int a1)] := hl
  have hb131 : ∀ (M : Mm) (x4 : Int32) (t0 : Nat) (t1 : Int32), f_X1_effortOf_b131 M x4 t0 t1 = some res → ∀ (H : Heap) (locs : List Loc) (ls : Array Slot), Wd D cy shX ad nX (Aw ad nX) s.heap M H locs → lv_has ls 5 [(4, .int x4)] → W p l e (headSpec (wU yX1_effortOf cX1_effortOf 5 (some .int)) rmX1_effortOf).room s m args below meth c H locs 0 0 (QI D cy shX ad nX adK adV below args s res) (F0 m 131 ls [.int t1, .ref (ad t0)]) := by
    intro M x4 t0 t1 h H locs ls hw hl
    unfold f_X1_effortOf_b131 at h
    replace h := gd_some h
    obtain ⟨g2, h⟩ := h
    replace h := bd_some h
    obtain ⟨r1, er1, h⟩ := h
    refine r_callVi (As := [.int t1]) (rest := []) hF (c_X1_isBarred l D cy ad adK adV M t0 t1 r1 er1) (gW_goodV hcm qw394 qw596 qw392 qw393 qw61) hdX1_isBarred rfl ⟨Nat.le_of_ble_eq_true rfl, Nat.le_of_ble_eq_true rfl⟩ rfl rfl hZ hK hw g2 (by decide) rfl rfl hl.1 rfl (Nat.le_of_ble_eq_true rfl) ⟨Nat.zero_le _, Nat.zero_le _⟩ dX1_effortOf_131 (fun H locs hw => ?_)
    refine lv_if_eq (tgt := 141) hx hb dX1_effortOf_134 (by decide) (fun c3 => ?_) (fun c3 => ?_)
    · replace h := if_some_t c3 h
      refine lv_iload hx hb dX1_effortOf_141 (lv_at hl 0 rfl) ?_
      exact r_iret hx hb hr rfl hlocks hZ hK hw h dX1_effortOf_143
    · replace h := if_some_f c3 h
      refine lv_iconst (v := (3 : Int32)) hx hb dX1_effortOf_137 (by decide) ?_
      refine lv_goto (tgt := 143) hx hb dX1_effortOf_138 (by decide) ?_
      exact r_iret hx hb hr rfl hlocks hZ hK hw h dX1_effortOf_143
  have hb49 : ∀ (M : Mm) (x0 : Nat) (x1 : Int32) (x2 : Nat) (x3 : Int32) (t0 : Int32), f_X1_effortOf_b49 M x0 x1 x2 x3 t0 = some res → ∀ (H : Heap) (locs : List Loc) (ls : Array Slot), Wd D cy shX ad nX (Aw ad nX) s.heap M H locs → lv_has ls 5 [(0, .ref (ad x0)), (1, .int x1), (2, .ref (ad x2)), (3, .int x3)] → W p l e (headSpec (wU yX1_effortOf cX1_effortOf 5 (some .int)) rmX1_effortOf).room s m args below meth c H locs 0 0 (QI D cy shX ad nX adK adV below args s res) (F0 m 49 ls [.int t0]) := by
    intro M x0 x1 x2 x3 t0 h H locs ls hw hl
    unfold f_X1_effortOf_b49 at h
    refine lv_istore (lv' := [(4, .int t0), (0, .ref (ad x0)), (1, .int x1), (2, .ref (ad x2)), (3, .int x3)]) hx hb dX1_effortOf_49 hl (by decide) rfl (fun ls hl => ?_)
    refine lv_aload_n hx hb dX1_effortOf_51 rfl (lv_at hl 1 rfl) ?_
    replace h := gd_some h
    obtain ⟨g4, h⟩ := h
    replace h := bd_some h
    obtain ⟨q5, eq5, h⟩ := h
    refine r_getR hx hb hts iw1 hown hK hw x0 0 g4 (by decide) rfl (by decide) rfl (hq _ qw181) (fun _ h9 => h9) dX1_effortOf_52 eq5 ?_
    refine lv_iload_n hx hb dX1_effortOf_55 rfl (lv_at hl 2 rfl) ?_
    replace h := gd_some h
    obtain ⟨g6, h⟩ := h
    replace h := bd_some h
    obtain ⟨q7, eq7, h⟩ := h
    refine r_aald hx hb hK hw q5 2 (by decide) rfl g6 dX1_effortOf_56 eq7 ?_
    replace h := gd_some h
    obtain ⟨g8, h⟩ := h
    refine r_getI hx hb hts iw3 hown hK hw q7 0 g8 (by decide) rfl (by decide) rfl (hq _ qw99) (fun _ h9 => h9) dX1_effortOf_57 ?_
    by_cases s9 : M.1 q7 0 = 1
    · replace h := if_some_t s9 h
      refine lv_tableIn (off := 40) (tgt := 100) hx hb dX1_effortOf_60 (by rw [s9]; decide) (by rw [s9]; decide) (by rw [s9]; decide) (by decide) ?_
      refine lv_iconst (v := (3 : Int32)) hx hb dX1_effortOf_100 (by decide) ?_
      exact r_iret hx hb hr rfl hlocks hZ hK hw h dX1_effortOf_101
    replace h := if_some_f s9 h
    by_cases s10 : M.1 q7 0 = 2
    · replace h := if_some_t s10 h
      refine lv_tableIn (off := 42) (tgt := 102) hx hb dX1_effortOf_60 (by rw [s10]; decide) (by rw [s10]; decide) (by rw [s10]; decide) (by decide) ?_
      refine lv_iload hx hb dX1_effortOf_102 (lv_at hl 0 rfl) ?_
      exact r_iret hx hb hr rfl hlocks hZ hK hw h dX1_effortOf_104
    replace h := if_some_f s10 h
    by_cases s11 : M.1 q7 0 = 3
    · replace h := if_some_t s11 h
      refine lv_tableIn (off := 45) (tgt := 105) hx hb dX1_effortOf_60 (by rw [s11]; decide) (by rw [s11]; decide) (by rw [s11]; decide) (by decide) ?_
      refine lv_iload_n hx hb dX1_effortOf_105 rfl (lv_at hl 4 rfl) ?_
      refine lv_if_eq (tgt := 111) hx hb dX1_effortOf_106 (by decide) (fun c12 => ?_) (fun c12 => ?_)
      · replace h := if_some_t c12 h
        refine lv_aload_n hx hb dX1_effortOf_111 rfl (lv_at hl 1 rfl) ?_
        refine lv_iload_n hx hb dX1_effortOf_112 rfl (lv_at hl 2 rfl) ?_
        refine lv_aload_n hx hb dX1_effortOf_113 rfl (lv_at hl 3 rfl) ?_
        replace h := gd_some h
        obtain ⟨g13, h⟩ := h
        refine r_getI hx hb hts iw0 hown hK hw x2 0 g13 (by decide) rfl (by decide) rfl (hq _ qw137) (fun _ h9 => h9) dX1_effortOf_114 ?_
        refine lv_icmp_ne (tgt := 127) hx hb dX1_effortOf_117 (by decide) (fun c14 => ?_) (fun c14 => ?_)
        · replace h := if_some_f c14 h
          refine lv_aload_n hx hb dX1_effortOf_127 rfl (lv_at hl 3 rfl) ?_
          refine r_getI hx hb hts iw0 hown hK hw x2 0 g13 (by decide) rfl (by decide) rfl (hq _ qw137) (fun _ h9 => h9) dX1_effortOf_128 ?_
          exact hb131 _ _ _ _ h _ _ _ hw (lv_sub hl [0] rfl)
        · replace h := if_some_t c14 h
          refine lv_aload_n hx hb dX1_effortOf_120 rfl (lv_at hl 3 rfl) ?_
          refine r_getI hx hb hts iw0 hown hK hw x2 1 g13 (by decide) rfl (by decide) rfl (hq _ qw141) (fun _ h9 => h9) dX1_effortOf_121 ?_
          refine lv_goto (tgt := 131) hx hb dX1_effortOf_124 (by decide) ?_
          exact hb131 _ _ _ _ h _ _ _ hw (lv_sub hl [0] rfl)
      · replace h := if_some_f c12 h
        refine lv_iconst (v := (0 : Int32)) hx hb dX1_effortOf_109 (by decide) ?_
        exact r_iret hx hb hr rfl hlocks hZ hK hw h dX1_effortOf_110
    replace h := if_some_f s11 h
    by_cases s15 : M.1 q7 0 = 4
    · replace h := if_some_t s15 h
      refine lv_tableIn (off := 84) (tgt := 144) hx hb dX1_effortOf_60 (by rw [s15]; decide) (by rw [s15]; decide) (by rw [s15]; decide) (by decide) ?_
      refine lv_iload_n hx hb dX1_effortOf_144 rfl (lv_at hl 4 rfl) ?_
      refine lv_if_ne (tgt := 164) hx hb dX1_effortOf_145 (by decide) (fun c16 => ?_) (fun c16 => ?_)
      · replace h := if_some_f c16 h
        refine lv_iload hx hb dX1_effortOf_164 (lv_at hl 0 rfl) ?_
        exact r_iret hx hb hr rfl hlocks hZ hK hw h dX1_effortOf_166
      · replace h := if_some_t c16 h
        refine lv_aload_n hx hb dX1_effortOf_148 rfl (lv_at hl 1 rfl) ?_
        refine lv_iload_n hx hb dX1_effortOf_149 rfl (lv_at hl 2 rfl) ?_
        replace h := bd_some h
        obtain ⟨r17, er17, h⟩ := h
        refine r_callVi (As := [.int x1]) (rest := []) hF (c_X1_nextWorthOf l D cy ad adK adV M x0 x1 r17 er17) (gW_goodV hcm qw600 qw597 qw598 qw599 qw61) hdX1_nextWorthOf rfl ⟨Nat.le_of_ble_eq_true rfl, Nat.le_of_ble_eq_true rfl⟩ rfl rfl hZ hK hw g4 (by decide) rfl rfl hl.1 rfl (Nat.le_of_ble_eq_true rfl) ⟨Nat.zero_le _, Nat.zero_le _⟩ dX1_effortOf_150 (fun H locs hw => ?_)
        refine lv_aload_n hx hb dX1_effortOf_153 rfl (lv_at hl 3 rfl) ?_
        replace h := gd_some h
        obtain ⟨g18, h⟩ := h
        refine r_getI hx hb hts iw0 hown hK hw x2 2 g18 (by decide) rfl (by decide) rfl (hq _ qw145) (fun _ h9 => h9) dX1_effortOf_154 ?_
        refine lv_icmp_le (tgt := 164) hx hb dX1_effortOf_157 (by decide) (fun c19 => ?_) (fun c19 => ?_)
        · replace h := if_some_t c19 h
          refine lv_iload hx hb dX1_effortOf_164 (lv_at hl 0 rfl) ?_
          exact r_iret hx hb hr rfl hlocks hZ hK hw h dX1_effortOf_166
        · replace h := if_some_f c19 h
          refine lv_iconst (v := (0 : Int32)) hx hb dX1_effortOf_160 (by decide) ?_
          refine lv_goto (tgt := 166) hx hb dX1_effortOf_161 (by decide) ?_
          exact r_iret hx hb hr rfl hlocks hZ hK hw h dX1_effortOf_166
    replace h := if_some_f s15 h
    by_cases s20 : M.1 q7 0 = 5
    · replace h := if_some_t s20 h
      refine lv_tableIn (off := 107) (tgt := 167) hx hb dX1_effortOf_60 (by rw [s20]; decide) (by rw [s20]; decide) (by rw [s20]; decide) (by decide) ?_
      refine lv_aload_n hx hb dX1_effortOf_167 rfl (lv_at hl 3 rfl) ?_
      replace h := gd_some h
      obtain ⟨g21, h⟩ := h
      refine r_getI hx hb hts iw0 hown hK hw x2 2 g21 (by decide) rfl (by decide) rfl (hq _ qw145) (fun _ h9 => h9) dX1_effortOf_168 ?_
      refine lv_aload_n hx hb dX1_effortOf_171 rfl (lv_at hl 1 rfl) ?_
      replace h := bd_some h
      obtain ⟨q22, eq22, h⟩ := h
      refine r_getR hx hb hts iw1 hown hK hw x0 0 g4 (by decide) rfl (by decide) rfl (hq _ qw181) (fun _ h9 => h9) dX1_effortOf_172 eq22 ?_
      refine lv_iload_n hx hb dX1_effortOf_175 rfl (lv_at hl 2 rfl) ?_
      replace h := gd_some h
      obtain ⟨g23, h⟩ := h
      replace h := bd_some h
      obtain ⟨q24, eq24, h⟩ := h
      refine r_aald hx hb hK hw q22 2 (by decide) rfl g23 dX1_effortOf_176 eq24 ?_
      replace h := gd_some h
      obtain ⟨g25, h⟩ := h
      refine r_getI hx hb hts iw3 hown hK hw q24 2 g25 (by decide) rfl (by decide) rfl (hq _ qw105) (fun _ h9 => h9) dX1_effortOf_177 ?_
      refine lv_icmp_ge (tgt := 187) hx hb dX1_effortOf_180 (by decide) (fun c26 => ?_) (fun c26 => ?_)
      · replace h := if_some_t c26 h
        refine lv_iconst (v := (3 : Int32)) hx hb dX1_effortOf_187 (by decide) ?_
        exact r_iret hx hb hr rfl hlocks hZ hK hw h dX1_effortOf_188
      · replace h := if_some_f c26 h
        refine lv_iconst (v := (0 : Int32)) hx hb dX1_effortOf_183 (by decide) ?_
        refine lv_goto (tgt := 188) hx hb dX1_effortOf_184 (by decide) ?_
        exact r_iret hx hb hr rfl hlocks hZ hK hw h dX1_effortOf_188
    replace h := if_some_f s20 h
    by_cases s27 : M.1 q7 0 = 6
    · replace h := if_some_t s27 h
      refine lv_tableIn (off := 129) (tgt := 189) hx hb dX1_effortOf_60 (by rw [s27]; decide) (by rw [s27]; decide) (by rw [s27]; decide) (by decide) ?_
      refine lv_aload_n hx hb dX1_effortOf_189 rfl (lv_at hl 1 rfl) ?_
      replace h := bd_some h
      obtain ⟨q28, eq28, h⟩ := h
      refine r_getR hx hb hts iw1 hown hK hw x0 0 g4 (by decide) rfl (by decide) rfl (hq _ qw181) (fun _ h9 => h9) dX1_effortOf_190 eq28 ?_
      refine lv_iload_n hx hb dX1_effortOf_193 rfl (lv_at hl 2 rfl) ?_
      replace h := gd_some h
      obtain ⟨g29, h⟩ := h
      replace h := bd_some h
      obtain ⟨q30, eq30, h⟩ := h
      refine r_aald hx hb hK hw q28 2 (by decide) rfl g29 dX1_effortOf_194 eq30 ?_
      replace h := gd_some h
      obtain ⟨g31, h⟩ := h
      refine r_getI hx hb hts iw3 hown hK hw q30 2 g31 (by decide) rfl (by decide) rfl (hq _ qw105) (fun _ h9 => h9) dX1_effortOf_195 ?_
      refine lv_iconst (v := (3 : Int32)) hx hb dX1_effortOf_198 (by decide) ?_
      refine va_mmin hx hb (hml.trans hl.1.symm) hown (hq _ qw601) (hq _ qw488) (hq _ qw69) (hq _ qw489) (Nat.le_of_ble_eq_true rfl) (Nat.le_of_ble_eq_true rfl) (Nat.zero_le _) (Nat.zero_le _) dX1_effortOf_199 ?_
      exact r_iret hx hb hr rfl hlocks hZ hK hw h dX1_effortOf_202
    replace h := if_some_f s27 h
    have hout32 : (M.1 q7 0).toInt < 1 ∨ 6 < (M.1 q7 0).toInt := by
      refine tsw_out (fun cz h1 h2 => ?_)
      rcases (show cz = 1 ∨ cz = 2 ∨ cz = 3 ∨ cz = 4 ∨ cz = 5 ∨ cz = 6 by omega) with rfl | rfl | rfl | rfl | rfl | rfl
      · exact fun e9 => s9 (e9.trans (by decide))
      · exact fun e9 => s10 (e9.trans (by decide))
      · exact fun e9 => s11 (e9.trans (by decide))
      · exact fun e9 => s15 (e9.trans (by decide))
      · exact fun e9 => s20 (e9.trans (by decide))
      · exact fun e9 => s27 (e9.trans (by decide))
    refine lv_tableOut (tgt := 203) hx hb dX1_effortOf_60 hout32 (by decide) ?_
    refine lv_iconst (v := (2 : Int32)) hx hb dX1_effortOf_203 (by decide) ?_
    exact r_iret hx hb hr rfl hlocks hZ hK hw h dX1_effortOf_204
  have hb24 : ∀ (M : Mm) (x0 : Nat) (x1 : Int32), f_X1_effortOf_b24 M x0 x1 = some res → ∀ (H : Heap) (locs : List Loc) (ls : Array Slot), Wd D cy shX ad nX (Aw ad nX) s.heap M H locs → lv_has ls 5 [(0, .ref (ad x0)), (1, .int x1)] → W p l e (headSpec (wU yX1_effortOf cX1_effortOf 5 (some .int)) rmX1_effortOf).room s m args below meth c H locs 0 0 (QI D cy shX ad nX adK adV below args s res) (F0 m 24 ls []) := by
    intro M x0 x1 h H locs ls hw hl
    unfold f_X1_effortOf_b24 at h
    refine lv_aload_n hx hb dX1_effortOf_24 rfl (lv_at hl 0 rfl) ?_
    replace h := gd_some h
    obtain ⟨g33, h⟩ := h
    replace h := bd_some h
    obtain ⟨q34, eq34, h⟩ := h
    refine r_getR hx hb hts iw1 hown hK hw x0 1 g33 (by decide) rfl (by decide) rfl (hq _ qw184) (fun _ h9 => h9) dX1_effortOf_25 eq34 ?_
    refine lv_aload_n hx hb dX1_effortOf_28 rfl (lv_at hl 0 rfl) ?_
    refine r_getI hx hb hts iw1 hown hK hw x0 5 g33 (by decide) rfl (by decide) rfl (hq _ qw197) (fun _ h9 => h9) dX1_effortOf_29 ?_
    replace h := gd_some h
    obtain ⟨g35, h⟩ := h
    replace h := bd_some h
    obtain ⟨q36, eq36, h⟩ := h
    refine r_aald hx hb hK hw q34 3 (by decide) rfl g35 dX1_effortOf_32 eq36 ?_
    refine lv_astore_n (lv' := [(2, .ref (ad q36)), (0, .ref (ad x0)), (1, .int x1)]) hx hb dX1_effortOf_33 rfl hl (by decide) rfl (fun ls hl => ?_)
    refine lv_aload_n hx hb dX1_effortOf_34 rfl (lv_at hl 1 rfl) ?_
    refine lv_iload_n hx hb dX1_effortOf_35 rfl (lv_at hl 2 rfl) ?_
    replace h := bd_some h
    obtain ⟨r37, er37, h⟩ := h
    refine r_callVi (As := [.int x1]) (rest := []) hF (c_X1_isBarred l D cy ad adK adV M x0 x1 r37 er37) (gW_goodV hcm qw394 qw596 qw392 qw393 qw61) hdX1_isBarred rfl ⟨Nat.le_of_ble_eq_true rfl, Nat.le_of_ble_eq_true rfl⟩ rfl rfl hZ hK hw g33 (by decide) rfl rfl hl.1 rfl (Nat.le_of_ble_eq_true rfl) ⟨Nat.zero_le _, Nat.zero_le _⟩ dX1_effortOf_36 (fun H locs hw => ?_)
    refine lv_istore_n (lv' := [(3, .int r37.2), (2, .ref (ad q36)), (0, .ref (ad x0)), (1, .int x1)]) hx hb dX1_effortOf_39 rfl hl (by decide) rfl (fun ls hl => ?_)
    refine lv_iload_n hx hb dX1_effortOf_40 rfl (lv_at hl 0 rfl) ?_
    refine lv_if_eq (tgt := 48) hx hb dX1_effortOf_41 (by decide) (fun c38 => ?_) (fun c38 => ?_)
    · replace h := if_some_t c38 h
      refine lv_iconst (v := (2 : Int32)) hx hb dX1_effortOf_48 (by decide) ?_
      exact hb49 _ _ _ _ _ _ h _ _ _ hw (lv_sub hl [2, 3, 1, 0] rfl)
    · replace h := if_some_f c38 h
      refine lv_iconst (v := (1 : Int32)) hx hb dX1_effortOf_44 (by decide) ?_
      refine lv_goto (tgt := 49) hx hb dX1_effortOf_45 (by decide) ?_
      exact hb49 _ _ _ _ _ _ h _ _ _ hw (lv_sub hl [2, 3, 1, 0] rfl)
  unfold f_X1_effortOf at h
  refine lv_aload_n hx hb dX1_effortOf_0 rfl (lv_at hl 0 rfl) ?_
  replace h := gd_some h
  obtain ⟨g39, h⟩ := h
  refine r_getI hx hb hts iw1 hown hK hw o0 8 g39 (by decide) rfl (by decide) rfl (hq _ qw205) (fun _ h9 => h9) dX1_effortOf_1 ?_
  refine lv_aload_n hx hb dX1_effortOf_4 rfl (lv_at hl 0 rfl) ?_
  refine r_getI hx hb hts iw1 hown hK hw o0 5 g39 (by decide) rfl (by decide) rfl (hq _ qw197) (fun _ h9 => h9) dX1_effortOf_5 ?_
  refine lv_icmp_ne (tgt := 24) hx hb dX1_effortOf_8 (by decide) (fun c40 => ?_) (fun c40 => ?_)
  · replace h := if_some_f c40 h
    exact hb24 _ _ _ h _ _ _ hw (lv_sub hl [0, 1] rfl)
  · replace h := if_some_t c40 h
    refine lv_aload_n hx hb dX1_effortOf_11 rfl (lv_at hl 0 rfl) ?_
    refine r_getI hx hb hts iw1 hown hK hw o0 9 g39 (by decide) rfl (by decide) rfl (hq _ qw206) (fun _ h9 => h9) dX1_effortOf_12 ?_
    refine lv_iload_n hx hb dX1_effortOf_15 rfl (lv_at hl 1 rfl) ?_
    refine lv_icmp_ne (tgt := 24) hx hb dX1_effortOf_16 (by decide) (fun c41 => ?_) (fun c41 => ?_)
    · replace h := if_some_f c41 h
      exact hb24 _ _ _ h _ _ _ hw (lv_sub hl [0, 1] rfl)
    · replace h := if_some_t c41 h
      refine lv_aload_n hx hb dX1_effortOf_19 rfl (lv_at hl 0 rfl) ?_
      refine r_getI hx hb hts iw1 hown hK hw o0 10 g39 (by decide) rfl (by decide) rfl (hq _ qw207) (fun _ h9 => h9) dX1_effortOf_20 ?_
      exact r_iret hx hb hr rfl hlocks hZ hK hw h dX1_effortOf_23
theorem dX1_forceOf_0 : decode cX1_forceOf 0 = .ok (.aload_n 0, 1) := by decide +kernel
theorem dX1_forceOf_1 : decode cX1_forceOf 1 = .ok (.getfield 11, 3) := by decide +kernel
theorem dX1_forceOf_4 : decode cX1_forceOf 4 = .ok (.iload_n 1, 1) := by decide +kernel
theorem dX1_forceOf_5 : decode cX1_forceOf 5 = .ok (.aaload, 1) := by decide +kernel
theorem dX1_forceOf_6 : decode cX1_forceOf 6 = .ok (.getfield 73, 3) := by decide +kernel
theorem dX1_forceOf_9 : decode cX1_forceOf 9 = .ok (.aload_n 0, 1) := by decide +kernel
theorem dX1_forceOf_10 : decode cX1_forceOf 10 = .ok (.getfield 11, 3) := by decide +kernel
theorem dX1_forceOf_13 : decode cX1_forceOf 13 = .ok (.iload_n 1, 1) := by decide +kernel
theorem dX1_forceOf_14 : decode cX1_forceOf 14 = .ok (.aaload, 1) := by decide +kernel
theorem dX1_forceOf_15 : decode cX1_forceOf 15 = .ok (.getfield 111, 3) := by decide +kernel
theorem dX1_forceOf_18 : decode cX1_forceOf 18 = .ok (.ifCond .eq 7, 3) := by decide +kernel
theorem dX1_forceOf_21 : decode cX1_forceOf 21 = .ok (.iconst 1, 1) := by decide +kernel
theorem dX1_forceOf_22 : decode cX1_forceOf 22 = .ok (.goto 4, 3) := by decide +kernel
theorem dX1_forceOf_25 : decode cX1_forceOf 25 = .ok (.iconst 0, 1) := by decide +kernel
theorem dX1_forceOf_26 : decode cX1_forceOf 26 = .ok (.isub, 1) := by decide +kernel
theorem dX1_forceOf_27 : decode cX1_forceOf 27 = .ok (.istore_n 3, 1) := by decide +kernel
theorem dX1_forceOf_28 : decode cX1_forceOf 28 = .ok (.iload_n 3, 1) := by decide +kernel
theorem dX1_forceOf_29 : decode cX1_forceOf 29 = .ok (.iconst 1, 1) := by decide +kernel
theorem dX1_forceOf_30 : decode cX1_forceOf 30 = .ok (.invokestatic 115, 3) := by decide +kernel
theorem dX1_forceOf_33 : decode cX1_forceOf 33 = .ok (.iload_n 2, 1) := by decide +kernel
theorem dX1_forceOf_34 : decode cX1_forceOf 34 = .ok (.imul, 1) := by decide +kernel
theorem dX1_forceOf_35 : decode cX1_forceOf 35 = .ok (.ireturn, 1) := by decide +kernel
set_option maxHeartbeats 4000000 in
set_option maxRecDepth 100000 in
theorem c_X1_forceOf (l : Launch) (D : va_G) (cy : Nat → ClassId) (ad adK adV : Nat → Nat) (M : Mm) (o0 : Nat) (a1 : Int32) (a2 : Int32) (res : Mm × Int32) (h : f_X1_forceOf M o0 a1 a2 = some res) : Met l yX1_forceOf (wU yX1_forceOf cX1_forceOf 4 (some .int)) rmX1_forceOf (va_Pc [.ref (ad o0), .int a1, .int a2] (Pre D cy shX ad nX adK adV M)) (va_Qi (fun r (M2 : Mm) => r = res.2 ∧ M2 = res.1) (Pre D cy shX ad nX adK adV) (Aw ad nX)) 0 0 (Aw ad nX) := by
  refine Met.ofW (cc := cX1_forceOf) (maxL := 4) (ret := (some .int)) (by decide) rfl ?_
  intro p e s m args below meth c s₁ B hml hv
  obtain ⟨hargs, hPre⟩ := hv
  have hx := B.exec
  have hb := B.bytes
  have hr := B.returns
  have hts := atoms_spec (ws := wU yX1_forceOf cX1_forceOf 4 (some .int)) B.pre
  have hq : ∀ w ∈ gW, w.before args s = true := fun w hw => hts w (List.mem_cons_of_mem _ hw)
  have hcm : ∀ w ∈ gW, w ∈ wU yX1_forceOf cX1_forceOf 4 (some .int) := fun w hw => List.mem_cons_of_mem _ hw
  have hown : s.vm.findClass RX1 = some m.cls := findClass_of_methodNamed B.named
  have hlocks := B.notSynchronized
  have hF : CallFix p m c cX1_forceOf 4 s args (wU yX1_forceOf cX1_forceOf 4 (some .int)) RX1 := ⟨hx, hb, hml, hown, hts⟩
  have hK := hPre.2.1
  have hZ := hPre.2.2.2
  have hw : Wd D cy shX ad nX (Aw ad nX) s.heap M s.heap [] := ⟨hPre.1, hPre.2.2.1, va_S.rf⟩
  have iw1 : ∀ w ∈ u_ws RX1 TX1 11, w ∈ wU yX1_forceOf cX1_forceOf 4 (some .int) := fun w hw => List.mem_cons_of_mem _ (iX1 w hw)
  have iw3 : ∀ w ∈ u_ws RX3 TX3 6, w ∈ wU yX1_forceOf cX1_forceOf 4 (some .int) := fun w hw => List.mem_cons_of_mem _ (iX3 w hw)
  rw [show entryFrame m args 4 = entryFrame m ([.ref (ad o0), .int a1, .int a2] : List Value).toArray 4 from by rw [hargs]]
  have hl := lv_entry ([.ref (ad o0), .int a1, .int a2]) (n := 4) (Nat.le_of_ble_eq_true rfl)
  rw [lg_entry_eq]
  generalize (lg_sl ([.ref (ad o0), .int a1, .int a2]) ++ List.replicate (4 - (lg_sl ([.ref (ad o0), .int a1, .int a2])).length) Slot.unset).toArray = ls at hl ⊢
  have hl : lv_has ls 4 [(0, .ref (ad o0)), (1, .int a1), (2, .int a2)] := hl
  have hb26 : ∀ (M : Mm) (x2 : Int32) (t0 : Int32) (t1 : Int32), f_X1_forceOf_b26 M x2 t0 t1 = some res → ∀ (H : Heap) (locs : List Loc) (ls : Array Slot), Wd D cy shX ad nX (Aw ad nX) s.heap M H locs → lv_has ls 4 [(2, .int x2)] → W p l e (headSpec (wU yX1_forceOf cX1_forceOf 4 (some .int)) rmX1_forceOf).room s m args below meth c H locs 0 0 (QI D cy shX ad nX adK adV below args s res) (F0 m 26 ls [.int t1, .int t0]) := by
    intro M x2 t0 t1 h H locs ls hw hl
    unfold f_X1_forceOf_b26 at h
    refine lv_isub hx hb dX1_forceOf_26 ?_
    refine lv_istore_n (lv' := [(3, .int (t0 - t1)), (2, .int x2)]) hx hb dX1_forceOf_27 rfl hl (by decide) rfl (fun ls hl => ?_)
    refine lv_iload_n hx hb dX1_forceOf_28 rfl (lv_at hl 0 rfl) ?_
    refine lv_iconst (v := (1 : Int32)) hx hb dX1_forceOf_29 (by decide) ?_
    refine va_mmax hx hb (hml.trans hl.1.symm) hown (hq _ qw610) (hq _ qw611) (hq _ qw69) (hq _ qw612) (Nat.le_of_ble_eq_true rfl) (Nat.le_of_ble_eq_true rfl) (Nat.zero_le _) (Nat.zero_le _) dX1_forceOf_30 ?_
    refine lv_iload_n hx hb dX1_forceOf_33 rfl (lv_at hl 1 rfl) ?_
    refine lv_imul hx hb dX1_forceOf_34 ?_
    exact r_iret hx hb hr rfl hlocks hZ hK hw h dX1_forceOf_35
  unfold f_X1_forceOf at h
  refine lv_aload_n hx hb dX1_forceOf_0 rfl (lv_at hl 0 rfl) ?_
  replace h := gd_some h
  obtain ⟨g1, h⟩ := h
  replace h := bd_some h
  obtain ⟨q2, eq2, h⟩ := h
  refine r_getR hx hb hts iw1 hown hK hw o0 0 g1 (by decide) rfl (by decide) rfl (hq _ qw181) (fun _ h9 => h9) dX1_forceOf_1 eq2 ?_
  refine lv_iload_n hx hb dX1_forceOf_4 rfl (lv_at hl 1 rfl) ?_
  replace h := gd_some h
  obtain ⟨g3, h⟩ := h
  replace h := bd_some h
  obtain ⟨q4, eq4, h⟩ := h
  refine r_aald hx hb hK hw q2 2 (by decide) rfl g3 dX1_forceOf_5 eq4 ?_
  replace h := gd_some h
  obtain ⟨g5, h⟩ := h
  refine r_getI hx hb hts iw3 hown hK hw q4 1 g5 (by decide) rfl (by decide) rfl (hq _ qw102) (fun _ h9 => h9) dX1_forceOf_6 ?_
  refine lv_aload_n hx hb dX1_forceOf_9 rfl (lv_at hl 0 rfl) ?_
  replace h := bd_some h
  obtain ⟨q6, eq6, h⟩ := h
  refine r_getR hx hb hts iw1 hown hK hw o0 0 g1 (by decide) rfl (by decide) rfl (hq _ qw181) (fun _ h9 => h9) dX1_forceOf_10 eq6 ?_
  refine lv_iload_n hx hb dX1_forceOf_13 rfl (lv_at hl 1 rfl) ?_
  replace h := gd_some h
  obtain ⟨g7, h⟩ := h
  replace h := bd_some h
  obtain ⟨q8, eq8, h⟩ := h
  refine r_aald hx hb hK hw q6 2 (by decide) rfl g7 dX1_forceOf_14 eq8 ?_
  replace h := gd_some h
  obtain ⟨g9, h⟩ := h
  refine r_getI hx hb hts iw3 hown hK hw q8 5 g9 (by decide) rfl (by decide) rfl (hq _ qw114) (fun _ h9 => h9) dX1_forceOf_15 ?_
  refine lv_if_eq (tgt := 25) hx hb dX1_forceOf_18 (by decide) (fun c10 => ?_) (fun c10 => ?_)
  · replace h := if_some_t c10 h
    refine lv_iconst (v := (0 : Int32)) hx hb dX1_forceOf_25 (by decide) ?_
    exact hb26 _ _ _ _ h _ _ _ hw (lv_sub hl [2] rfl)
  · replace h := if_some_f c10 h
    refine lv_iconst (v := (1 : Int32)) hx hb dX1_forceOf_21 (by decide) ?_
    refine lv_goto (tgt := 26) hx hb dX1_forceOf_22 (by decide) ?_
    exact hb26 _ _ _ _ h _ _ _ hw (lv_sub hl [2] rfl)
theorem dX1_chanceOfFirst_0 : decode cX1_chanceOfFirst 0 = .ok (.aload_n 0, 1) := by decide +kernel
theorem dX1_chanceOfFirst_1 : decode cX1_chanceOfFirst 1 = .ok (.aload_n 0, 1) := by decide +kernel
theorem dX1_chanceOfFirst_2 : decode cX1_chanceOfFirst 2 = .ok (.getfield 19, 3) := by decide +kernel
theorem dX1_chanceOfFirst_5 : decode cX1_chanceOfFirst 5 = .ok (.aload_n 0, 1) := by decide +kernel
theorem dX1_chanceOfFirst_6 : decode cX1_chanceOfFirst 6 = .ok (.getfield 34, 3) := by decide +kernel
theorem dX1_chanceOfFirst_9 : decode cX1_chanceOfFirst 9 = .ok (.aaload, 1) := by decide +kernel
theorem dX1_chanceOfFirst_10 : decode cX1_chanceOfFirst 10 = .ok (.getfield 79, 3) := by decide +kernel
theorem dX1_chanceOfFirst_13 : decode cX1_chanceOfFirst 13 = .ok (.iload_n 1, 1) := by decide +kernel
theorem dX1_chanceOfFirst_14 : decode cX1_chanceOfFirst 14 = .ok (.invokevirtual 118, 3) := by decide +kernel
theorem dX1_chanceOfFirst_17 : decode cX1_chanceOfFirst 17 = .ok (.istore_n 3, 1) := by decide +kernel
theorem dX1_chanceOfFirst_18 : decode cX1_chanceOfFirst 18 = .ok (.iload_n 3, 1) := by decide +kernel
theorem dX1_chanceOfFirst_19 : decode cX1_chanceOfFirst 19 = .ok (.aload_n 0, 1) := by decide +kernel
theorem dX1_chanceOfFirst_20 : decode cX1_chanceOfFirst 20 = .ok (.aload_n 0, 1) := by decide +kernel
theorem dX1_chanceOfFirst_21 : decode cX1_chanceOfFirst 21 = .ok (.getfield 19, 3) := by decide +kernel
theorem dX1_chanceOfFirst_24 : decode cX1_chanceOfFirst 24 = .ok (.aload_n 0, 1) := by decide +kernel
theorem dX1_chanceOfFirst_25 : decode cX1_chanceOfFirst 25 = .ok (.getfield 34, 3) := by decide +kernel
theorem dX1_chanceOfFirst_28 : decode cX1_chanceOfFirst 28 = .ok (.aaload, 1) := by decide +kernel
theorem dX1_chanceOfFirst_29 : decode cX1_chanceOfFirst 29 = .ok (.getfield 82, 3) := by decide +kernel
theorem dX1_chanceOfFirst_32 : decode cX1_chanceOfFirst 32 = .ok (.iload_n 2, 1) := by decide +kernel
theorem dX1_chanceOfFirst_33 : decode cX1_chanceOfFirst 33 = .ok (.invokevirtual 118, 3) := by decide +kernel
theorem dX1_chanceOfFirst_36 : decode cX1_chanceOfFirst 36 = .ok (.iadd, 1) := by decide +kernel
theorem dX1_chanceOfFirst_37 : decode cX1_chanceOfFirst 37 = .ok (.istore 4, 2) := by decide +kernel
theorem dX1_chanceOfFirst_39 : decode cX1_chanceOfFirst 39 = .ok (.iload 4, 2) := by decide +kernel
theorem dX1_chanceOfFirst_41 : decode cX1_chanceOfFirst 41 = .ok (.ifCond .ne 7, 3) := by decide +kernel
theorem dX1_chanceOfFirst_44 : decode cX1_chanceOfFirst 44 = .ok (.iconst 5, 1) := by decide +kernel
theorem dX1_chanceOfFirst_45 : decode cX1_chanceOfFirst 45 = .ok (.goto 10, 3) := by decide +kernel
theorem dX1_chanceOfFirst_48 : decode cX1_chanceOfFirst 48 = .ok (.bipush 10, 2) := by decide +kernel
theorem dX1_chanceOfFirst_50 : decode cX1_chanceOfFirst 50 = .ok (.iload_n 3, 1) := by decide +kernel
theorem dX1_chanceOfFirst_51 : decode cX1_chanceOfFirst 51 = .ok (.imul, 1) := by decide +kernel
theorem dX1_chanceOfFirst_52 : decode cX1_chanceOfFirst 52 = .ok (.iload 4, 2) := by decide +kernel
theorem dX1_chanceOfFirst_54 : decode cX1_chanceOfFirst 54 = .ok (.idiv, 1) := by decide +kernel
theorem dX1_chanceOfFirst_55 : decode cX1_chanceOfFirst 55 = .ok (.ireturn, 1) := by decide +kernel
set_option maxHeartbeats 4000000 in
set_option maxRecDepth 100000 in
theorem c_X1_chanceOfFirst (l : Launch) (D : va_G) (cy : Nat → ClassId) (ad adK adV : Nat → Nat) (M : Mm) (o0 : Nat) (a1 : Int32) (a2 : Int32) (res : Mm × Int32) (h : f_X1_chanceOfFirst M o0 a1 a2 = some res) : Met l yX1_chanceOfFirst (wU yX1_chanceOfFirst cX1_chanceOfFirst 5 (some .int)) rmX1_chanceOfFirst (va_Pc [.ref (ad o0), .int a1, .int a2] (Pre D cy shX ad nX adK adV M)) (va_Qi (fun r (M2 : Mm) => r = res.2 ∧ M2 = res.1) (Pre D cy shX ad nX adK adV) (Aw ad nX)) 0 0 (Aw ad nX) := by
  refine Met.ofW (cc := cX1_chanceOfFirst) (maxL := 5) (ret := (some .int)) (by decide) rfl ?_
  intro p e s m args below meth c s₁ B hml hv
  obtain ⟨hargs, hPre⟩ := hv
  have hx := B.exec
  have hb := B.bytes
  have hr := B.returns
  have hts := atoms_spec (ws := wU yX1_chanceOfFirst cX1_chanceOfFirst 5 (some .int)) B.pre
  have hq : ∀ w ∈ gW, w.before args s = true := fun w hw => hts w (List.mem_cons_of_mem _ hw)
  have hcm : ∀ w ∈ gW, w ∈ wU yX1_chanceOfFirst cX1_chanceOfFirst 5 (some .int) := fun w hw => List.mem_cons_of_mem _ hw
  have hown : s.vm.findClass RX1 = some m.cls := findClass_of_methodNamed B.named
  have hlocks := B.notSynchronized
  have hF : CallFix p m c cX1_chanceOfFirst 5 s args (wU yX1_chanceOfFirst cX1_chanceOfFirst 5 (some .int)) RX1 := ⟨hx, hb, hml, hown, hts⟩
  have hK := hPre.2.1
  have hZ := hPre.2.2.2
  have hw : Wd D cy shX ad nX (Aw ad nX) s.heap M s.heap [] := ⟨hPre.1, hPre.2.2.1, va_S.rf⟩
  have iw0 : ∀ w ∈ u_ws RX0 TX0 9, w ∈ wU yX1_chanceOfFirst cX1_chanceOfFirst 5 (some .int) := fun w hw => List.mem_cons_of_mem _ (iX0 w hw)
  have iw1 : ∀ w ∈ u_ws RX1 TX1 11, w ∈ wU yX1_chanceOfFirst cX1_chanceOfFirst 5 (some .int) := fun w hw => List.mem_cons_of_mem _ (iX1 w hw)
  rw [show entryFrame m args 5 = entryFrame m ([.ref (ad o0), .int a1, .int a2] : List Value).toArray 5 from by rw [hargs]]
  have hl := lv_entry ([.ref (ad o0), .int a1, .int a2]) (n := 5) (Nat.le_of_ble_eq_true rfl)
  rw [lg_entry_eq]
  generalize (lg_sl ([.ref (ad o0), .int a1, .int a2]) ++ List.replicate (5 - (lg_sl ([.ref (ad o0), .int a1, .int a2])).length) Slot.unset).toArray = ls at hl ⊢
  have hl : lv_has ls 5 [(0, .ref (ad o0)), (1, .int a1), (2, .int a2)] := hl
  unfold f_X1_chanceOfFirst at h
  refine lv_aload_n hx hb dX1_chanceOfFirst_0 rfl (lv_at hl 0 rfl) ?_
  refine lv_aload_n hx hb dX1_chanceOfFirst_1 rfl (lv_at hl 0 rfl) ?_
  replace h := gd_some h
  obtain ⟨g1, h⟩ := h
  replace h := bd_some h
  obtain ⟨q2, eq2, h⟩ := h
  refine r_getR hx hb hts iw1 hown hK hw o0 1 g1 (by decide) rfl (by decide) rfl (hq _ qw184) (fun _ h9 => h9) dX1_chanceOfFirst_2 eq2 ?_
  refine lv_aload_n hx hb dX1_chanceOfFirst_5 rfl (lv_at hl 0 rfl) ?_
  refine r_getI hx hb hts iw1 hown hK hw o0 5 g1 (by decide) rfl (by decide) rfl (hq _ qw197) (fun _ h9 => h9) dX1_chanceOfFirst_6 ?_
  replace h := gd_some h
  obtain ⟨g3, h⟩ := h
  replace h := bd_some h
  obtain ⟨q4, eq4, h⟩ := h
  refine r_aald hx hb hK hw q2 3 (by decide) rfl g3 dX1_chanceOfFirst_9 eq4 ?_
  replace h := gd_some h
  obtain ⟨g5, h⟩ := h
  refine r_getI hx hb hts iw0 hown hK hw q4 0 g5 (by decide) rfl (by decide) rfl (hq _ qw137) (fun _ h9 => h9) dX1_chanceOfFirst_10 ?_
  refine lv_iload_n hx hb dX1_chanceOfFirst_13 rfl (lv_at hl 1 rfl) ?_
  replace h := bd_some h
  obtain ⟨r6, er6, h⟩ := h
  refine r_callVi (As := [.int (M.1 q4 0), .int a1]) (rest := []) hF (c_X1_forceOf l D cy ad adK adV M o0 (M.1 q4 0) a1 r6 er6) (gW_goodV hcm qw609 qw606 qw607 qw608 qw61) hdX1_forceOf rfl ⟨Nat.le_of_ble_eq_true rfl, Nat.le_of_ble_eq_true rfl⟩ rfl rfl hZ hK hw g1 (by decide) rfl rfl hl.1 rfl (Nat.le_of_ble_eq_true rfl) ⟨Nat.zero_le _, Nat.zero_le _⟩ dX1_chanceOfFirst_14 (fun H locs hw => ?_)
  refine lv_istore_n (lv' := [(3, .int r6.2), (0, .ref (ad o0)), (1, .int a1), (2, .int a2)]) hx hb dX1_chanceOfFirst_17 rfl hl (by decide) rfl (fun ls hl => ?_)
  refine lv_iload_n hx hb dX1_chanceOfFirst_18 rfl (lv_at hl 0 rfl) ?_
  refine lv_aload_n hx hb dX1_chanceOfFirst_19 rfl (lv_at hl 1 rfl) ?_
  refine lv_aload_n hx hb dX1_chanceOfFirst_20 rfl (lv_at hl 1 rfl) ?_
  replace h := bd_some h
  obtain ⟨q7, eq7, h⟩ := h
  refine r_getR hx hb hts iw1 hown hK hw o0 1 g1 (by decide) rfl (by decide) rfl (hq _ qw184) (fun _ h9 => h9) dX1_chanceOfFirst_21 eq7 ?_
  refine lv_aload_n hx hb dX1_chanceOfFirst_24 rfl (lv_at hl 1 rfl) ?_
  refine r_getI hx hb hts iw1 hown hK hw o0 5 g1 (by decide) rfl (by decide) rfl (hq _ qw197) (fun _ h9 => h9) dX1_chanceOfFirst_25 ?_
  replace h := gd_some h
  obtain ⟨g8, h⟩ := h
  replace h := bd_some h
  obtain ⟨q9, eq9, h⟩ := h
  refine r_aald hx hb hK hw q7 3 (by decide) rfl g8 dX1_chanceOfFirst_28 eq9 ?_
  replace h := gd_some h
  obtain ⟨g10, h⟩ := h
  refine r_getI hx hb hts iw0 hown hK hw q9 1 g10 (by decide) rfl (by decide) rfl (hq _ qw141) (fun _ h9 => h9) dX1_chanceOfFirst_29 ?_
  refine lv_iload_n hx hb dX1_chanceOfFirst_32 rfl (lv_at hl 3 rfl) ?_
  replace h := bd_some h
  obtain ⟨r11, er11, h⟩ := h
  refine r_callVi (As := [.int (r6.1.1 q9 1), .int a2]) (rest := [.int r6.2]) hF (c_X1_forceOf l D cy ad adK adV r6.1 o0 (r6.1.1 q9 1) a2 r11 er11) (gW_goodV hcm qw609 qw606 qw607 qw608 qw61) hdX1_forceOf rfl ⟨Nat.le_of_ble_eq_true rfl, Nat.le_of_ble_eq_true rfl⟩ rfl rfl hZ hK hw g1 (by decide) rfl rfl hl.1 rfl (Nat.le_of_ble_eq_true rfl) ⟨Nat.zero_le _, Nat.zero_le _⟩ dX1_chanceOfFirst_33 (fun H locs hw => ?_)
  refine lv_iadd hx hb dX1_chanceOfFirst_36 ?_
  refine lv_istore (lv' := [(4, .int (r6.2 + r11.2)), (3, .int r6.2), (0, .ref (ad o0)), (1, .int a1), (2, .int a2)]) hx hb dX1_chanceOfFirst_37 hl (by decide) rfl (fun ls hl => ?_)
  refine lv_iload hx hb dX1_chanceOfFirst_39 (lv_at hl 0 rfl) ?_
  refine lv_if_ne (tgt := 48) hx hb dX1_chanceOfFirst_41 (by decide) (fun c12 => ?_) (fun c12 => ?_)
  · replace h := if_some_f c12 h
    refine lv_bipush (v := (10 : Int32)) hx hb dX1_chanceOfFirst_48 (by decide) ?_
    refine lv_iload_n hx hb dX1_chanceOfFirst_50 rfl (lv_at hl 1 rfl) ?_
    refine lv_imul hx hb dX1_chanceOfFirst_51 ?_
    refine lv_iload hx hb dX1_chanceOfFirst_52 (lv_at hl 0 rfl) ?_
    replace h := gd_some h
    obtain ⟨g13, h⟩ := h
    refine lv_idiv hx hb dX1_chanceOfFirst_54 g13 ?_
    exact r_iret hx hb hr rfl hlocks hZ hK hw h dX1_chanceOfFirst_55
  · replace h := if_some_t c12 h
    refine lv_iconst (v := (5 : Int32)) hx hb dX1_chanceOfFirst_44 (by decide) ?_
    refine lv_goto (tgt := 55) hx hb dX1_chanceOfFirst_45 (by decide) ?_
    exact r_iret hx hb hr rfl hlocks hZ hK hw h dX1_chanceOfFirst_55
theorem dX1_givenIfWonBy_0 : decode cX1_givenIfWonBy 0 = .ok (.aload_n 0, 1) := by decide +kernel
theorem dX1_givenIfWonBy_1 : decode cX1_givenIfWonBy 1 = .ok (.getfield 19, 3) := by decide +kernel
theorem dX1_givenIfWonBy_4 : decode cX1_givenIfWonBy 4 = .ok (.aload_n 0, 1) := by decide +kernel
theorem dX1_givenIfWonBy_5 : decode cX1_givenIfWonBy 5 = .ok (.getfield 34, 3) := by decide +kernel
theorem dX1_givenIfWonBy_8 : decode cX1_givenIfWonBy 8 = .ok (.aaload, 1) := by decide +kernel
theorem dX1_givenIfWonBy_9 : decode cX1_givenIfWonBy 9 = .ok (.astore_n 2, 1) := by decide +kernel
theorem dX1_givenIfWonBy_10 : decode cX1_givenIfWonBy 10 = .ok (.aload_n 0, 1) := by decide +kernel
theorem dX1_givenIfWonBy_11 : decode cX1_givenIfWonBy 11 = .ok (.iload_n 1, 1) := by decide +kernel
theorem dX1_givenIfWonBy_12 : decode cX1_givenIfWonBy 12 = .ok (.invokevirtual 98, 3) := by decide +kernel
theorem dX1_givenIfWonBy_15 : decode cX1_givenIfWonBy 15 = .ok (.ifCond .ne 5, 3) := by decide +kernel
theorem dX1_givenIfWonBy_18 : decode cX1_givenIfWonBy 18 = .ok (.iload_n 1, 1) := by decide +kernel
theorem dX1_givenIfWonBy_19 : decode cX1_givenIfWonBy 19 = .ok (.ireturn, 1) := by decide +kernel
theorem dX1_givenIfWonBy_20 : decode cX1_givenIfWonBy 20 = .ok (.iload_n 1, 1) := by decide +kernel
theorem dX1_givenIfWonBy_21 : decode cX1_givenIfWonBy 21 = .ok (.aload_n 2, 1) := by decide +kernel
theorem dX1_givenIfWonBy_22 : decode cX1_givenIfWonBy 22 = .ok (.getfield 79, 3) := by decide +kernel
theorem dX1_givenIfWonBy_25 : decode cX1_givenIfWonBy 25 = .ok (.if_icmp .ne 10, 3) := by decide +kernel
theorem dX1_givenIfWonBy_28 : decode cX1_givenIfWonBy 28 = .ok (.aload_n 2, 1) := by decide +kernel
theorem dX1_givenIfWonBy_29 : decode cX1_givenIfWonBy 29 = .ok (.getfield 82, 3) := by decide +kernel
theorem dX1_givenIfWonBy_32 : decode cX1_givenIfWonBy 32 = .ok (.goto 7, 3) := by decide +kernel
theorem dX1_givenIfWonBy_35 : decode cX1_givenIfWonBy 35 = .ok (.aload_n 2, 1) := by decide +kernel
theorem dX1_givenIfWonBy_36 : decode cX1_givenIfWonBy 36 = .ok (.getfield 79, 3) := by decide +kernel
theorem dX1_givenIfWonBy_39 : decode cX1_givenIfWonBy 39 = .ok (.istore_n 3, 1) := by decide +kernel
theorem dX1_givenIfWonBy_40 : decode cX1_givenIfWonBy 40 = .ok (.aload_n 0, 1) := by decide +kernel
theorem dX1_givenIfWonBy_41 : decode cX1_givenIfWonBy 41 = .ok (.iload_n 3, 1) := by decide +kernel
theorem dX1_givenIfWonBy_42 : decode cX1_givenIfWonBy 42 = .ok (.invokevirtual 98, 3) := by decide +kernel
theorem dX1_givenIfWonBy_45 : decode cX1_givenIfWonBy 45 = .ok (.ifCond .ne 5, 3) := by decide +kernel
theorem dX1_givenIfWonBy_48 : decode cX1_givenIfWonBy 48 = .ok (.iload_n 3, 1) := by decide +kernel
theorem dX1_givenIfWonBy_49 : decode cX1_givenIfWonBy 49 = .ok (.ireturn, 1) := by decide +kernel
theorem dX1_givenIfWonBy_50 : decode cX1_givenIfWonBy 50 = .ok (.aload_n 0, 1) := by decide +kernel
theorem dX1_givenIfWonBy_51 : decode cX1_givenIfWonBy 51 = .ok (.getfield 11, 3) := by decide +kernel
theorem dX1_givenIfWonBy_54 : decode cX1_givenIfWonBy 54 = .ok (.iload_n 1, 1) := by decide +kernel
theorem dX1_givenIfWonBy_55 : decode cX1_givenIfWonBy 55 = .ok (.aaload, 1) := by decide +kernel
theorem dX1_givenIfWonBy_56 : decode cX1_givenIfWonBy 56 = .ok (.getfield 121, 3) := by decide +kernel
theorem dX1_givenIfWonBy_59 : decode cX1_givenIfWonBy 59 = .ok (.aload_n 0, 1) := by decide +kernel
theorem dX1_givenIfWonBy_60 : decode cX1_givenIfWonBy 60 = .ok (.getfield 11, 3) := by decide +kernel
theorem dX1_givenIfWonBy_63 : decode cX1_givenIfWonBy 63 = .ok (.iload_n 3, 1) := by decide +kernel
theorem dX1_givenIfWonBy_64 : decode cX1_givenIfWonBy 64 = .ok (.aaload, 1) := by decide +kernel
theorem dX1_givenIfWonBy_65 : decode cX1_givenIfWonBy 65 = .ok (.getfield 121, 3) := by decide +kernel
theorem dX1_givenIfWonBy_68 : decode cX1_givenIfWonBy 68 = .ok (.isub, 1) := by decide +kernel
theorem dX1_givenIfWonBy_69 : decode cX1_givenIfWonBy 69 = .ok (.istore 4, 2) := by decide +kernel
theorem dX1_givenIfWonBy_71 : decode cX1_givenIfWonBy 71 = .ok (.iload 4, 2) := by decide +kernel
theorem dX1_givenIfWonBy_73 : decode cX1_givenIfWonBy 73 = .ok (.ifCond .ne 9, 3) := by decide +kernel
theorem dX1_givenIfWonBy_76 : decode cX1_givenIfWonBy 76 = .ok (.iload_n 1, 1) := by decide +kernel
theorem dX1_givenIfWonBy_77 : decode cX1_givenIfWonBy 77 = .ok (.iload_n 3, 1) := by decide +kernel
theorem dX1_givenIfWonBy_78 : decode cX1_givenIfWonBy 78 = .ok (.invokestatic 105, 3) := by decide +kernel
theorem dX1_givenIfWonBy_81 : decode cX1_givenIfWonBy 81 = .ok (.ireturn, 1) := by decide +kernel
theorem dX1_givenIfWonBy_82 : decode cX1_givenIfWonBy 82 = .ok (.iload 4, 2) := by decide +kernel
theorem dX1_givenIfWonBy_84 : decode cX1_givenIfWonBy 84 = .ok (.ifCond .ge 7, 3) := by decide +kernel
theorem dX1_givenIfWonBy_87 : decode cX1_givenIfWonBy 87 = .ok (.iload_n 1, 1) := by decide +kernel
theorem dX1_givenIfWonBy_88 : decode cX1_givenIfWonBy 88 = .ok (.goto 4, 3) := by decide +kernel
theorem dX1_givenIfWonBy_91 : decode cX1_givenIfWonBy 91 = .ok (.iload_n 3, 1) := by decide +kernel
theorem dX1_givenIfWonBy_92 : decode cX1_givenIfWonBy 92 = .ok (.ireturn, 1) := by decide +kernel
set_option maxHeartbeats 4000000 in
set_option maxRecDepth 100000 in
theorem c_X1_givenIfWonBy (l : Launch) (D : va_G) (cy : Nat → ClassId) (ad adK adV : Nat → Nat) (M : Mm) (o0 : Nat) (a1 : Int32) (res : Mm × Int32) (h : f_X1_givenIfWonBy M o0 a1 = some res) : Met l yX1_givenIfWonBy (wU yX1_givenIfWonBy cX1_givenIfWonBy 5 (some .int)) rmX1_givenIfWonBy (va_Pc [.ref (ad o0), .int a1] (Pre D cy shX ad nX adK adV M)) (va_Qi (fun r (M2 : Mm) => r = res.2 ∧ M2 = res.1) (Pre D cy shX ad nX adK adV) (Aw ad nX)) 0 0 (Aw ad nX) := by
  refine Met.ofW (cc := cX1_givenIfWonBy) (maxL := 5) (ret := (some .int)) (by decide) rfl ?_
  intro p e s m args below meth c s₁ B hml hv
  obtain ⟨hargs, hPre⟩ := hv
  have hx := B.exec
  have hb := B.bytes
  have hr := B.returns
  have hts := atoms_spec (ws := wU yX1_givenIfWonBy cX1_givenIfWonBy 5 (some .int)) B.pre
  have hq : ∀ w ∈ gW, w.before args s = true := fun w hw => hts w (List.mem_cons_of_mem _ hw)
  have hcm : ∀ w ∈ gW, w ∈ wU yX1_givenIfWonBy cX1_givenIfWonBy 5 (some .int) := fun w hw => List.mem_cons_of_mem _ hw
  have hown : s.vm.findClass RX1 = some m.cls := findClass_of_methodNamed B.named
  have hlocks := B.notSynchronized
  have hF : CallFix p m c cX1_givenIfWonBy 5 s args (wU yX1_givenIfWonBy cX1_givenIfWonBy 5 (some .int)) RX1 := ⟨hx, hb, hml, hown, hts⟩
  have hK := hPre.2.1
  have hZ := hPre.2.2.2
  have hw : Wd D cy shX ad nX (Aw ad nX) s.heap M s.heap [] := ⟨hPre.1, hPre.2.2.1, va_S.rf⟩
  have iw0 : ∀ w ∈ u_ws RX0 TX0 9, w ∈ wU yX1_givenIfWonBy cX1_givenIfWonBy 5 (some .int) := fun w hw => List.mem_cons_of_mem _ (iX0 w hw)
  have iw1 : ∀ w ∈ u_ws RX1 TX1 11, w ∈ wU yX1_givenIfWonBy cX1_givenIfWonBy 5 (some .int) := fun w hw => List.mem_cons_of_mem _ (iX1 w hw)
  have iw3 : ∀ w ∈ u_ws RX3 TX3 6, w ∈ wU yX1_givenIfWonBy cX1_givenIfWonBy 5 (some .int) := fun w hw => List.mem_cons_of_mem _ (iX3 w hw)
  rw [show entryFrame m args 5 = entryFrame m ([.ref (ad o0), .int a1] : List Value).toArray 5 from by rw [hargs]]
  have hl := lv_entry ([.ref (ad o0), .int a1]) (n := 5) (Nat.le_of_ble_eq_true rfl)
  rw [lg_entry_eq]
  generalize (lg_sl ([.ref (ad o0), .int a1]) ++ List.replicate (5 - (lg_sl ([.ref (ad o0), .int a1])).length) Slot.unset).toArray = ls at hl ⊢
  have hl : lv_has ls 5 [(0, .ref (ad o0)), (1, .int a1)] := hl
  have hb39 : ∀ (M : Mm) (x0 : Nat) (x1 : Int32) (t0 : Int32), f_X1_givenIfWonBy_b39 M x0 x1 t0 = some res → ∀ (H : Heap) (locs : List Loc) (ls : Array Slot), Wd D cy shX ad nX (Aw ad nX) s.heap M H locs → lv_has ls 5 [(0, .ref (ad x0)), (1, .int x1)] → W p l e (headSpec (wU yX1_givenIfWonBy cX1_givenIfWonBy 5 (some .int)) rmX1_givenIfWonBy).room s m args below meth c H locs 0 0 (QI D cy shX ad nX adK adV below args s res) (F0 m 39 ls [.int t0]) := by
    intro M x0 x1 t0 h H locs ls hw hl
    unfold f_X1_givenIfWonBy_b39 at h
    refine lv_istore_n (lv' := [(3, .int t0), (0, .ref (ad x0)), (1, .int x1)]) hx hb dX1_givenIfWonBy_39 rfl hl (by decide) rfl (fun ls hl => ?_)
    refine lv_aload_n hx hb dX1_givenIfWonBy_40 rfl (lv_at hl 1 rfl) ?_
    refine lv_iload_n hx hb dX1_givenIfWonBy_41 rfl (lv_at hl 0 rfl) ?_
    replace h := gd_some h
    obtain ⟨g2, h⟩ := h
    replace h := bd_some h
    obtain ⟨r1, er1, h⟩ := h
    refine r_callVi (As := [.int t0]) (rest := []) hF (c_X1_isBarred l D cy ad adK adV M x0 t0 r1 er1) (gW_goodV hcm qw394 qw596 qw392 qw393 qw61) hdX1_isBarred rfl ⟨Nat.le_of_ble_eq_true rfl, Nat.le_of_ble_eq_true rfl⟩ rfl rfl hZ hK hw g2 (by decide) rfl rfl hl.1 rfl (Nat.le_of_ble_eq_true rfl) ⟨Nat.zero_le _, Nat.zero_le _⟩ dX1_givenIfWonBy_42 (fun H locs hw => ?_)
    refine lv_if_ne (tgt := 50) hx hb dX1_givenIfWonBy_45 (by decide) (fun c3 => ?_) (fun c3 => ?_)
    · replace h := if_some_f c3 h
      refine lv_aload_n hx hb dX1_givenIfWonBy_50 rfl (lv_at hl 1 rfl) ?_
      replace h := bd_some h
      obtain ⟨q4, eq4, h⟩ := h
      refine r_getR hx hb hts iw1 hown hK hw x0 0 g2 (by decide) rfl (by decide) rfl (hq _ qw181) (fun _ h9 => h9) dX1_givenIfWonBy_51 eq4 ?_
      refine lv_iload_n hx hb dX1_givenIfWonBy_54 rfl (lv_at hl 2 rfl) ?_
      replace h := gd_some h
      obtain ⟨g5, h⟩ := h
      replace h := bd_some h
      obtain ⟨q6, eq6, h⟩ := h
      refine r_aald hx hb hK hw q4 2 (by decide) rfl g5 dX1_givenIfWonBy_55 eq6 ?_
      replace h := gd_some h
      obtain ⟨g7, h⟩ := h
      refine r_getI hx hb hts iw3 hown hK hw q6 3 g7 (by decide) rfl (by decide) rfl (hq _ qw109) (fun _ h9 => h9) dX1_givenIfWonBy_56 ?_
      refine lv_aload_n hx hb dX1_givenIfWonBy_59 rfl (lv_at hl 1 rfl) ?_
      replace h := bd_some h
      obtain ⟨q8, eq8, h⟩ := h
      refine r_getR hx hb hts iw1 hown hK hw x0 0 g2 (by decide) rfl (by decide) rfl (hq _ qw181) (fun _ h9 => h9) dX1_givenIfWonBy_60 eq8 ?_
      refine lv_iload_n hx hb dX1_givenIfWonBy_63 rfl (lv_at hl 0 rfl) ?_
      replace h := gd_some h
      obtain ⟨g9, h⟩ := h
      replace h := bd_some h
      obtain ⟨q10, eq10, h⟩ := h
      refine r_aald hx hb hK hw q8 2 (by decide) rfl g9 dX1_givenIfWonBy_64 eq10 ?_
      replace h := gd_some h
      obtain ⟨g11, h⟩ := h
      refine r_getI hx hb hts iw3 hown hK hw q10 3 g11 (by decide) rfl (by decide) rfl (hq _ qw109) (fun _ h9 => h9) dX1_givenIfWonBy_65 ?_
      refine lv_isub hx hb dX1_givenIfWonBy_68 ?_
      refine lv_istore (lv' := [(4, .int ((r1.1.1 q6 3) - (r1.1.1 q10 3))), (3, .int t0), (0, .ref (ad x0)), (1, .int x1)]) hx hb dX1_givenIfWonBy_69 hl (by decide) rfl (fun ls hl => ?_)
      refine lv_iload hx hb dX1_givenIfWonBy_71 (lv_at hl 0 rfl) ?_
      refine lv_if_ne (tgt := 82) hx hb dX1_givenIfWonBy_73 (by decide) (fun c12 => ?_) (fun c12 => ?_)
      · replace h := if_some_f c12 h
        refine lv_iload hx hb dX1_givenIfWonBy_82 (lv_at hl 0 rfl) ?_
        refine lv_if_ge (tgt := 91) hx hb dX1_givenIfWonBy_84 (by decide) (fun c13 => ?_) (fun c13 => ?_)
        · replace h := if_some_t c13 h
          refine lv_iload_n hx hb dX1_givenIfWonBy_91 rfl (lv_at hl 1 rfl) ?_
          exact r_iret hx hb hr rfl hlocks hZ hK hw h dX1_givenIfWonBy_92
        · replace h := if_some_f c13 h
          refine lv_iload_n hx hb dX1_givenIfWonBy_87 rfl (lv_at hl 3 rfl) ?_
          refine lv_goto (tgt := 92) hx hb dX1_givenIfWonBy_88 (by decide) ?_
          exact r_iret hx hb hr rfl hlocks hZ hK hw h dX1_givenIfWonBy_92
      · replace h := if_some_t c12 h
        refine lv_iload_n hx hb dX1_givenIfWonBy_76 rfl (lv_at hl 3 rfl) ?_
        refine lv_iload_n hx hb dX1_givenIfWonBy_77 rfl (lv_at hl 1 rfl) ?_
        refine va_mmin hx hb (hml.trans hl.1.symm) hown (hq _ qw601) (hq _ qw488) (hq _ qw69) (hq _ qw489) (Nat.le_of_ble_eq_true rfl) (Nat.le_of_ble_eq_true rfl) (Nat.zero_le _) (Nat.zero_le _) dX1_givenIfWonBy_78 ?_
        exact r_iret hx hb hr rfl hlocks hZ hK hw h dX1_givenIfWonBy_81
    · replace h := if_some_t c3 h
      refine lv_iload_n hx hb dX1_givenIfWonBy_48 rfl (lv_at hl 0 rfl) ?_
      exact r_iret hx hb hr rfl hlocks hZ hK hw h dX1_givenIfWonBy_49
  unfold f_X1_givenIfWonBy at h
  refine lv_aload_n hx hb dX1_givenIfWonBy_0 rfl (lv_at hl 0 rfl) ?_
  replace h := gd_some h
  obtain ⟨g14, h⟩ := h
  replace h := bd_some h
  obtain ⟨q15, eq15, h⟩ := h
  refine r_getR hx hb hts iw1 hown hK hw o0 1 g14 (by decide) rfl (by decide) rfl (hq _ qw184) (fun _ h9 => h9) dX1_givenIfWonBy_1 eq15 ?_
  refine lv_aload_n hx hb dX1_givenIfWonBy_4 rfl (lv_at hl 0 rfl) ?_
  refine r_getI hx hb hts iw1 hown hK hw o0 5 g14 (by decide) rfl (by decide) rfl (hq _ qw197) (fun _ h9 => h9) dX1_givenIfWonBy_5 ?_
  replace h := gd_some h
  obtain ⟨g16, h⟩ := h
  replace h := bd_some h
  obtain ⟨q17, eq17, h⟩ := h
  refine r_aald hx hb hK hw q15 3 (by decide) rfl g16 dX1_givenIfWonBy_8 eq17 ?_
  refine lv_astore_n (lv' := [(2, .ref (ad q17)), (0, .ref (ad o0)), (1, .int a1)]) hx hb dX1_givenIfWonBy_9 rfl hl (by decide) rfl (fun ls hl => ?_)
  refine lv_aload_n hx hb dX1_givenIfWonBy_10 rfl (lv_at hl 1 rfl) ?_
  refine lv_iload_n hx hb dX1_givenIfWonBy_11 rfl (lv_at hl 2 rfl) ?_
  replace h := bd_some h
  obtain ⟨r18, er18, h⟩ := h
  refine r_callVi (As := [.int a1]) (rest := []) hF (c_X1_isBarred l D cy ad adK adV M o0 a1 r18 er18) (gW_goodV hcm qw394 qw596 qw392 qw393 qw61) hdX1_isBarred rfl ⟨Nat.le_of_ble_eq_true rfl, Nat.le_of_ble_eq_true rfl⟩ rfl rfl hZ hK hw g14 (by decide) rfl rfl hl.1 rfl (Nat.le_of_ble_eq_true rfl) ⟨Nat.zero_le _, Nat.zero_le _⟩ dX1_givenIfWonBy_12 (fun H locs hw => ?_)
  refine lv_if_ne (tgt := 20) hx hb dX1_givenIfWonBy_15 (by decide) (fun c19 => ?_) (fun c19 => ?_)
  · replace h := if_some_f c19 h
    refine lv_iload_n hx hb dX1_givenIfWonBy_20 rfl (lv_at hl 2 rfl) ?_
    refine lv_aload_n hx hb dX1_givenIfWonBy_21 rfl (lv_at hl 0 rfl) ?_
    replace h := gd_some h
    obtain ⟨g20, h⟩ := h
    refine r_getI hx hb hts iw0 hown hK hw q17 0 g20 (by decide) rfl (by decide) rfl (hq _ qw137) (fun _ h9 => h9) dX1_givenIfWonBy_22 ?_
    refine lv_icmp_ne (tgt := 35) hx hb dX1_givenIfWonBy_25 (by decide) (fun c21 => ?_) (fun c21 => ?_)
    · replace h := if_some_f c21 h
      refine lv_aload_n hx hb dX1_givenIfWonBy_35 rfl (lv_at hl 0 rfl) ?_
      refine r_getI hx hb hts iw0 hown hK hw q17 0 g20 (by decide) rfl (by decide) rfl (hq _ qw137) (fun _ h9 => h9) dX1_givenIfWonBy_36 ?_
      exact hb39 _ _ _ _ h _ _ _ hw (lv_sub hl [1, 2] rfl)
    · replace h := if_some_t c21 h
      refine lv_aload_n hx hb dX1_givenIfWonBy_28 rfl (lv_at hl 0 rfl) ?_
      refine r_getI hx hb hts iw0 hown hK hw q17 1 g20 (by decide) rfl (by decide) rfl (hq _ qw141) (fun _ h9 => h9) dX1_givenIfWonBy_29 ?_
      refine lv_goto (tgt := 39) hx hb dX1_givenIfWonBy_32 (by decide) ?_
      exact hb39 _ _ _ _ h _ _ _ hw (lv_sub hl [1, 2] rfl)
  · replace h := if_some_t c19 h
    refine lv_iload_n hx hb dX1_givenIfWonBy_18 rfl (lv_at hl 2 rfl) ?_
    exact r_iret hx hb hr rfl hlocks hZ hK hw h dX1_givenIfWonBy_19
theorem dX3_remember_0 : decode cX3_remember 0 = .ok (.iload_n 1, 1) := by decide +kernel
theorem dX3_remember_1 : decode cX3_remember 1 = .ok (.ifCond .eq 26, 3) := by decide +kernel
theorem dX3_remember_4 : decode cX3_remember 4 = .ok (.aload_n 0, 1) := by decide +kernel
theorem dX3_remember_5 : decode cX3_remember 5 = .ok (.dup, 1) := by decide +kernel
theorem dX3_remember_6 : decode cX3_remember 6 = .ok (.getfield 21, 3) := by decide +kernel
theorem dX3_remember_9 : decode cX3_remember 9 = .ok (.iload_n 2, 1) := by decide +kernel
theorem dX3_remember_10 : decode cX3_remember 10 = .ok (.iadd, 1) := by decide +kernel
theorem dX3_remember_11 : decode cX3_remember 11 = .ok (.putfield 21, 3) := by decide +kernel
theorem dX3_remember_14 : decode cX3_remember 14 = .ok (.aload_n 0, 1) := by decide +kernel
theorem dX3_remember_15 : decode cX3_remember 15 = .ok (.dup, 1) := by decide +kernel
theorem dX3_remember_16 : decode cX3_remember 16 = .ok (.getfield 24, 3) := by decide +kernel
theorem dX3_remember_19 : decode cX3_remember 19 = .ok (.iconst 1, 1) := by decide +kernel
theorem dX3_remember_20 : decode cX3_remember 20 = .ok (.iadd, 1) := by decide +kernel
theorem dX3_remember_21 : decode cX3_remember 21 = .ok (.putfield 24, 3) := by decide +kernel
theorem dX3_remember_24 : decode cX3_remember 24 = .ok (.goto 8, 3) := by decide +kernel
theorem dX3_remember_27 : decode cX3_remember 27 = .ok (.aload_n 0, 1) := by decide +kernel
theorem dX3_remember_28 : decode cX3_remember 28 = .ok (.iconst 0, 1) := by decide +kernel
theorem dX3_remember_29 : decode cX3_remember 29 = .ok (.putfield 24, 3) := by decide +kernel
theorem dX3_remember_32 : decode cX3_remember 32 = .ok (.aload_n 0, 1) := by decide +kernel
theorem dX3_remember_33 : decode cX3_remember 33 = .ok (.iload_n 3, 1) := by decide +kernel
theorem dX3_remember_34 : decode cX3_remember 34 = .ok (.iconst 3, 1) := by decide +kernel
theorem dX3_remember_35 : decode cX3_remember 35 = .ok (.if_icmp .ne 7, 3) := by decide +kernel
theorem dX3_remember_38 : decode cX3_remember 38 = .ok (.iconst 1, 1) := by decide +kernel
theorem dX3_remember_39 : decode cX3_remember 39 = .ok (.goto 4, 3) := by decide +kernel
theorem dX3_remember_42 : decode cX3_remember 42 = .ok (.iconst 0, 1) := by decide +kernel
theorem dX3_remember_43 : decode cX3_remember 43 = .ok (.putfield 27, 3) := by decide +kernel
theorem dX3_remember_46 : decode cX3_remember 46 = .ok (.return_, 1) := by decide +kernel
set_option maxHeartbeats 4000000 in
set_option maxRecDepth 100000 in
theorem c_X3_remember (l : Launch) (D : va_G) (cy : Nat → ClassId) (ad adK adV : Nat → Nat) (M : Mm) (o0 : Nat) (a1 : Int32) (a2 : Int32) (a3 : Int32) (res : Mm × Unit) (h : f_X3_remember M o0 a1 a2 a3 = some res) : Met l yX3_remember (wU yX3_remember cX3_remember 4 none) rmX3_remember (va_Pc [.ref (ad o0), .int a1, .int a2, .int a3] (Pre D cy shX ad nX adK adV M)) (va_Qv (fun (M2 : Mm) => M2 = res.1) (Pre D cy shX ad nX adK adV) (Aw ad nX)) 0 0 (Aw ad nX) := by
  refine Met.ofW (cc := cX3_remember) (maxL := 4) (ret := none) (by decide) rfl ?_
  intro p e s m args below meth c s₁ B hml hv
  obtain ⟨hargs, hPre⟩ := hv
  have hx := B.exec
  have hb := B.bytes
  have hr := B.returns
  have hts := atoms_spec (ws := wU yX3_remember cX3_remember 4 none) B.pre
  have hq : ∀ w ∈ gW, w.before args s = true := fun w hw => hts w (List.mem_cons_of_mem _ hw)
  have hcm : ∀ w ∈ gW, w ∈ wU yX3_remember cX3_remember 4 none := fun w hw => List.mem_cons_of_mem _ hw
  have hown : s.vm.findClass RX3 = some m.cls := findClass_of_methodNamed B.named
  have hlocks := B.notSynchronized
  have hF : CallFix p m c cX3_remember 4 s args (wU yX3_remember cX3_remember 4 none) RX3 := ⟨hx, hb, hml, hown, hts⟩
  have hK := hPre.2.1
  have hZ := hPre.2.2.2
  have hw : Wd D cy shX ad nX (Aw ad nX) s.heap M s.heap [] := ⟨hPre.1, hPre.2.2.1, va_S.rf⟩
  have iw3 : ∀ w ∈ u_ws RX3 TX3 6, w ∈ wU yX3_remember cX3_remember 4 none := fun w hw => List.mem_cons_of_mem _ (iX3 w hw)
  rw [show entryFrame m args 4 = entryFrame m ([.ref (ad o0), .int a1, .int a2, .int a3] : List Value).toArray 4 from by rw [hargs]]
  have hl := lv_entry ([.ref (ad o0), .int a1, .int a2, .int a3]) (n := 4) (Nat.le_of_ble_eq_true rfl)
  rw [lg_entry_eq]
  generalize (lg_sl ([.ref (ad o0), .int a1, .int a2, .int a3]) ++ List.replicate (4 - (lg_sl ([.ref (ad o0), .int a1, .int a2, .int a3])).length) Slot.unset).toArray = ls at hl ⊢
  have hl : lv_has ls 4 [(0, .ref (ad o0)), (1, .int a1), (2, .int a2), (3, .int a3)] := hl
  have hb43 : ∀ (M : Mm) (t0 : Nat) (t1 : Int32), f_X3_remember_b43 M t0 t1 = some res → ∀ (H : Heap) (locs : List Loc) (ls : Array Slot), Wd D cy shX ad nX (Aw ad nX) s.heap M H locs → lv_has ls 4 [] → W p l e (headSpec (wU yX3_remember cX3_remember 4 none) rmX3_remember).room s m args below meth c H locs 0 0 (QV D cy shX ad nX adK adV below args s res) (F0 m 43 ls [.int t1, .ref (ad t0)]) := by
    intro M t0 t1 h H locs ls hw hl
    unfold f_X3_remember_b43 at h
    replace h := gd_some h
    obtain ⟨g1, h⟩ := h
    replace h := gd_some h
    obtain ⟨z2, h⟩ := h
    refine r_putI hx hb hts iw3 tyX3 tyX3_ok nmX3 hown hK hw t0 5 g1 (by decide) rfl (by decide) rfl (hq _ qw112) (fun _ h9 => h9) rfl (nar_bz z2) (fit_bz z2) dX3_remember_43 (fun H locs hw => ?_)
    replace h := lt_some h
    obtain ⟨M3, eM3, h⟩ := h
    rw [← eM3] at hw
    exact r_vret hx hb hr hlocks hZ hK hw h dX3_remember_46
  have hb32 : ∀ (M : Mm) (x0 : Nat) (x3 : Int32), f_X3_remember_b32 M x0 x3 = some res → ∀ (H : Heap) (locs : List Loc) (ls : Array Slot), Wd D cy shX ad nX (Aw ad nX) s.heap M H locs → lv_has ls 4 [(0, .ref (ad x0)), (3, .int x3)] → W p l e (headSpec (wU yX3_remember cX3_remember 4 none) rmX3_remember).room s m args below meth c H locs 0 0 (QV D cy shX ad nX adK adV below args s res) (F0 m 32 ls []) := by
    intro M x0 x3 h H locs ls hw hl
    unfold f_X3_remember_b32 at h
    refine lv_aload_n hx hb dX3_remember_32 rfl (lv_at hl 0 rfl) ?_
    refine lv_iload_n hx hb dX3_remember_33 rfl (lv_at hl 1 rfl) ?_
    refine lv_iconst (v := (3 : Int32)) hx hb dX3_remember_34 (by decide) ?_
    refine lv_icmp_ne (tgt := 42) hx hb dX3_remember_35 (by decide) (fun c4 => ?_) (fun c4 => ?_)
    · replace h := if_some_f c4 h
      refine lv_iconst (v := (0 : Int32)) hx hb dX3_remember_42 (by decide) ?_
      exact hb43 _ _ _ h _ _ _ hw (lv_sub hl [] rfl)
    · replace h := if_some_t c4 h
      refine lv_iconst (v := (1 : Int32)) hx hb dX3_remember_38 (by decide) ?_
      refine lv_goto (tgt := 43) hx hb dX3_remember_39 (by decide) ?_
      exact hb43 _ _ _ h _ _ _ hw (lv_sub hl [] rfl)
  unfold f_X3_remember at h
  refine lv_iload_n hx hb dX3_remember_0 rfl (lv_at hl 1 rfl) ?_
  refine lv_if_eq (tgt := 27) hx hb dX3_remember_1 (by decide) (fun c5 => ?_) (fun c5 => ?_)
  · replace h := if_some_t c5 h
    refine lv_aload_n hx hb dX3_remember_27 rfl (lv_at hl 0 rfl) ?_
    refine lv_iconst (v := (0 : Int32)) hx hb dX3_remember_28 (by decide) ?_
    replace h := gd_some h
    obtain ⟨g6, h⟩ := h
    refine r_putI hx hb hts iw3 tyX3 tyX3_ok nmX3 hown hK hw o0 4 g6 (by decide) rfl (by decide) rfl (hq _ qw110) (fun _ h9 => h9) rfl rfl rfl dX3_remember_29 (fun H locs hw => ?_)
    replace h := lt_some h
    obtain ⟨M7, eM7, h⟩ := h
    rw [← eM7] at hw
    exact hb32 _ _ _ h _ _ _ hw (lv_sub hl [0, 3] rfl)
  · replace h := if_some_f c5 h
    refine lv_aload_n hx hb dX3_remember_4 rfl (lv_at hl 0 rfl) ?_
    refine lv_dup hx hb dX3_remember_5 rfl ?_
    replace h := gd_some h
    obtain ⟨g8, h⟩ := h
    refine r_getI hx hb hts iw3 hown hK hw o0 3 g8 (by decide) rfl (by decide) rfl (hq _ qw106) (fun _ h9 => h9) dX3_remember_6 ?_
    refine lv_iload_n hx hb dX3_remember_9 rfl (lv_at hl 2 rfl) ?_
    refine lv_iadd hx hb dX3_remember_10 ?_
    refine r_putI hx hb hts iw3 tyX3 tyX3_ok nmX3 hown hK hw o0 3 g8 (by decide) rfl (by decide) rfl (hq _ qw106) (fun _ h9 => h9) rfl rfl rfl dX3_remember_11 (fun H locs hw => ?_)
    replace h := lt_some h
    obtain ⟨M9, eM9, h⟩ := h
    rw [← eM9] at hw
    refine lv_aload_n hx hb dX3_remember_14 rfl (lv_at hl 0 rfl) ?_
    refine lv_dup hx hb dX3_remember_15 rfl ?_
    refine r_getI hx hb hts iw3 hown hK hw o0 4 g8 (by decide) rfl (by decide) rfl (hq _ qw110) (fun _ h9 => h9) dX3_remember_16 ?_
    refine lv_iconst (v := (1 : Int32)) hx hb dX3_remember_19 (by decide) ?_
    refine lv_iadd hx hb dX3_remember_20 ?_
    refine r_putI hx hb hts iw3 tyX3 tyX3_ok nmX3 hown hK hw o0 4 g8 (by decide) rfl (by decide) rfl (hq _ qw110) (fun _ h9 => h9) rfl rfl rfl dX3_remember_21 (fun H locs hw => ?_)
    replace h := lt_some h
    obtain ⟨M10, eM10, h⟩ := h
    rw [← eM10] at hw
    refine lv_goto (tgt := 32) hx hb dX3_remember_24 (by decide) ?_
    exact hb32 _ _ _ h _ _ _ hw (lv_sub hl [0, 3] rfl)

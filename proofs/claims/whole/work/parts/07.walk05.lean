theorem dX6_inLowestTerms_0 : decode cX6_inLowestTerms 0 = .ok (.lload_n 2, 1) := by decide +kernel
theorem dX6_inLowestTerms_1 : decode cX6_inLowestTerms 1 = .ok (.lstore 5, 2) := by decide +kernel
theorem dX6_inLowestTerms_3 : decode cX6_inLowestTerms 3 = .ok (.lload_n 0, 1) := by decide +kernel
theorem dX6_inLowestTerms_4 : decode cX6_inLowestTerms 4 = .ok (.lstore 7, 2) := by decide +kernel
theorem dX6_inLowestTerms_6 : decode cX6_inLowestTerms 6 = .ok (.iconst 0, 1) := by decide +kernel
theorem dX6_inLowestTerms_7 : decode cX6_inLowestTerms 7 = .ok (.istore 9, 2) := by decide +kernel
theorem dX6_inLowestTerms_9 : decode cX6_inLowestTerms 9 = .ok (.iload 9, 2) := by decide +kernel
theorem dX6_inLowestTerms_11 : decode cX6_inLowestTerms 11 = .ok (.bipush 100, 2) := by decide +kernel
theorem dX6_inLowestTerms_13 : decode cX6_inLowestTerms 13 = .ok (.if_icmp .ge 31, 3) := by decide +kernel
theorem dX6_inLowestTerms_16 : decode cX6_inLowestTerms 16 = .ok (.lload 7, 2) := by decide +kernel
theorem dX6_inLowestTerms_18 : decode cX6_inLowestTerms 18 = .ok (.lconst 0, 1) := by decide +kernel
theorem dX6_inLowestTerms_19 : decode cX6_inLowestTerms 19 = .ok (.lcmp, 1) := by decide +kernel
theorem dX6_inLowestTerms_20 : decode cX6_inLowestTerms 20 = .ok (.ifCond .eq 24, 3) := by decide +kernel
theorem dX6_inLowestTerms_23 : decode cX6_inLowestTerms 23 = .ok (.lload 5, 2) := by decide +kernel
theorem dX6_inLowestTerms_25 : decode cX6_inLowestTerms 25 = .ok (.lload 7, 2) := by decide +kernel
theorem dX6_inLowestTerms_27 : decode cX6_inLowestTerms 27 = .ok (.lrem, 1) := by decide +kernel
theorem dX6_inLowestTerms_28 : decode cX6_inLowestTerms 28 = .ok (.lstore 10, 2) := by decide +kernel
theorem dX6_inLowestTerms_30 : decode cX6_inLowestTerms 30 = .ok (.lload 7, 2) := by decide +kernel
theorem dX6_inLowestTerms_32 : decode cX6_inLowestTerms 32 = .ok (.lstore 5, 2) := by decide +kernel
theorem dX6_inLowestTerms_34 : decode cX6_inLowestTerms 34 = .ok (.lload 10, 2) := by decide +kernel
theorem dX6_inLowestTerms_36 : decode cX6_inLowestTerms 36 = .ok (.lstore 7, 2) := by decide +kernel
theorem dX6_inLowestTerms_38 : decode cX6_inLowestTerms 38 = .ok (.iinc 9 1, 3) := by decide +kernel
theorem dX6_inLowestTerms_41 : decode cX6_inLowestTerms 41 = .ok (.goto (-32), 3) := by decide +kernel
theorem dX6_inLowestTerms_44 : decode cX6_inLowestTerms 44 = .ok (.lload 5, 2) := by decide +kernel
theorem dX6_inLowestTerms_46 : decode cX6_inLowestTerms 46 = .ok (.lconst 0, 1) := by decide +kernel
theorem dX6_inLowestTerms_47 : decode cX6_inLowestTerms 47 = .ok (.lcmp, 1) := by decide +kernel
theorem dX6_inLowestTerms_48 : decode cX6_inLowestTerms 48 = .ok (.ifCond .ne 5, 3) := by decide +kernel
theorem dX6_inLowestTerms_51 : decode cX6_inLowestTerms 51 = .ok (.lconst 0, 1) := by decide +kernel
theorem dX6_inLowestTerms_52 : decode cX6_inLowestTerms 52 = .ok (.lreturn, 1) := by decide +kernel
theorem dX6_inLowestTerms_53 : decode cX6_inLowestTerms 53 = .ok (.iload 4, 2) := by decide +kernel
theorem dX6_inLowestTerms_55 : decode cX6_inLowestTerms 55 = .ok (.ifCond .ne 7, 3) := by decide +kernel
theorem dX6_inLowestTerms_58 : decode cX6_inLowestTerms 58 = .ok (.lload_n 0, 1) := by decide +kernel
theorem dX6_inLowestTerms_59 : decode cX6_inLowestTerms 59 = .ok (.goto 4, 3) := by decide +kernel
theorem dX6_inLowestTerms_62 : decode cX6_inLowestTerms 62 = .ok (.lload_n 2, 1) := by decide +kernel
theorem dX6_inLowestTerms_63 : decode cX6_inLowestTerms 63 = .ok (.lload 5, 2) := by decide +kernel
theorem dX6_inLowestTerms_65 : decode cX6_inLowestTerms 65 = .ok (.ldiv, 1) := by decide +kernel
theorem dX6_inLowestTerms_66 : decode cX6_inLowestTerms 66 = .ok (.lreturn, 1) := by decide +kernel
set_option maxHeartbeats 4000000 in
set_option maxRecDepth 100000 in
theorem c_X6_inLowestTerms (l : Launch) (D : va_G) (cy : Nat → ClassId) (ad adK adV : Nat → Nat) (M : Mm) (a0 : Int64) (a2 : Int64) (a4 : Int32) (res : Mm × Int64) (h : f_X6_inLowestTerms M a0 a2 a4 = some res) : Met l yX6_inLowestTerms (wU yX6_inLowestTerms cX6_inLowestTerms 12 (some .long)) rmX6_inLowestTerms (va_Pc [.long a0, .long a2, .int a4] (Pre D cy shX ad nX adK adV M)) (va_Ql (fun r (M2 : Mm) => r = res.2 ∧ M2 = res.1) (Pre D cy shX ad nX adK adV) (Aw ad nX)) 0 0 (Aw ad nX) := by
  refine Met.ofW (cc := cX6_inLowestTerms) (maxL := 12) (ret := (some .long)) (by decide) rfl ?_
  intro p e s m args below meth c s₁ B hml hv
  obtain ⟨hargs, hPre⟩ := hv
  have hx := B.exec
  have hb := B.bytes
  have hr := B.returns
  have hts := atoms_spec (ws := wU yX6_inLowestTerms cX6_inLowestTerms 12 (some .long)) B.pre
  have hq : ∀ w ∈ gW, w.before args s = true := fun w hw => hts w (List.mem_cons_of_mem _ hw)
  have hcm : ∀ w ∈ gW, w ∈ wU yX6_inLowestTerms cX6_inLowestTerms 12 (some .long) := fun w hw => List.mem_cons_of_mem _ hw
  have hown : s.vm.findClass RX6 = some m.cls := findClass_of_methodNamed B.named
  have hlocks := B.notSynchronized
  have hF : CallFix p m c cX6_inLowestTerms 12 s args (wU yX6_inLowestTerms cX6_inLowestTerms 12 (some .long)) RX6 := ⟨hx, hb, hml, hown, hts⟩
  have hK := hPre.2.1
  have hZ := hPre.2.2.2
  have hw : Wd D cy shX ad nX (Aw ad nX) s.heap M s.heap [] := ⟨hPre.1, hPre.2.2.1, va_S.rf⟩
  rw [show entryFrame m args 12 = entryFrame m ([.long a0, .long a2, .int a4] : List Value).toArray 12 from by rw [hargs]]
  have hl := lv_entry ([.long a0, .long a2, .int a4]) (n := 12) (Nat.le_of_ble_eq_true rfl)
  rw [lg_entry_eq]
  generalize (lg_sl ([.long a0, .long a2, .int a4]) ++ List.replicate (12 - (lg_sl ([.long a0, .long a2, .int a4])).length) Slot.unset).toArray = ls at hl ⊢
  have hl : lv_has ls 12 [(0, .long a0), (2, .long a2), (4, .int a4)] := hl
  have hb63 : ∀ (M : Mm) (x5 : Int64) (t0 : Int64), f_X6_inLowestTerms_b63 M x5 t0 = some res → ∀ (H : Heap) (locs : List Loc) (ls : Array Slot), Wd D cy shX ad nX (Aw ad nX) s.heap M H locs → lv_has ls 12 [(5, .long x5)] → W p l e (headSpec (wU yX6_inLowestTerms cX6_inLowestTerms 12 (some .long)) rmX6_inLowestTerms).room s m args below meth c H locs 0 0 (QL D cy shX ad nX adK adV below args s res) (F0 m 63 ls [.long t0]) := by
    intro M x5 t0 h H locs ls hw hl
    unfold f_X6_inLowestTerms_b63 at h
    refine lv_lload hx hb dX6_inLowestTerms_63 (lv_at hl 0 rfl) ?_
    replace h := gd_some h
    obtain ⟨g1, h⟩ := h
    refine lv_ldiv hx hb dX6_inLowestTerms_65 g1 ?_
    exact r_lret hx hb hr hlocks hZ hK hw h dX6_inLowestTerms_66
  have hb44 : ∀ (M : Mm) (x0 : Int64) (x2 : Int64) (x4 : Int32) (x5 : Int64), f_X6_inLowestTerms_b44 M x0 x2 x4 x5 = some res → ∀ (H : Heap) (locs : List Loc) (ls : Array Slot), Wd D cy shX ad nX (Aw ad nX) s.heap M H locs → lv_has ls 12 [(0, .long x0), (2, .long x2), (4, .int x4), (5, .long x5)] → W p l e (headSpec (wU yX6_inLowestTerms cX6_inLowestTerms 12 (some .long)) rmX6_inLowestTerms).room s m args below meth c H locs 0 0 (QL D cy shX ad nX adK adV below args s res) (F0 m 44 ls []) := by
    intro M x0 x2 x4 x5 h H locs ls hw hl
    unfold f_X6_inLowestTerms_b44 at h
    refine lv_lload hx hb dX6_inLowestTerms_44 (lv_at hl 3 rfl) ?_
    refine lv_lconst (v := (0 : Int64)) hx hb dX6_inLowestTerms_46 (by decide) ?_
    refine W.lcmp hx hb dX6_inLowestTerms_47 ?_
    refine lv_if_ne (tgt := 53) hx hb dX6_inLowestTerms_48 (by decide) (fun c2 => ?_) (fun c2 => ?_)
    · replace h := if_some_f c2 h
      refine lv_iload hx hb dX6_inLowestTerms_53 (lv_at hl 2 rfl) ?_
      refine lv_if_ne (tgt := 62) hx hb dX6_inLowestTerms_55 (by decide) (fun c3 => ?_) (fun c3 => ?_)
      · replace h := if_some_f c3 h
        refine lv_lload_n hx hb dX6_inLowestTerms_62 rfl (lv_at hl 1 rfl) ?_
        exact hb63 _ _ _ h _ _ _ hw (lv_sub hl [3] rfl)
      · replace h := if_some_t c3 h
        refine lv_lload_n hx hb dX6_inLowestTerms_58 rfl (lv_at hl 0 rfl) ?_
        refine lv_goto (tgt := 63) hx hb dX6_inLowestTerms_59 (by decide) ?_
        exact hb63 _ _ _ h _ _ _ hw (lv_sub hl [3] rfl)
    · replace h := if_some_t c2 h
      refine lv_lconst (v := (0 : Int64)) hx hb dX6_inLowestTerms_51 (by decide) ?_
      exact r_lret hx hb hr hlocks hZ hK hw h dX6_inLowestTerms_52
  have hb9 : ∀ (nn : Nat), ∀ (M : Mm) (x0 : Int64) (x2 : Int64) (x4 : Int32) (x5 : Int64) (x7 : Int64) (x9 : Int32), f_X6_inLowestTerms_b9 nn M x0 x2 x4 x5 x7 x9 = some res → ∀ (H : Heap) (locs : List Loc) (ls : Array Slot), Wd D cy shX ad nX (Aw ad nX) s.heap M H locs → lv_has ls 12 [(0, .long x0), (2, .long x2), (4, .int x4), (5, .long x5), (7, .long x7), (9, .int x9)] → W p l e (headSpec (wU yX6_inLowestTerms cX6_inLowestTerms 12 (some .long)) rmX6_inLowestTerms).room s m args below meth c H locs 0 0 (QL D cy shX ad nX adK adV below args s res) (F0 m 9 ls []) := by
    intro nn
    induction nn with
    | zero => intro M x0 x2 x4 x5 x7 x9 h; simp [f_X6_inLowestTerms_b9] at h
    | succ nn ih =>
      intro M x0 x2 x4 x5 x7 x9 h H locs ls hw hl
      unfold f_X6_inLowestTerms_b9 at h
      refine lv_iload hx hb dX6_inLowestTerms_9 (lv_at hl 5 rfl) ?_
      refine lv_bipush (v := (100 : Int32)) hx hb dX6_inLowestTerms_11 (by decide) ?_
      refine lv_icmp_ge (tgt := 44) hx hb dX6_inLowestTerms_13 (by decide) (fun c4 => ?_) (fun c4 => ?_)
      · replace h := if_some_t c4 h
        exact hb44 _ _ _ _ _ h _ _ _ hw (lv_sub hl [0, 1, 2, 3] rfl)
      · replace h := if_some_f c4 h
        refine lv_lload hx hb dX6_inLowestTerms_16 (lv_at hl 4 rfl) ?_
        refine lv_lconst (v := (0 : Int64)) hx hb dX6_inLowestTerms_18 (by decide) ?_
        refine W.lcmp hx hb dX6_inLowestTerms_19 ?_
        refine lv_if_eq (tgt := 44) hx hb dX6_inLowestTerms_20 (by decide) (fun c5 => ?_) (fun c5 => ?_)
        · replace h := if_some_t c5 h
          exact hb44 _ _ _ _ _ h _ _ _ hw (lv_sub hl [0, 1, 2, 3] rfl)
        · replace h := if_some_f c5 h
          refine lv_lload hx hb dX6_inLowestTerms_23 (lv_at hl 3 rfl) ?_
          refine lv_lload hx hb dX6_inLowestTerms_25 (lv_at hl 4 rfl) ?_
          replace h := gd_some h
          obtain ⟨g6, h⟩ := h
          refine lv_lrem hx hb dX6_inLowestTerms_27 g6 ?_
          refine lv_lstore (lv' := [(10, .long (x5 - x5 / x7 * x7)), (0, .long x0), (2, .long x2), (4, .int x4), (5, .long x5), (7, .long x7), (9, .int x9)]) hx hb dX6_inLowestTerms_28 hl (by decide) rfl (fun ls hl => ?_)
          refine lv_lload hx hb dX6_inLowestTerms_30 (lv_at hl 5 rfl) ?_
          refine lv_lstore (lv' := [(5, .long x7), (10, .long (x5 - x5 / x7 * x7)), (0, .long x0), (2, .long x2), (4, .int x4), (7, .long x7), (9, .int x9)]) hx hb dX6_inLowestTerms_32 hl (by decide) rfl (fun ls hl => ?_)
          refine lv_lload hx hb dX6_inLowestTerms_34 (lv_at hl 1 rfl) ?_
          refine lv_lstore (lv' := [(7, .long (x5 - x5 / x7 * x7)), (5, .long x7), (10, .long (x5 - x5 / x7 * x7)), (0, .long x0), (2, .long x2), (4, .int x4), (9, .int x9)]) hx hb dX6_inLowestTerms_36 hl (by decide) rfl (fun ls hl => ?_)
          refine lv_iinc (v := x9 + (1 : Int32)) (lv' := [(9, .int (x9 + (1 : Int32))), (7, .long (x5 - x5 / x7 * x7)), (5, .long x7), (10, .long (x5 - x5 / x7 * x7)), (0, .long x0), (2, .long x2), (4, .int x4)]) hx hb dX6_inLowestTerms_38 hl (k := 6) rfl (congrArg (fun z => x9 + z) (by decide)) (by decide) rfl (fun ls hl => ?_)
          refine lv_goto (tgt := 9) hx hb dX6_inLowestTerms_41 (by decide) ?_
          exact ih _ _ _ _ _ _ _ h _ _ _ hw (lv_sub hl [4, 5, 6, 2, 1, 0] rfl)
  unfold f_X6_inLowestTerms at h
  refine lv_lload_n hx hb dX6_inLowestTerms_0 rfl (lv_at hl 1 rfl) ?_
  refine lv_lstore (lv' := [(5, .long a2), (0, .long a0), (2, .long a2), (4, .int a4)]) hx hb dX6_inLowestTerms_1 hl (by decide) rfl (fun ls hl => ?_)
  refine lv_lload_n hx hb dX6_inLowestTerms_3 rfl (lv_at hl 1 rfl) ?_
  refine lv_lstore (lv' := [(7, .long a0), (5, .long a2), (0, .long a0), (2, .long a2), (4, .int a4)]) hx hb dX6_inLowestTerms_4 hl (by decide) rfl (fun ls hl => ?_)
  refine lv_iconst (v := (0 : Int32)) hx hb dX6_inLowestTerms_6 (by decide) ?_
  refine lv_istore (lv' := [(9, .int (0 : Int32)), (7, .long a0), (5, .long a2), (0, .long a0), (2, .long a2), (4, .int a4)]) hx hb dX6_inLowestTerms_7 hl (by decide) rfl (fun ls hl => ?_)
  exact hb9 1000 _ _ _ _ _ _ _ h _ _ _ hw (lv_sub hl [3, 4, 5, 2, 1, 0] rfl)
theorem dX6_isPart_0 : decode cX6_isPart 0 = .ok (.iload_n 0, 1) := by decide +kernel
theorem dX6_isPart_1 : decode cX6_isPart 1 = .ok (.ifCond .eq 8, 3) := by decide +kernel
theorem dX6_isPart_4 : decode cX6_isPart 4 = .ok (.iload_n 0, 1) := by decide +kernel
theorem dX6_isPart_5 : decode cX6_isPart 5 = .ok (.iconst 1, 1) := by decide +kernel
theorem dX6_isPart_6 : decode cX6_isPart 6 = .ok (.if_icmp .ne 7, 3) := by decide +kernel
theorem dX6_isPart_9 : decode cX6_isPart 9 = .ok (.iconst 1, 1) := by decide +kernel
theorem dX6_isPart_10 : decode cX6_isPart 10 = .ok (.goto 4, 3) := by decide +kernel
theorem dX6_isPart_13 : decode cX6_isPart 13 = .ok (.iconst 0, 1) := by decide +kernel
theorem dX6_isPart_14 : decode cX6_isPart 14 = .ok (.ireturn, 1) := by decide +kernel
set_option maxHeartbeats 4000000 in
set_option maxRecDepth 100000 in
theorem c_X6_isPart (l : Launch) (D : va_G) (cy : Nat → ClassId) (ad adK adV : Nat → Nat) (M : Mm) (a0 : Int32) (res : Mm × Int32) (h : f_X6_isPart M a0 = some res) : Met l yX6_isPart (wU yX6_isPart cX6_isPart 1 (some .boolean)) rmX6_isPart (va_Pc [.int a0] (Pre D cy shX ad nX adK adV M)) (va_Qi (fun r (M2 : Mm) => r = res.2 ∧ M2 = res.1) (Pre D cy shX ad nX adK adV) (Aw ad nX)) 0 0 (Aw ad nX) := by
  refine Met.ofW (cc := cX6_isPart) (maxL := 1) (ret := (some .boolean)) (by decide) rfl ?_
  intro p e s m args below meth c s₁ B hml hv
  obtain ⟨hargs, hPre⟩ := hv
  have hx := B.exec
  have hb := B.bytes
  have hr := B.returns
  have hts := atoms_spec (ws := wU yX6_isPart cX6_isPart 1 (some .boolean)) B.pre
  have hq : ∀ w ∈ gW, w.before args s = true := fun w hw => hts w (List.mem_cons_of_mem _ hw)
  have hcm : ∀ w ∈ gW, w ∈ wU yX6_isPart cX6_isPart 1 (some .boolean) := fun w hw => List.mem_cons_of_mem _ hw
  have hown : s.vm.findClass RX6 = some m.cls := findClass_of_methodNamed B.named
  have hlocks := B.notSynchronized
  have hF : CallFix p m c cX6_isPart 1 s args (wU yX6_isPart cX6_isPart 1 (some .boolean)) RX6 := ⟨hx, hb, hml, hown, hts⟩
  have hK := hPre.2.1
  have hZ := hPre.2.2.2
  have hw : Wd D cy shX ad nX (Aw ad nX) s.heap M s.heap [] := ⟨hPre.1, hPre.2.2.1, va_S.rf⟩
  rw [show entryFrame m args 1 = entryFrame m ([.int a0] : List Value).toArray 1 from by rw [hargs]]
  have hl := lv_entry ([.int a0]) (n := 1) (Nat.le_of_ble_eq_true rfl)
  rw [lg_entry_eq]
  generalize (lg_sl ([.int a0]) ++ List.replicate (1 - (lg_sl ([.int a0])).length) Slot.unset).toArray = ls at hl ⊢
  have hl : lv_has ls 1 [(0, .int a0)] := hl
  have hb9 : ∀ (M : Mm) , f_X6_isPart_b9 M  = some res → ∀ (H : Heap) (locs : List Loc) (ls : Array Slot), Wd D cy shX ad nX (Aw ad nX) s.heap M H locs → lv_has ls 1 [] → W p l e (headSpec (wU yX6_isPart cX6_isPart 1 (some .boolean)) rmX6_isPart).room s m args below meth c H locs 0 0 (QI D cy shX ad nX adK adV below args s res) (F0 m 9 ls []) := by
    intro M h H locs ls hw hl
    unfold f_X6_isPart_b9 at h
    refine lv_iconst (v := (1 : Int32)) hx hb dX6_isPart_9 (by decide) ?_
    refine lv_goto (tgt := 14) hx hb dX6_isPart_10 (by decide) ?_
    exact r_iret hx hb hr rfl hlocks hZ hK hw h dX6_isPart_14
  unfold f_X6_isPart at h
  refine lv_iload_n hx hb dX6_isPart_0 rfl (lv_at hl 0 rfl) ?_
  refine lv_if_eq (tgt := 9) hx hb dX6_isPart_1 (by decide) (fun c1 => ?_) (fun c1 => ?_)
  · replace h := if_some_t c1 h
    exact hb9 _ h _ _ _ hw (lv_sub hl [] rfl)
  · replace h := if_some_f c1 h
    refine lv_iload_n hx hb dX6_isPart_4 rfl (lv_at hl 0 rfl) ?_
    refine lv_iconst (v := (1 : Int32)) hx hb dX6_isPart_5 (by decide) ?_
    refine lv_icmp_ne (tgt := 13) hx hb dX6_isPart_6 (by decide) (fun c2 => ?_) (fun c2 => ?_)
    · replace h := if_some_f c2 h
      refine lv_iconst (v := (0 : Int32)) hx hb dX6_isPart_13 (by decide) ?_
      exact r_iret hx hb hr rfl hlocks hZ hK hw h dX6_isPart_14
    · replace h := if_some_t c2 h
      exact hb9 _ h _ _ _ hw (lv_sub hl [] rfl)
theorem dX6_gets_0 : decode cX6_gets 0 = .ok (.aload_n 0, 1) := by decide +kernel
theorem dX6_gets_1 : decode cX6_gets 1 = .ok (.getfield 10, 3) := by decide +kernel
theorem dX6_gets_4 : decode cX6_gets 4 = .ok (.iload_n 1, 1) := by decide +kernel
theorem dX6_gets_5 : decode cX6_gets 5 = .ok (.invokevirtual 114, 3) := by decide +kernel
theorem dX6_gets_8 : decode cX6_gets 8 = .ok (.ifCond .eq 21, 3) := by decide +kernel
theorem dX6_gets_11 : decode cX6_gets 11 = .ok (.aload_n 0, 1) := by decide +kernel
theorem dX6_gets_12 : decode cX6_gets 12 = .ok (.getfield 10, 3) := by decide +kernel
theorem dX6_gets_15 : decode cX6_gets 15 = .ok (.iload_n 2, 1) := by decide +kernel
theorem dX6_gets_16 : decode cX6_gets 16 = .ok (.invokevirtual 71, 3) := by decide +kernel
theorem dX6_gets_19 : decode cX6_gets 19 = .ok (.ifCond .eq 10, 3) := by decide +kernel
theorem dX6_gets_22 : decode cX6_gets 22 = .ok (.iload_n 3, 1) := by decide +kernel
theorem dX6_gets_23 : decode cX6_gets 23 = .ok (.invokestatic 189, 3) := by decide +kernel
theorem dX6_gets_26 : decode cX6_gets 26 = .ok (.ifCond .ne 10, 3) := by decide +kernel
theorem dX6_gets_29 : decode cX6_gets 29 = .ok (.aload_n 0, 1) := by decide +kernel
theorem dX6_gets_30 : decode cX6_gets 30 = .ok (.iconst 0, 1) := by decide +kernel
theorem dX6_gets_31 : decode cX6_gets 31 = .ok (.invokevirtual 59, 3) := by decide +kernel
theorem dX6_gets_34 : decode cX6_gets 34 = .ok (.i2l, 1) := by decide +kernel
theorem dX6_gets_35 : decode cX6_gets 35 = .ok (.lreturn, 1) := by decide +kernel
theorem dX6_gets_36 : decode cX6_gets 36 = .ok (.aload_n 0, 1) := by decide +kernel
theorem dX6_gets_37 : decode cX6_gets 37 = .ok (.invokevirtual 192, 3) := by decide +kernel
theorem dX6_gets_40 : decode cX6_gets 40 = .ok (.aload_n 0, 1) := by decide +kernel
theorem dX6_gets_41 : decode cX6_gets 41 = .ok (.getfield 10, 3) := by decide +kernel
theorem dX6_gets_44 : decode cX6_gets 44 = .ok (.getfield 120, 3) := by decide +kernel
theorem dX6_gets_47 : decode cX6_gets 47 = .ok (.iload_n 1, 1) := by decide +kernel
theorem dX6_gets_48 : decode cX6_gets 48 = .ok (.aaload, 1) := by decide +kernel
theorem dX6_gets_49 : decode cX6_gets 49 = .ok (.astore 4, 2) := by decide +kernel
theorem dX6_gets_51 : decode cX6_gets 51 = .ok (.lconst 0, 1) := by decide +kernel
theorem dX6_gets_52 : decode cX6_gets 52 = .ok (.lstore 5, 2) := by decide +kernel
theorem dX6_gets_54 : decode cX6_gets 54 = .ok (.iload_n 2, 1) := by decide +kernel
theorem dX6_gets_55 : decode cX6_gets 55 = .ok (.aload 4, 2) := by decide +kernel
theorem dX6_gets_57 : decode cX6_gets 57 = .ok (.getfield 124, 3) := by decide +kernel
theorem dX6_gets_60 : decode cX6_gets 60 = .ok (.if_icmp .ne 17, 3) := by decide +kernel
theorem dX6_gets_63 : decode cX6_gets 63 = .ok (.aload_n 0, 1) := by decide +kernel
theorem dX6_gets_64 : decode cX6_gets 64 = .ok (.getfield 26, 3) := by decide +kernel
theorem dX6_gets_67 : decode cX6_gets 67 = .ok (.getfield 195, 3) := by decide +kernel
theorem dX6_gets_70 : decode cX6_gets 70 = .ok (.iload_n 1, 1) := by decide +kernel
theorem dX6_gets_71 : decode cX6_gets 71 = .ok (.laload, 1) := by decide +kernel
theorem dX6_gets_72 : decode cX6_gets 72 = .ok (.lstore 5, 2) := by decide +kernel
theorem dX6_gets_74 : decode cX6_gets 74 = .ok (.goto 31, 3) := by decide +kernel
theorem dX6_gets_77 : decode cX6_gets 77 = .ok (.iload_n 2, 1) := by decide +kernel
theorem dX6_gets_78 : decode cX6_gets 78 = .ok (.aload 4, 2) := by decide +kernel
theorem dX6_gets_80 : decode cX6_gets 80 = .ok (.getfield 129, 3) := by decide +kernel
theorem dX6_gets_83 : decode cX6_gets 83 = .ok (.if_icmp .ne 22, 3) := by decide +kernel
theorem dX6_gets_86 : decode cX6_gets 86 = .ok (.aload_n 0, 1) := by decide +kernel
theorem dX6_gets_87 : decode cX6_gets 87 = .ok (.getfield 26, 3) := by decide +kernel
theorem dX6_gets_90 : decode cX6_gets 90 = .ok (.getfield 199, 3) := by decide +kernel
theorem dX6_gets_93 : decode cX6_gets 93 = .ok (.aload_n 0, 1) := by decide +kernel
theorem dX6_gets_94 : decode cX6_gets 94 = .ok (.getfield 26, 3) := by decide +kernel
theorem dX6_gets_97 : decode cX6_gets 97 = .ok (.getfield 195, 3) := by decide +kernel
theorem dX6_gets_100 : decode cX6_gets 100 = .ok (.iload_n 1, 1) := by decide +kernel
theorem dX6_gets_101 : decode cX6_gets 101 = .ok (.laload, 1) := by decide +kernel
theorem dX6_gets_102 : decode cX6_gets 102 = .ok (.lsub, 1) := by decide +kernel
theorem dX6_gets_103 : decode cX6_gets 103 = .ok (.lstore 5, 2) := by decide +kernel
theorem dX6_gets_105 : decode cX6_gets 105 = .ok (.lload 5, 2) := by decide +kernel
theorem dX6_gets_107 : decode cX6_gets 107 = .ok (.aload_n 0, 1) := by decide +kernel
theorem dX6_gets_108 : decode cX6_gets 108 = .ok (.getfield 26, 3) := by decide +kernel
theorem dX6_gets_111 : decode cX6_gets 111 = .ok (.getfield 199, 3) := by decide +kernel
theorem dX6_gets_114 : decode cX6_gets 114 = .ok (.iload_n 3, 1) := by decide +kernel
theorem dX6_gets_115 : decode cX6_gets 115 = .ok (.invokestatic 203, 3) := by decide +kernel
theorem dX6_gets_118 : decode cX6_gets 118 = .ok (.lreturn, 1) := by decide +kernel
set_option maxHeartbeats 4000000 in
set_option maxRecDepth 100000 in
theorem c_X6_gets (l : Launch) (D : va_G) (cy : Nat → ClassId) (ad adK adV : Nat → Nat) (M : Mm) (o0 : Nat) (a1 : Int32) (a2 : Int32) (a3 : Int32) (res : Mm × Int64) (h : f_X6_gets M o0 a1 a2 a3 = some res) : Met l yX6_gets (wU yX6_gets cX6_gets 7 (some .long)) rmX6_gets (va_Pc [.ref (ad o0), .int a1, .int a2, .int a3] (Pre D cy shX ad nX adK adV M)) (va_Ql (fun r (M2 : Mm) => r = res.2 ∧ M2 = res.1) (Pre D cy shX ad nX adK adV) (Aw ad nX)) 0 0 (Aw ad nX) := by
  refine Met.ofW (cc := cX6_gets) (maxL := 7) (ret := (some .long)) (by decide) rfl ?_
  intro p e s m args below meth c s₁ B hml hv
  obtain ⟨hargs, hPre⟩ := hv
  have hx := B.exec
  have hb := B.bytes
  have hr := B.returns
  have hts := atoms_spec (ws := wU yX6_gets cX6_gets 7 (some .long)) B.pre
  have hq : ∀ w ∈ gW, w.before args s = true := fun w hw => hts w (List.mem_cons_of_mem _ hw)
  have hcm : ∀ w ∈ gW, w ∈ wU yX6_gets cX6_gets 7 (some .long) := fun w hw => List.mem_cons_of_mem _ hw
  have hown : s.vm.findClass RX6 = some m.cls := findClass_of_methodNamed B.named
  have hlocks := B.notSynchronized
  have hF : CallFix p m c cX6_gets 7 s args (wU yX6_gets cX6_gets 7 (some .long)) RX6 := ⟨hx, hb, hml, hown, hts⟩
  have hK := hPre.2.1
  have hZ := hPre.2.2.2
  have hw : Wd D cy shX ad nX (Aw ad nX) s.heap M s.heap [] := ⟨hPre.1, hPre.2.2.1, va_S.rf⟩
  have iw0 : ∀ w ∈ u_ws RX0 TX0 9, w ∈ wU yX6_gets cX6_gets 7 (some .long) := fun w hw => List.mem_cons_of_mem _ (iX0 w hw)
  have iw1 : ∀ w ∈ u_ws RX1 TX1 11, w ∈ wU yX6_gets cX6_gets 7 (some .long) := fun w hw => List.mem_cons_of_mem _ (iX1 w hw)
  have iw5 : ∀ w ∈ u_ws RX5 TX5 13, w ∈ wU yX6_gets cX6_gets 7 (some .long) := fun w hw => List.mem_cons_of_mem _ (iX5 w hw)
  have iw6 : ∀ w ∈ u_ws RX6 TX6 8, w ∈ wU yX6_gets cX6_gets 7 (some .long) := fun w hw => List.mem_cons_of_mem _ (iX6 w hw)
  rw [show entryFrame m args 7 = entryFrame m ([.ref (ad o0), .int a1, .int a2, .int a3] : List Value).toArray 7 from by rw [hargs]]
  have hl := lv_entry ([.ref (ad o0), .int a1, .int a2, .int a3]) (n := 7) (Nat.le_of_ble_eq_true rfl)
  rw [lg_entry_eq]
  generalize (lg_sl ([.ref (ad o0), .int a1, .int a2, .int a3]) ++ List.replicate (7 - (lg_sl ([.ref (ad o0), .int a1, .int a2, .int a3])).length) Slot.unset).toArray = ls at hl ⊢
  have hl : lv_has ls 7 [(0, .ref (ad o0)), (1, .int a1), (2, .int a2), (3, .int a3)] := hl
  have hb105 : ∀ (M : Mm) (x0 : Nat) (x3 : Int32) (x5 : Int64), f_X6_gets_b105 M x0 x3 x5 = some res → ∀ (H : Heap) (locs : List Loc) (ls : Array Slot), Wd D cy shX ad nX (Aw ad nX) s.heap M H locs → lv_has ls 7 [(0, .ref (ad x0)), (3, .int x3), (5, .long x5)] → W p l e (headSpec (wU yX6_gets cX6_gets 7 (some .long)) rmX6_gets).room s m args below meth c H locs 0 0 (QL D cy shX ad nX adK adV below args s res) (F0 m 105 ls []) := by
    intro M x0 x3 x5 h H locs ls hw hl
    unfold f_X6_gets_b105 at h
    refine lv_lload hx hb dX6_gets_105 (lv_at hl 2 rfl) ?_
    refine lv_aload_n hx hb dX6_gets_107 rfl (lv_at hl 0 rfl) ?_
    replace h := gd_some h
    obtain ⟨g1, h⟩ := h
    replace h := bd_some h
    obtain ⟨q2, eq2, h⟩ := h
    refine r_getR hx hb hts iw6 hown hK hw x0 3 g1 (by decide) rfl (by decide) rfl (hq _ qw338) (fun _ h9 => h9) dX6_gets_108 eq2 ?_
    replace h := gd_some h
    obtain ⟨g3, h⟩ := h
    refine r_getL hx hb hts iw5 hown hK hw q2 6 g3 (by decide) rfl (by decide) rfl (hq _ qw251) (fun _ h9 => h9) dX6_gets_111 ?_
    refine lv_iload_n hx hb dX6_gets_114 rfl (lv_at hl 1 rfl) ?_
    replace h := bd_some h
    obtain ⟨r4, er4, h⟩ := h
    refine r_callSl (As := [.long x5, .long (M.2.1 q2 6), .int x3]) (rest := []) hF (c_X6_inLowestTerms l D cy ad adK adV M x5 (M.2.1 q2 6) x3 r4 er4) (gW_goodS hcm qw705 qw703 qw704 qw60) hdX6_inLowestTerms ⟨Nat.le_of_ble_eq_true rfl, Nat.le_of_ble_eq_true rfl⟩ rfl rfl hZ hK hw rfl hl.1 rfl (Nat.le_of_ble_eq_true rfl) ⟨Nat.zero_le _, Nat.zero_le _⟩ dX6_gets_115 (fun H locs hw => ?_)
    exact r_lret hx hb hr hlocks hZ hK hw h dX6_gets_118
  have hb29 : ∀ (M : Mm) (x0 : Nat), f_X6_gets_b29 M x0 = some res → ∀ (H : Heap) (locs : List Loc) (ls : Array Slot), Wd D cy shX ad nX (Aw ad nX) s.heap M H locs → lv_has ls 7 [(0, .ref (ad x0))] → W p l e (headSpec (wU yX6_gets cX6_gets 7 (some .long)) rmX6_gets).room s m args below meth c H locs 0 0 (QL D cy shX ad nX adK adV below args s res) (F0 m 29 ls []) := by
    intro M x0 h H locs ls hw hl
    unfold f_X6_gets_b29 at h
    refine lv_aload_n hx hb dX6_gets_29 rfl (lv_at hl 0 rfl) ?_
    refine lv_iconst (v := (0 : Int32)) hx hb dX6_gets_30 (by decide) ?_
    replace h := gd_some h
    obtain ⟨g6, h⟩ := h
    replace h := bd_some h
    obtain ⟨r5, er5, h⟩ := h
    refine r_callVi (As := [.int (0 : Int32)]) (rest := []) hF (c_X6_finding l D cy ad adK adV M x0 (0 : Int32) r5 er5) (gW_goodV hcm qw373 qw370 qw372 qw0 qw60) hdX6_finding rfl ⟨Nat.le_of_ble_eq_true rfl, Nat.le_of_ble_eq_true rfl⟩ rfl rfl hZ hK hw g6 (by decide) rfl rfl hl.1 rfl (Nat.le_of_ble_eq_true rfl) ⟨Nat.zero_le _, Nat.zero_le _⟩ dX6_gets_31 (fun H locs hw => ?_)
    refine lv_i2l (v := r5.2.toInt64) hx hb dX6_gets_34 rfl ?_
    exact r_lret hx hb hr hlocks hZ hK hw h dX6_gets_35
  unfold f_X6_gets at h
  refine lv_aload_n hx hb dX6_gets_0 rfl (lv_at hl 0 rfl) ?_
  replace h := gd_some h
  obtain ⟨g7, h⟩ := h
  replace h := bd_some h
  obtain ⟨q8, eq8, h⟩ := h
  refine r_getR hx hb hts iw6 hown hK hw o0 0 g7 (by decide) rfl (by decide) rfl (hq _ qw335) (fun _ h9 => h9) dX6_gets_1 eq8 ?_
  refine lv_iload_n hx hb dX6_gets_4 rfl (lv_at hl 1 rfl) ?_
  replace h := gd_some h
  obtain ⟨g10, h⟩ := h
  replace h := bd_some h
  obtain ⟨r9, er9, h⟩ := h
  refine r_callVi (As := [.int a1]) (rest := []) hF (c_X1_hasGame l D cy ad adK adV M q8 a1 r9 er9) (gW_goodV hcm qw429 qw426 qw427 qw428 qw61) hdX1_hasGame rfl ⟨Nat.le_of_ble_eq_true rfl, Nat.le_of_ble_eq_true rfl⟩ rfl rfl hZ hK hw g10 (by decide) rfl rfl hl.1 rfl (Nat.le_of_ble_eq_true rfl) ⟨Nat.zero_le _, Nat.zero_le _⟩ dX6_gets_5 (fun H locs hw => ?_)
  refine lv_if_eq (tgt := 29) hx hb dX6_gets_8 (by decide) (fun c11 => ?_) (fun c11 => ?_)
  · replace h := if_some_t c11 h
    exact hb29 _ _ h _ _ _ hw (lv_sub hl [0] rfl)
  · replace h := if_some_f c11 h
    refine lv_aload_n hx hb dX6_gets_11 rfl (lv_at hl 0 rfl) ?_
    replace h := bd_some h
    obtain ⟨q12, eq12, h⟩ := h
    refine r_getR hx hb hts iw6 hown hK hw o0 0 g7 (by decide) rfl (by decide) rfl (hq _ qw335) (fun _ h9 => h9) dX6_gets_12 eq12 ?_
    refine lv_iload_n hx hb dX6_gets_15 rfl (lv_at hl 2 rfl) ?_
    replace h := gd_some h
    obtain ⟨g14, h⟩ := h
    replace h := bd_some h
    obtain ⟨r13, er13, h⟩ := h
    refine r_callVi (As := [.int a2]) (rest := []) hF (c_X1_hasSide l D cy ad adK adV r9.1 q12 a2 r13 er13) (gW_goodV hcm qw390 qw387 qw388 qw389 qw61) hdX1_hasSide rfl ⟨Nat.le_of_ble_eq_true rfl, Nat.le_of_ble_eq_true rfl⟩ rfl rfl hZ hK hw g14 (by decide) rfl rfl hl.1 rfl (Nat.le_of_ble_eq_true rfl) ⟨Nat.zero_le _, Nat.zero_le _⟩ dX6_gets_16 (fun H locs hw => ?_)
    refine lv_if_eq (tgt := 29) hx hb dX6_gets_19 (by decide) (fun c15 => ?_) (fun c15 => ?_)
    · replace h := if_some_t c15 h
      exact hb29 _ _ h _ _ _ hw (lv_sub hl [0] rfl)
    · replace h := if_some_f c15 h
      refine lv_iload_n hx hb dX6_gets_22 rfl (lv_at hl 3 rfl) ?_
      replace h := bd_some h
      obtain ⟨r16, er16, h⟩ := h
      refine r_callSi (As := [.int a3]) (rest := []) hF (c_X6_isPart l D cy ad adK adV r13.1 a3 r16 er16) (gW_goodS hcm qw672 qw670 qw671 qw60) hdX6_isPart ⟨Nat.le_of_ble_eq_true rfl, Nat.le_of_ble_eq_true rfl⟩ rfl rfl hZ hK hw rfl hl.1 rfl (Nat.le_of_ble_eq_true rfl) ⟨Nat.zero_le _, Nat.zero_le _⟩ dX6_gets_23 (fun H locs hw => ?_)
      refine lv_if_ne (tgt := 36) hx hb dX6_gets_26 (by decide) (fun c17 => ?_) (fun c17 => ?_)
      · replace h := if_some_f c17 h
        refine lv_aload_n hx hb dX6_gets_36 rfl (lv_at hl 0 rfl) ?_
        replace h := bd_some h
        obtain ⟨r18, er18, h⟩ := h
        refine r_callVv (As := []) (rest := []) hF (c_X6_goLikelyWays l D cy ad adK adV r16.1 o0 r18 er18) (gW_goodV hcm qw676 qw673 qw675 qw11 qw60) hdX6_goLikelyWays rfl ⟨Nat.le_of_ble_eq_true rfl, Nat.le_of_ble_eq_true rfl⟩ rfl rfl hZ hK hw g7 (by decide) rfl rfl hl.1 rfl (Nat.le_of_ble_eq_true rfl) ⟨Nat.zero_le _, Nat.zero_le _⟩ dX6_gets_37 (fun H locs hw => ?_)
        refine lv_aload_n hx hb dX6_gets_40 rfl (lv_at hl 0 rfl) ?_
        replace h := bd_some h
        obtain ⟨q19, eq19, h⟩ := h
        refine r_getR hx hb hts iw6 hown hK hw o0 0 g7 (by decide) rfl (by decide) rfl (hq _ qw335) (fun _ h9 => h9) dX6_gets_41 eq19 ?_
        replace h := gd_some h
        obtain ⟨g20, h⟩ := h
        replace h := bd_some h
        obtain ⟨q21, eq21, h⟩ := h
        refine r_getR hx hb hts iw1 hown hK hw q19 1 g20 (by decide) rfl (by decide) rfl (hq _ qw186) (fun _ h9 => h9) dX6_gets_44 eq21 ?_
        refine lv_iload_n hx hb dX6_gets_47 rfl (lv_at hl 1 rfl) ?_
        replace h := gd_some h
        obtain ⟨g22, h⟩ := h
        replace h := bd_some h
        obtain ⟨q23, eq23, h⟩ := h
        refine r_aald hx hb hK hw q21 3 (by decide) rfl g22 dX6_gets_48 eq23 ?_
        refine lv_astore (lv' := [(4, .ref (ad q23)), (0, .ref (ad o0)), (1, .int a1), (2, .int a2), (3, .int a3)]) hx hb dX6_gets_49 hl (by decide) rfl (fun ls hl => ?_)
        refine lv_lconst (v := (0 : Int64)) hx hb dX6_gets_51 (by decide) ?_
        refine lv_lstore (lv' := [(5, .long (0 : Int64)), (4, .ref (ad q23)), (0, .ref (ad o0)), (1, .int a1), (2, .int a2), (3, .int a3)]) hx hb dX6_gets_52 hl (by decide) rfl (fun ls hl => ?_)
        refine lv_iload_n hx hb dX6_gets_54 rfl (lv_at hl 4 rfl) ?_
        refine lv_aload hx hb dX6_gets_55 (lv_at hl 1 rfl) ?_
        replace h := gd_some h
        obtain ⟨g24, h⟩ := h
        refine r_getI hx hb hts iw0 hown hK hw q23 0 g24 (by decide) rfl (by decide) rfl (hq _ qw136) (fun _ h9 => h9) dX6_gets_57 ?_
        refine lv_icmp_ne (tgt := 77) hx hb dX6_gets_60 (by decide) (fun c25 => ?_) (fun c25 => ?_)
        · replace h := if_some_f c25 h
          refine lv_iload_n hx hb dX6_gets_77 rfl (lv_at hl 4 rfl) ?_
          refine lv_aload hx hb dX6_gets_78 (lv_at hl 1 rfl) ?_
          refine r_getI hx hb hts iw0 hown hK hw q23 1 g24 (by decide) rfl (by decide) rfl (hq _ qw140) (fun _ h9 => h9) dX6_gets_80 ?_
          refine lv_icmp_ne (tgt := 105) hx hb dX6_gets_83 (by decide) (fun c26 => ?_) (fun c26 => ?_)
          · replace h := if_some_f c26 h
            exact hb105 _ _ _ _ h _ _ _ hw (lv_sub hl [2, 5, 0] rfl)
          · replace h := if_some_t c26 h
            refine lv_aload_n hx hb dX6_gets_86 rfl (lv_at hl 2 rfl) ?_
            replace h := bd_some h
            obtain ⟨q27, eq27, h⟩ := h
            refine r_getR hx hb hts iw6 hown hK hw o0 3 g7 (by decide) rfl (by decide) rfl (hq _ qw338) (fun _ h9 => h9) dX6_gets_87 eq27 ?_
            replace h := gd_some h
            obtain ⟨g28, h⟩ := h
            refine r_getL hx hb hts iw5 hown hK hw q27 6 g28 (by decide) rfl (by decide) rfl (hq _ qw251) (fun _ h9 => h9) dX6_gets_90 ?_
            refine lv_aload_n hx hb dX6_gets_93 rfl (lv_at hl 2 rfl) ?_
            replace h := bd_some h
            obtain ⟨q29, eq29, h⟩ := h
            refine r_getR hx hb hts iw6 hown hK hw o0 3 g7 (by decide) rfl (by decide) rfl (hq _ qw338) (fun _ h9 => h9) dX6_gets_94 eq29 ?_
            replace h := gd_some h
            obtain ⟨g30, h⟩ := h
            replace h := bd_some h
            obtain ⟨q31, eq31, h⟩ := h
            refine r_getR hx hb hts iw5 hown hK hw q29 3 g30 (by decide) rfl (by decide) rfl (hq _ qw246) (fun _ h9 => h9) dX6_gets_97 eq31 ?_
            refine lv_iload_n hx hb dX6_gets_100 rfl (lv_at hl 3 rfl) ?_
            replace h := gd_some h
            obtain ⟨g32, h⟩ := h
            refine r_lald hx hb hK hw q31 g32 dX6_gets_101 ?_
            refine lv_lsub hx hb dX6_gets_102 ?_
            refine lv_topl (fun y33 ey33 => ?_)
            replace h := lt_at ey33 h
            refine lv_lstore (lv' := [(5, .long y33), (4, .ref (ad q23)), (0, .ref (ad o0)), (1, .int a1), (2, .int a2), (3, .int a3)]) hx hb dX6_gets_103 hl (by decide) rfl (fun ls hl => ?_)
            exact hb105 _ _ _ _ h _ _ _ hw (lv_sub hl [2, 5, 0] rfl)
        · replace h := if_some_t c25 h
          refine lv_aload_n hx hb dX6_gets_63 rfl (lv_at hl 2 rfl) ?_
          replace h := bd_some h
          obtain ⟨q34, eq34, h⟩ := h
          refine r_getR hx hb hts iw6 hown hK hw o0 3 g7 (by decide) rfl (by decide) rfl (hq _ qw338) (fun _ h9 => h9) dX6_gets_64 eq34 ?_
          replace h := gd_some h
          obtain ⟨g35, h⟩ := h
          replace h := bd_some h
          obtain ⟨q36, eq36, h⟩ := h
          refine r_getR hx hb hts iw5 hown hK hw q34 3 g35 (by decide) rfl (by decide) rfl (hq _ qw246) (fun _ h9 => h9) dX6_gets_67 eq36 ?_
          refine lv_iload_n hx hb dX6_gets_70 rfl (lv_at hl 3 rfl) ?_
          replace h := gd_some h
          obtain ⟨g37, h⟩ := h
          refine r_lald hx hb hK hw q36 g37 dX6_gets_71 ?_
          refine lv_lstore (lv' := [(5, .long (r18.1.2.1 q36 a1.toNatClampNeg)), (4, .ref (ad q23)), (0, .ref (ad o0)), (1, .int a1), (2, .int a2), (3, .int a3)]) hx hb dX6_gets_72 hl (by decide) rfl (fun ls hl => ?_)
          refine lv_goto (tgt := 105) hx hb dX6_gets_74 (by decide) ?_
          exact hb105 _ _ _ _ h _ _ _ hw (lv_sub hl [2, 5, 0] rfl)
      · replace h := if_some_t c17 h
        exact hb29 _ _ h _ _ _ hw (lv_sub hl [0] rfl)
theorem dX6_first_0 : decode cX6_first 0 = .ok (.aload_n 0, 1) := by decide +kernel
theorem dX6_first_1 : decode cX6_first 1 = .ok (.getfield 10, 3) := by decide +kernel
theorem dX6_first_4 : decode cX6_first 4 = .ok (.iload_n 1, 1) := by decide +kernel
theorem dX6_first_5 : decode cX6_first 5 = .ok (.invokevirtual 71, 3) := by decide +kernel
theorem dX6_first_8 : decode cX6_first 8 = .ok (.ifCond .eq 10, 3) := by decide +kernel
theorem dX6_first_11 : decode cX6_first 11 = .ok (.iload_n 2, 1) := by decide +kernel
theorem dX6_first_12 : decode cX6_first 12 = .ok (.invokestatic 189, 3) := by decide +kernel
theorem dX6_first_15 : decode cX6_first 15 = .ok (.ifCond .ne 10, 3) := by decide +kernel
theorem dX6_first_18 : decode cX6_first 18 = .ok (.aload_n 0, 1) := by decide +kernel
theorem dX6_first_19 : decode cX6_first 19 = .ok (.iconst 0, 1) := by decide +kernel
theorem dX6_first_20 : decode cX6_first 20 = .ok (.invokevirtual 59, 3) := by decide +kernel
theorem dX6_first_23 : decode cX6_first 23 = .ok (.i2l, 1) := by decide +kernel
theorem dX6_first_24 : decode cX6_first 24 = .ok (.lreturn, 1) := by decide +kernel
theorem dX6_first_25 : decode cX6_first 25 = .ok (.aload_n 0, 1) := by decide +kernel
theorem dX6_first_26 : decode cX6_first 26 = .ok (.invokevirtual 192, 3) := by decide +kernel
theorem dX6_first_29 : decode cX6_first 29 = .ok (.aload_n 0, 1) := by decide +kernel
theorem dX6_first_30 : decode cX6_first 30 = .ok (.getfield 26, 3) := by decide +kernel
theorem dX6_first_33 : decode cX6_first 33 = .ok (.getfield 207, 3) := by decide +kernel
theorem dX6_first_36 : decode cX6_first 36 = .ok (.iload_n 1, 1) := by decide +kernel
theorem dX6_first_37 : decode cX6_first 37 = .ok (.laload, 1) := by decide +kernel
theorem dX6_first_38 : decode cX6_first 38 = .ok (.aload_n 0, 1) := by decide +kernel
theorem dX6_first_39 : decode cX6_first 39 = .ok (.getfield 26, 3) := by decide +kernel
theorem dX6_first_42 : decode cX6_first 42 = .ok (.getfield 199, 3) := by decide +kernel
theorem dX6_first_45 : decode cX6_first 45 = .ok (.iload_n 2, 1) := by decide +kernel
theorem dX6_first_46 : decode cX6_first 46 = .ok (.invokestatic 203, 3) := by decide +kernel
theorem dX6_first_49 : decode cX6_first 49 = .ok (.lreturn, 1) := by decide +kernel
set_option maxHeartbeats 4000000 in
set_option maxRecDepth 100000 in
theorem c_X6_first (l : Launch) (D : va_G) (cy : Nat → ClassId) (ad adK adV : Nat → Nat) (M : Mm) (o0 : Nat) (a1 : Int32) (a2 : Int32) (res : Mm × Int64) (h : f_X6_first M o0 a1 a2 = some res) : Met l yX6_first (wU yX6_first cX6_first 3 (some .long)) rmX6_first (va_Pc [.ref (ad o0), .int a1, .int a2] (Pre D cy shX ad nX adK adV M)) (va_Ql (fun r (M2 : Mm) => r = res.2 ∧ M2 = res.1) (Pre D cy shX ad nX adK adV) (Aw ad nX)) 0 0 (Aw ad nX) := by
  refine Met.ofW (cc := cX6_first) (maxL := 3) (ret := (some .long)) (by decide) rfl ?_
  intro p e s m args below meth c s₁ B hml hv
  obtain ⟨hargs, hPre⟩ := hv
  have hx := B.exec
  have hb := B.bytes
  have hr := B.returns
  have hts := atoms_spec (ws := wU yX6_first cX6_first 3 (some .long)) B.pre
  have hq : ∀ w ∈ gW, w.before args s = true := fun w hw => hts w (List.mem_cons_of_mem _ hw)
  have hcm : ∀ w ∈ gW, w ∈ wU yX6_first cX6_first 3 (some .long) := fun w hw => List.mem_cons_of_mem _ hw
  have hown : s.vm.findClass RX6 = some m.cls := findClass_of_methodNamed B.named
  have hlocks := B.notSynchronized
  have hF : CallFix p m c cX6_first 3 s args (wU yX6_first cX6_first 3 (some .long)) RX6 := ⟨hx, hb, hml, hown, hts⟩
  have hK := hPre.2.1
  have hZ := hPre.2.2.2
  have hw : Wd D cy shX ad nX (Aw ad nX) s.heap M s.heap [] := ⟨hPre.1, hPre.2.2.1, va_S.rf⟩
  have iw5 : ∀ w ∈ u_ws RX5 TX5 13, w ∈ wU yX6_first cX6_first 3 (some .long) := fun w hw => List.mem_cons_of_mem _ (iX5 w hw)
  have iw6 : ∀ w ∈ u_ws RX6 TX6 8, w ∈ wU yX6_first cX6_first 3 (some .long) := fun w hw => List.mem_cons_of_mem _ (iX6 w hw)
  rw [show entryFrame m args 3 = entryFrame m ([.ref (ad o0), .int a1, .int a2] : List Value).toArray 3 from by rw [hargs]]
  have hl := lv_entry ([.ref (ad o0), .int a1, .int a2]) (n := 3) (Nat.le_of_ble_eq_true rfl)
  rw [lg_entry_eq]
  generalize (lg_sl ([.ref (ad o0), .int a1, .int a2]) ++ List.replicate (3 - (lg_sl ([.ref (ad o0), .int a1, .int a2])).length) Slot.unset).toArray = ls at hl ⊢
  have hl : lv_has ls 3 [(0, .ref (ad o0)), (1, .int a1), (2, .int a2)] := hl
  have hb18 : ∀ (M : Mm) (x0 : Nat), f_X6_first_b18 M x0 = some res → ∀ (H : Heap) (locs : List Loc) (ls : Array Slot), Wd D cy shX ad nX (Aw ad nX) s.heap M H locs → lv_has ls 3 [(0, .ref (ad x0))] → W p l e (headSpec (wU yX6_first cX6_first 3 (some .long)) rmX6_first).room s m args below meth c H locs 0 0 (QL D cy shX ad nX adK adV below args s res) (F0 m 18 ls []) := by
    intro M x0 h H locs ls hw hl
    unfold f_X6_first_b18 at h
    refine lv_aload_n hx hb dX6_first_18 rfl (lv_at hl 0 rfl) ?_
    refine lv_iconst (v := (0 : Int32)) hx hb dX6_first_19 (by decide) ?_
    replace h := gd_some h
    obtain ⟨g2, h⟩ := h
    replace h := bd_some h
    obtain ⟨r1, er1, h⟩ := h
    refine r_callVi (As := [.int (0 : Int32)]) (rest := []) hF (c_X6_finding l D cy ad adK adV M x0 (0 : Int32) r1 er1) (gW_goodV hcm qw373 qw370 qw372 qw0 qw60) hdX6_finding rfl ⟨Nat.le_of_ble_eq_true rfl, Nat.le_of_ble_eq_true rfl⟩ rfl rfl hZ hK hw g2 (by decide) rfl rfl hl.1 rfl (Nat.le_of_ble_eq_true rfl) ⟨Nat.zero_le _, Nat.zero_le _⟩ dX6_first_20 (fun H locs hw => ?_)
    refine lv_i2l (v := r1.2.toInt64) hx hb dX6_first_23 rfl ?_
    exact r_lret hx hb hr hlocks hZ hK hw h dX6_first_24
  unfold f_X6_first at h
  refine lv_aload_n hx hb dX6_first_0 rfl (lv_at hl 0 rfl) ?_
  replace h := gd_some h
  obtain ⟨g3, h⟩ := h
  replace h := bd_some h
  obtain ⟨q4, eq4, h⟩ := h
  refine r_getR hx hb hts iw6 hown hK hw o0 0 g3 (by decide) rfl (by decide) rfl (hq _ qw335) (fun _ h9 => h9) dX6_first_1 eq4 ?_
  refine lv_iload_n hx hb dX6_first_4 rfl (lv_at hl 1 rfl) ?_
  replace h := gd_some h
  obtain ⟨g6, h⟩ := h
  replace h := bd_some h
  obtain ⟨r5, er5, h⟩ := h
  refine r_callVi (As := [.int a1]) (rest := []) hF (c_X1_hasSide l D cy ad adK adV M q4 a1 r5 er5) (gW_goodV hcm qw390 qw387 qw388 qw389 qw61) hdX1_hasSide rfl ⟨Nat.le_of_ble_eq_true rfl, Nat.le_of_ble_eq_true rfl⟩ rfl rfl hZ hK hw g6 (by decide) rfl rfl hl.1 rfl (Nat.le_of_ble_eq_true rfl) ⟨Nat.zero_le _, Nat.zero_le _⟩ dX6_first_5 (fun H locs hw => ?_)
  refine lv_if_eq (tgt := 18) hx hb dX6_first_8 (by decide) (fun c7 => ?_) (fun c7 => ?_)
  · replace h := if_some_t c7 h
    exact hb18 _ _ h _ _ _ hw (lv_sub hl [0] rfl)
  · replace h := if_some_f c7 h
    refine lv_iload_n hx hb dX6_first_11 rfl (lv_at hl 2 rfl) ?_
    replace h := bd_some h
    obtain ⟨r8, er8, h⟩ := h
    refine r_callSi (As := [.int a2]) (rest := []) hF (c_X6_isPart l D cy ad adK adV r5.1 a2 r8 er8) (gW_goodS hcm qw672 qw670 qw671 qw60) hdX6_isPart ⟨Nat.le_of_ble_eq_true rfl, Nat.le_of_ble_eq_true rfl⟩ rfl rfl hZ hK hw rfl hl.1 rfl (Nat.le_of_ble_eq_true rfl) ⟨Nat.zero_le _, Nat.zero_le _⟩ dX6_first_12 (fun H locs hw => ?_)
    refine lv_if_ne (tgt := 25) hx hb dX6_first_15 (by decide) (fun c9 => ?_) (fun c9 => ?_)
    · replace h := if_some_f c9 h
      refine lv_aload_n hx hb dX6_first_25 rfl (lv_at hl 0 rfl) ?_
      replace h := bd_some h
      obtain ⟨r10, er10, h⟩ := h
      refine r_callVv (As := []) (rest := []) hF (c_X6_goLikelyWays l D cy ad adK adV r8.1 o0 r10 er10) (gW_goodV hcm qw676 qw673 qw675 qw11 qw60) hdX6_goLikelyWays rfl ⟨Nat.le_of_ble_eq_true rfl, Nat.le_of_ble_eq_true rfl⟩ rfl rfl hZ hK hw g3 (by decide) rfl rfl hl.1 rfl (Nat.le_of_ble_eq_true rfl) ⟨Nat.zero_le _, Nat.zero_le _⟩ dX6_first_26 (fun H locs hw => ?_)
      refine lv_aload_n hx hb dX6_first_29 rfl (lv_at hl 0 rfl) ?_
      replace h := bd_some h
      obtain ⟨q11, eq11, h⟩ := h
      refine r_getR hx hb hts iw6 hown hK hw o0 3 g3 (by decide) rfl (by decide) rfl (hq _ qw338) (fun _ h9 => h9) dX6_first_30 eq11 ?_
      replace h := gd_some h
      obtain ⟨g12, h⟩ := h
      replace h := bd_some h
      obtain ⟨q13, eq13, h⟩ := h
      refine r_getR hx hb hts iw5 hown hK hw q11 2 g12 (by decide) rfl (by decide) rfl (hq _ qw244) (fun _ h9 => h9) dX6_first_33 eq13 ?_
      refine lv_iload_n hx hb dX6_first_36 rfl (lv_at hl 1 rfl) ?_
      replace h := gd_some h
      obtain ⟨g14, h⟩ := h
      refine r_lald hx hb hK hw q13 g14 dX6_first_37 ?_
      refine lv_aload_n hx hb dX6_first_38 rfl (lv_at hl 0 rfl) ?_
      replace h := bd_some h
      obtain ⟨q15, eq15, h⟩ := h
      refine r_getR hx hb hts iw6 hown hK hw o0 3 g3 (by decide) rfl (by decide) rfl (hq _ qw338) (fun _ h9 => h9) dX6_first_39 eq15 ?_
      replace h := gd_some h
      obtain ⟨g16, h⟩ := h
      refine r_getL hx hb hts iw5 hown hK hw q15 6 g16 (by decide) rfl (by decide) rfl (hq _ qw251) (fun _ h9 => h9) dX6_first_42 ?_
      refine lv_iload_n hx hb dX6_first_45 rfl (lv_at hl 2 rfl) ?_
      replace h := bd_some h
      obtain ⟨r17, er17, h⟩ := h
      refine r_callSl (As := [.long (r10.1.2.1 q13 a1.toNatClampNeg), .long (r10.1.2.1 q15 6), .int a2]) (rest := []) hF (c_X6_inLowestTerms l D cy ad adK adV r10.1 (r10.1.2.1 q13 a1.toNatClampNeg) (r10.1.2.1 q15 6) a2 r17 er17) (gW_goodS hcm qw705 qw703 qw704 qw60) hdX6_inLowestTerms ⟨Nat.le_of_ble_eq_true rfl, Nat.le_of_ble_eq_true rfl⟩ rfl rfl hZ hK hw rfl hl.1 rfl (Nat.le_of_ble_eq_true rfl) ⟨Nat.zero_le _, Nat.zero_le _⟩ dX6_first_46 (fun H locs hw => ?_)
      exact r_lret hx hb hr hlocks hZ hK hw h dX6_first_49
    · replace h := if_some_t c9 h
      exact hb18 _ _ h _ _ _ hw (lv_sub hl [0] rfl)
theorem dX6_mean_0 : decode cX6_mean 0 = .ok (.aload_n 0, 1) := by decide +kernel
theorem dX6_mean_1 : decode cX6_mean 1 = .ok (.getfield 10, 3) := by decide +kernel
theorem dX6_mean_4 : decode cX6_mean 4 = .ok (.iload_n 1, 1) := by decide +kernel
theorem dX6_mean_5 : decode cX6_mean 5 = .ok (.invokevirtual 71, 3) := by decide +kernel
theorem dX6_mean_8 : decode cX6_mean 8 = .ok (.ifCond .eq 10, 3) := by decide +kernel
theorem dX6_mean_11 : decode cX6_mean 11 = .ok (.iload_n 2, 1) := by decide +kernel
theorem dX6_mean_12 : decode cX6_mean 12 = .ok (.invokestatic 189, 3) := by decide +kernel
theorem dX6_mean_15 : decode cX6_mean 15 = .ok (.ifCond .ne 10, 3) := by decide +kernel
theorem dX6_mean_18 : decode cX6_mean 18 = .ok (.aload_n 0, 1) := by decide +kernel
theorem dX6_mean_19 : decode cX6_mean 19 = .ok (.iconst 0, 1) := by decide +kernel
theorem dX6_mean_20 : decode cX6_mean 20 = .ok (.invokevirtual 59, 3) := by decide +kernel
theorem dX6_mean_23 : decode cX6_mean 23 = .ok (.i2l, 1) := by decide +kernel
theorem dX6_mean_24 : decode cX6_mean 24 = .ok (.lreturn, 1) := by decide +kernel
theorem dX6_mean_25 : decode cX6_mean 25 = .ok (.aload_n 0, 1) := by decide +kernel
theorem dX6_mean_26 : decode cX6_mean 26 = .ok (.invokevirtual 192, 3) := by decide +kernel
theorem dX6_mean_29 : decode cX6_mean 29 = .ok (.aload_n 0, 1) := by decide +kernel
theorem dX6_mean_30 : decode cX6_mean 30 = .ok (.getfield 26, 3) := by decide +kernel
theorem dX6_mean_33 : decode cX6_mean 33 = .ok (.getfield 210, 3) := by decide +kernel
theorem dX6_mean_36 : decode cX6_mean 36 = .ok (.iload_n 1, 1) := by decide +kernel
theorem dX6_mean_37 : decode cX6_mean 37 = .ok (.laload, 1) := by decide +kernel
theorem dX6_mean_38 : decode cX6_mean 38 = .ok (.aload_n 0, 1) := by decide +kernel
theorem dX6_mean_39 : decode cX6_mean 39 = .ok (.getfield 26, 3) := by decide +kernel
theorem dX6_mean_42 : decode cX6_mean 42 = .ok (.getfield 199, 3) := by decide +kernel
theorem dX6_mean_45 : decode cX6_mean 45 = .ok (.iload_n 2, 1) := by decide +kernel
theorem dX6_mean_46 : decode cX6_mean 46 = .ok (.invokestatic 203, 3) := by decide +kernel
theorem dX6_mean_49 : decode cX6_mean 49 = .ok (.lreturn, 1) := by decide +kernel
set_option maxHeartbeats 4000000 in
set_option maxRecDepth 100000 in
theorem c_X6_mean (l : Launch) (D : va_G) (cy : Nat → ClassId) (ad adK adV : Nat → Nat) (M : Mm) (o0 : Nat) (a1 : Int32) (a2 : Int32) (res : Mm × Int64) (h : f_X6_mean M o0 a1 a2 = some res) : Met l yX6_mean (wU yX6_mean cX6_mean 3 (some .long)) rmX6_mean (va_Pc [.ref (ad o0), .int a1, .int a2] (Pre D cy shX ad nX adK adV M)) (va_Ql (fun r (M2 : Mm) => r = res.2 ∧ M2 = res.1) (Pre D cy shX ad nX adK adV) (Aw ad nX)) 0 0 (Aw ad nX) := by
  refine Met.ofW (cc := cX6_mean) (maxL := 3) (ret := (some .long)) (by decide) rfl ?_
  intro p e s m args below meth c s₁ B hml hv
  obtain ⟨hargs, hPre⟩ := hv
  have hx := B.exec
  have hb := B.bytes
  have hr := B.returns
  have hts := atoms_spec (ws := wU yX6_mean cX6_mean 3 (some .long)) B.pre
  have hq : ∀ w ∈ gW, w.before args s = true := fun w hw => hts w (List.mem_cons_of_mem _ hw)
  have hcm : ∀ w ∈ gW, w ∈ wU yX6_mean cX6_mean 3 (some .long) := fun w hw => List.mem_cons_of_mem _ hw
  have hown : s.vm.findClass RX6 = some m.cls := findClass_of_methodNamed B.named
  have hlocks := B.notSynchronized
  have hF : CallFix p m c cX6_mean 3 s args (wU yX6_mean cX6_mean 3 (some .long)) RX6 := ⟨hx, hb, hml, hown, hts⟩
  have hK := hPre.2.1
  have hZ := hPre.2.2.2
  have hw : Wd D cy shX ad nX (Aw ad nX) s.heap M s.heap [] := ⟨hPre.1, hPre.2.2.1, va_S.rf⟩
  have iw5 : ∀ w ∈ u_ws RX5 TX5 13, w ∈ wU yX6_mean cX6_mean 3 (some .long) := fun w hw => List.mem_cons_of_mem _ (iX5 w hw)
  have iw6 : ∀ w ∈ u_ws RX6 TX6 8, w ∈ wU yX6_mean cX6_mean 3 (some .long) := fun w hw => List.mem_cons_of_mem _ (iX6 w hw)
  rw [show entryFrame m args 3 = entryFrame m ([.ref (ad o0), .int a1, .int a2] : List Value).toArray 3 from by rw [hargs]]
  have hl := lv_entry ([.ref (ad o0), .int a1, .int a2]) (n := 3) (Nat.le_of_ble_eq_true rfl)
  rw [lg_entry_eq]
  generalize (lg_sl ([.ref (ad o0), .int a1, .int a2]) ++ List.replicate (3 - (lg_sl ([.ref (ad o0), .int a1, .int a2])).length) Slot.unset).toArray = ls at hl ⊢
  have hl : lv_has ls 3 [(0, .ref (ad o0)), (1, .int a1), (2, .int a2)] := hl
  have hb18 : ∀ (M : Mm) (x0 : Nat), f_X6_mean_b18 M x0 = some res → ∀ (H : Heap) (locs : List Loc) (ls : Array Slot), Wd D cy shX ad nX (Aw ad nX) s.heap M H locs → lv_has ls 3 [(0, .ref (ad x0))] → W p l e (headSpec (wU yX6_mean cX6_mean 3 (some .long)) rmX6_mean).room s m args below meth c H locs 0 0 (QL D cy shX ad nX adK adV below args s res) (F0 m 18 ls []) := by
    intro M x0 h H locs ls hw hl
    unfold f_X6_mean_b18 at h
    refine lv_aload_n hx hb dX6_mean_18 rfl (lv_at hl 0 rfl) ?_
    refine lv_iconst (v := (0 : Int32)) hx hb dX6_mean_19 (by decide) ?_
    replace h := gd_some h
    obtain ⟨g2, h⟩ := h
    replace h := bd_some h
    obtain ⟨r1, er1, h⟩ := h
    refine r_callVi (As := [.int (0 : Int32)]) (rest := []) hF (c_X6_finding l D cy ad adK adV M x0 (0 : Int32) r1 er1) (gW_goodV hcm qw373 qw370 qw372 qw0 qw60) hdX6_finding rfl ⟨Nat.le_of_ble_eq_true rfl, Nat.le_of_ble_eq_true rfl⟩ rfl rfl hZ hK hw g2 (by decide) rfl rfl hl.1 rfl (Nat.le_of_ble_eq_true rfl) ⟨Nat.zero_le _, Nat.zero_le _⟩ dX6_mean_20 (fun H locs hw => ?_)
    refine lv_i2l (v := r1.2.toInt64) hx hb dX6_mean_23 rfl ?_
    exact r_lret hx hb hr hlocks hZ hK hw h dX6_mean_24
  unfold f_X6_mean at h
  refine lv_aload_n hx hb dX6_mean_0 rfl (lv_at hl 0 rfl) ?_
  replace h := gd_some h
  obtain ⟨g3, h⟩ := h
  replace h := bd_some h
  obtain ⟨q4, eq4, h⟩ := h
  refine r_getR hx hb hts iw6 hown hK hw o0 0 g3 (by decide) rfl (by decide) rfl (hq _ qw335) (fun _ h9 => h9) dX6_mean_1 eq4 ?_
  refine lv_iload_n hx hb dX6_mean_4 rfl (lv_at hl 1 rfl) ?_
  replace h := gd_some h
  obtain ⟨g6, h⟩ := h
  replace h := bd_some h
  obtain ⟨r5, er5, h⟩ := h
  refine r_callVi (As := [.int a1]) (rest := []) hF (c_X1_hasSide l D cy ad adK adV M q4 a1 r5 er5) (gW_goodV hcm qw390 qw387 qw388 qw389 qw61) hdX1_hasSide rfl ⟨Nat.le_of_ble_eq_true rfl, Nat.le_of_ble_eq_true rfl⟩ rfl rfl hZ hK hw g6 (by decide) rfl rfl hl.1 rfl (Nat.le_of_ble_eq_true rfl) ⟨Nat.zero_le _, Nat.zero_le _⟩ dX6_mean_5 (fun H locs hw => ?_)
  refine lv_if_eq (tgt := 18) hx hb dX6_mean_8 (by decide) (fun c7 => ?_) (fun c7 => ?_)
  · replace h := if_some_t c7 h
    exact hb18 _ _ h _ _ _ hw (lv_sub hl [0] rfl)
  · replace h := if_some_f c7 h
    refine lv_iload_n hx hb dX6_mean_11 rfl (lv_at hl 2 rfl) ?_
    replace h := bd_some h
    obtain ⟨r8, er8, h⟩ := h
    refine r_callSi (As := [.int a2]) (rest := []) hF (c_X6_isPart l D cy ad adK adV r5.1 a2 r8 er8) (gW_goodS hcm qw672 qw670 qw671 qw60) hdX6_isPart ⟨Nat.le_of_ble_eq_true rfl, Nat.le_of_ble_eq_true rfl⟩ rfl rfl hZ hK hw rfl hl.1 rfl (Nat.le_of_ble_eq_true rfl) ⟨Nat.zero_le _, Nat.zero_le _⟩ dX6_mean_12 (fun H locs hw => ?_)
    refine lv_if_ne (tgt := 25) hx hb dX6_mean_15 (by decide) (fun c9 => ?_) (fun c9 => ?_)
    · replace h := if_some_f c9 h
      refine lv_aload_n hx hb dX6_mean_25 rfl (lv_at hl 0 rfl) ?_
      replace h := bd_some h
      obtain ⟨r10, er10, h⟩ := h
      refine r_callVv (As := []) (rest := []) hF (c_X6_goLikelyWays l D cy ad adK adV r8.1 o0 r10 er10) (gW_goodV hcm qw676 qw673 qw675 qw11 qw60) hdX6_goLikelyWays rfl ⟨Nat.le_of_ble_eq_true rfl, Nat.le_of_ble_eq_true rfl⟩ rfl rfl hZ hK hw g3 (by decide) rfl rfl hl.1 rfl (Nat.le_of_ble_eq_true rfl) ⟨Nat.zero_le _, Nat.zero_le _⟩ dX6_mean_26 (fun H locs hw => ?_)
      refine lv_aload_n hx hb dX6_mean_29 rfl (lv_at hl 0 rfl) ?_
      replace h := bd_some h
      obtain ⟨q11, eq11, h⟩ := h
      refine r_getR hx hb hts iw6 hown hK hw o0 3 g3 (by decide) rfl (by decide) rfl (hq _ qw338) (fun _ h9 => h9) dX6_mean_30 eq11 ?_
      replace h := gd_some h
      obtain ⟨g12, h⟩ := h
      replace h := bd_some h
      obtain ⟨q13, eq13, h⟩ := h
      refine r_getR hx hb hts iw5 hown hK hw q11 1 g12 (by decide) rfl (by decide) rfl (hq _ qw242) (fun _ h9 => h9) dX6_mean_33 eq13 ?_
      refine lv_iload_n hx hb dX6_mean_36 rfl (lv_at hl 1 rfl) ?_
      replace h := gd_some h
      obtain ⟨g14, h⟩ := h
      refine r_lald hx hb hK hw q13 g14 dX6_mean_37 ?_
      refine lv_aload_n hx hb dX6_mean_38 rfl (lv_at hl 0 rfl) ?_
      replace h := bd_some h
      obtain ⟨q15, eq15, h⟩ := h
      refine r_getR hx hb hts iw6 hown hK hw o0 3 g3 (by decide) rfl (by decide) rfl (hq _ qw338) (fun _ h9 => h9) dX6_mean_39 eq15 ?_
      replace h := gd_some h
      obtain ⟨g16, h⟩ := h
      refine r_getL hx hb hts iw5 hown hK hw q15 6 g16 (by decide) rfl (by decide) rfl (hq _ qw251) (fun _ h9 => h9) dX6_mean_42 ?_
      refine lv_iload_n hx hb dX6_mean_45 rfl (lv_at hl 2 rfl) ?_
      replace h := bd_some h
      obtain ⟨r17, er17, h⟩ := h
      refine r_callSl (As := [.long (r10.1.2.1 q13 a1.toNatClampNeg), .long (r10.1.2.1 q15 6), .int a2]) (rest := []) hF (c_X6_inLowestTerms l D cy ad adK adV r10.1 (r10.1.2.1 q13 a1.toNatClampNeg) (r10.1.2.1 q15 6) a2 r17 er17) (gW_goodS hcm qw705 qw703 qw704 qw60) hdX6_inLowestTerms ⟨Nat.le_of_ble_eq_true rfl, Nat.le_of_ble_eq_true rfl⟩ rfl rfl hZ hK hw rfl hl.1 rfl (Nat.le_of_ble_eq_true rfl) ⟨Nat.zero_le _, Nat.zero_le _⟩ dX6_mean_46 (fun H locs hw => ?_)
      exact r_lret hx hb hr hlocks hZ hK hw h dX6_mean_49
    · replace h := if_some_t c9 h
      exact hb18 _ _ h _ _ _ hw (lv_sub hl [0] rfl)
theorem dX6_least_0 : decode cX6_least 0 = .ok (.aload_n 0, 1) := by decide +kernel
theorem dX6_least_1 : decode cX6_least 1 = .ok (.getfield 10, 3) := by decide +kernel
theorem dX6_least_4 : decode cX6_least 4 = .ok (.iload_n 1, 1) := by decide +kernel
theorem dX6_least_5 : decode cX6_least 5 = .ok (.invokevirtual 71, 3) := by decide +kernel
theorem dX6_least_8 : decode cX6_least 8 = .ok (.ifCond .eq 20, 3) := by decide +kernel
theorem dX6_least_11 : decode cX6_least 11 = .ok (.iload_n 2, 1) := by decide +kernel
theorem dX6_least_12 : decode cX6_least 12 = .ok (.ifCond .lt 16, 3) := by decide +kernel
theorem dX6_least_15 : decode cX6_least 15 = .ok (.iload_n 2, 1) := by decide +kernel
theorem dX6_least_16 : decode cX6_least 16 = .ok (.bipush 99, 2) := by decide +kernel
theorem dX6_least_18 : decode cX6_least 18 = .ok (.if_icmp .gt 10, 3) := by decide +kernel
theorem dX6_least_21 : decode cX6_least 21 = .ok (.iload_n 3, 1) := by decide +kernel
theorem dX6_least_22 : decode cX6_least 22 = .ok (.invokestatic 189, 3) := by decide +kernel
theorem dX6_least_25 : decode cX6_least 25 = .ok (.ifCond .ne 10, 3) := by decide +kernel
theorem dX6_least_28 : decode cX6_least 28 = .ok (.aload_n 0, 1) := by decide +kernel
theorem dX6_least_29 : decode cX6_least 29 = .ok (.iconst 0, 1) := by decide +kernel
theorem dX6_least_30 : decode cX6_least 30 = .ok (.invokevirtual 59, 3) := by decide +kernel
theorem dX6_least_33 : decode cX6_least 33 = .ok (.i2l, 1) := by decide +kernel
theorem dX6_least_34 : decode cX6_least 34 = .ok (.lreturn, 1) := by decide +kernel
theorem dX6_least_35 : decode cX6_least 35 = .ok (.aload_n 0, 1) := by decide +kernel
theorem dX6_least_36 : decode cX6_least 36 = .ok (.getfield 31, 3) := by decide +kernel
theorem dX6_least_39 : decode cX6_least 39 = .ok (.aload_n 0, 1) := by decide +kernel
theorem dX6_least_40 : decode cX6_least 40 = .ok (.getfield 10, 3) := by decide +kernel
theorem dX6_least_43 : decode cX6_least 43 = .ok (.invokevirtual 151, 3) := by decide +kernel
theorem dX6_least_46 : decode cX6_least 46 = .ok (.aload_n 0, 1) := by decide +kernel
theorem dX6_least_47 : decode cX6_least 47 = .ok (.getfield 26, 3) := by decide +kernel
theorem dX6_least_50 : decode cX6_least 50 = .ok (.iload_n 1, 1) := by decide +kernel
theorem dX6_least_51 : decode cX6_least 51 = .ok (.iload_n 2, 1) := by decide +kernel
theorem dX6_least_52 : decode cX6_least 52 = .ok (.iconst 0, 1) := by decide +kernel
theorem dX6_least_53 : decode cX6_least 53 = .ok (.invokevirtual 213, 3) := by decide +kernel
theorem dX6_least_56 : decode cX6_least 56 = .ok (.aload_n 0, 1) := by decide +kernel
theorem dX6_least_57 : decode cX6_least 57 = .ok (.getfield 26, 3) := by decide +kernel
theorem dX6_least_60 : decode cX6_least 60 = .ok (.getfield 217, 3) := by decide +kernel
theorem dX6_least_63 : decode cX6_least 63 = .ok (.aload_n 0, 1) := by decide +kernel
theorem dX6_least_64 : decode cX6_least 64 = .ok (.getfield 26, 3) := by decide +kernel
theorem dX6_least_67 : decode cX6_least 67 = .ok (.getfield 199, 3) := by decide +kernel
theorem dX6_least_70 : decode cX6_least 70 = .ok (.iload_n 3, 1) := by decide +kernel
theorem dX6_least_71 : decode cX6_least 71 = .ok (.invokestatic 203, 3) := by decide +kernel
theorem dX6_least_74 : decode cX6_least 74 = .ok (.lreturn, 1) := by decide +kernel
set_option maxHeartbeats 4000000 in
set_option maxRecDepth 100000 in
theorem c_X6_least (l : Launch) (D : va_G) (cy : Nat → ClassId) (ad adK adV : Nat → Nat) (M : Mm) (o0 : Nat) (a1 : Int32) (a2 : Int32) (a3 : Int32) (res : Mm × Int64) (h : f_X6_least M o0 a1 a2 a3 = some res) : Met l yX6_least (wU yX6_least cX6_least 4 (some .long)) rmX6_least (va_Pc [.ref (ad o0), .int a1, .int a2, .int a3] (Pre D cy shX ad nX adK adV M)) (va_Ql (fun r (M2 : Mm) => r = res.2 ∧ M2 = res.1) (Pre D cy shX ad nX adK adV) (Aw ad nX)) 0 0 (Aw ad nX) := by
  refine Met.ofW (cc := cX6_least) (maxL := 4) (ret := (some .long)) (by decide) rfl ?_
  intro p e s m args below meth c s₁ B hml hv
  obtain ⟨hargs, hPre⟩ := hv
  have hx := B.exec
  have hb := B.bytes
  have hr := B.returns
  have hts := atoms_spec (ws := wU yX6_least cX6_least 4 (some .long)) B.pre
  have hq : ∀ w ∈ gW, w.before args s = true := fun w hw => hts w (List.mem_cons_of_mem _ hw)
  have hcm : ∀ w ∈ gW, w ∈ wU yX6_least cX6_least 4 (some .long) := fun w hw => List.mem_cons_of_mem _ hw
  have hown : s.vm.findClass RX6 = some m.cls := findClass_of_methodNamed B.named
  have hlocks := B.notSynchronized
  have hF : CallFix p m c cX6_least 4 s args (wU yX6_least cX6_least 4 (some .long)) RX6 := ⟨hx, hb, hml, hown, hts⟩
  have hK := hPre.2.1
  have hZ := hPre.2.2.2
  have hw : Wd D cy shX ad nX (Aw ad nX) s.heap M s.heap [] := ⟨hPre.1, hPre.2.2.1, va_S.rf⟩
  have iw5 : ∀ w ∈ u_ws RX5 TX5 13, w ∈ wU yX6_least cX6_least 4 (some .long) := fun w hw => List.mem_cons_of_mem _ (iX5 w hw)
  have iw6 : ∀ w ∈ u_ws RX6 TX6 8, w ∈ wU yX6_least cX6_least 4 (some .long) := fun w hw => List.mem_cons_of_mem _ (iX6 w hw)
  rw [show entryFrame m args 4 = entryFrame m ([.ref (ad o0), .int a1, .int a2, .int a3] : List Value).toArray 4 from by rw [hargs]]
  have hl := lv_entry ([.ref (ad o0), .int a1, .int a2, .int a3]) (n := 4) (Nat.le_of_ble_eq_true rfl)
  rw [lg_entry_eq]
  generalize (lg_sl ([.ref (ad o0), .int a1, .int a2, .int a3]) ++ List.replicate (4 - (lg_sl ([.ref (ad o0), .int a1, .int a2, .int a3])).length) Slot.unset).toArray = ls at hl ⊢
  have hl : lv_has ls 4 [(0, .ref (ad o0)), (1, .int a1), (2, .int a2), (3, .int a3)] := hl
  have hb28 : ∀ (M : Mm) (x0 : Nat), f_X6_least_b28 M x0 = some res → ∀ (H : Heap) (locs : List Loc) (ls : Array Slot), Wd D cy shX ad nX (Aw ad nX) s.heap M H locs → lv_has ls 4 [(0, .ref (ad x0))] → W p l e (headSpec (wU yX6_least cX6_least 4 (some .long)) rmX6_least).room s m args below meth c H locs 0 0 (QL D cy shX ad nX adK adV below args s res) (F0 m 28 ls []) := by
    intro M x0 h H locs ls hw hl
    unfold f_X6_least_b28 at h
    refine lv_aload_n hx hb dX6_least_28 rfl (lv_at hl 0 rfl) ?_
    refine lv_iconst (v := (0 : Int32)) hx hb dX6_least_29 (by decide) ?_
    replace h := gd_some h
    obtain ⟨g2, h⟩ := h
    replace h := bd_some h
    obtain ⟨r1, er1, h⟩ := h
    refine r_callVi (As := [.int (0 : Int32)]) (rest := []) hF (c_X6_finding l D cy ad adK adV M x0 (0 : Int32) r1 er1) (gW_goodV hcm qw373 qw370 qw372 qw0 qw60) hdX6_finding rfl ⟨Nat.le_of_ble_eq_true rfl, Nat.le_of_ble_eq_true rfl⟩ rfl rfl hZ hK hw g2 (by decide) rfl rfl hl.1 rfl (Nat.le_of_ble_eq_true rfl) ⟨Nat.zero_le _, Nat.zero_le _⟩ dX6_least_30 (fun H locs hw => ?_)
    refine lv_i2l (v := r1.2.toInt64) hx hb dX6_least_33 rfl ?_
    exact r_lret hx hb hr hlocks hZ hK hw h dX6_least_34
  unfold f_X6_least at h
  refine lv_aload_n hx hb dX6_least_0 rfl (lv_at hl 0 rfl) ?_
  replace h := gd_some h
  obtain ⟨g3, h⟩ := h
  replace h := bd_some h
  obtain ⟨q4, eq4, h⟩ := h
  refine r_getR hx hb hts iw6 hown hK hw o0 0 g3 (by decide) rfl (by decide) rfl (hq _ qw335) (fun _ h9 => h9) dX6_least_1 eq4 ?_
  refine lv_iload_n hx hb dX6_least_4 rfl (lv_at hl 1 rfl) ?_
  replace h := gd_some h
  obtain ⟨g6, h⟩ := h
  replace h := bd_some h
  obtain ⟨r5, er5, h⟩ := h
  refine r_callVi (As := [.int a1]) (rest := []) hF (c_X1_hasSide l D cy ad adK adV M q4 a1 r5 er5) (gW_goodV hcm qw390 qw387 qw388 qw389 qw61) hdX1_hasSide rfl ⟨Nat.le_of_ble_eq_true rfl, Nat.le_of_ble_eq_true rfl⟩ rfl rfl hZ hK hw g6 (by decide) rfl rfl hl.1 rfl (Nat.le_of_ble_eq_true rfl) ⟨Nat.zero_le _, Nat.zero_le _⟩ dX6_least_5 (fun H locs hw => ?_)
  refine lv_if_eq (tgt := 28) hx hb dX6_least_8 (by decide) (fun c7 => ?_) (fun c7 => ?_)
  · replace h := if_some_t c7 h
    exact hb28 _ _ h _ _ _ hw (lv_sub hl [0] rfl)
  · replace h := if_some_f c7 h
    refine lv_iload_n hx hb dX6_least_11 rfl (lv_at hl 2 rfl) ?_
    refine lv_if_lt (tgt := 28) hx hb dX6_least_12 (by decide) (fun c8 => ?_) (fun c8 => ?_)
    · replace h := if_some_t c8 h
      exact hb28 _ _ h _ _ _ hw (lv_sub hl [0] rfl)
    · replace h := if_some_f c8 h
      refine lv_iload_n hx hb dX6_least_15 rfl (lv_at hl 2 rfl) ?_
      refine lv_bipush (v := (99 : Int32)) hx hb dX6_least_16 (by decide) ?_
      refine lv_icmp_gt (tgt := 28) hx hb dX6_least_18 (by decide) (fun c9 => ?_) (fun c9 => ?_)
      · replace h := if_some_t c9 h
        exact hb28 _ _ h _ _ _ hw (lv_sub hl [0] rfl)
      · replace h := if_some_f c9 h
        refine lv_iload_n hx hb dX6_least_21 rfl (lv_at hl 3 rfl) ?_
        replace h := bd_some h
        obtain ⟨r10, er10, h⟩ := h
        refine r_callSi (As := [.int a3]) (rest := []) hF (c_X6_isPart l D cy ad adK adV r5.1 a3 r10 er10) (gW_goodS hcm qw672 qw670 qw671 qw60) hdX6_isPart ⟨Nat.le_of_ble_eq_true rfl, Nat.le_of_ble_eq_true rfl⟩ rfl rfl hZ hK hw rfl hl.1 rfl (Nat.le_of_ble_eq_true rfl) ⟨Nat.zero_le _, Nat.zero_le _⟩ dX6_least_22 (fun H locs hw => ?_)
        refine lv_if_ne (tgt := 35) hx hb dX6_least_25 (by decide) (fun c11 => ?_) (fun c11 => ?_)
        · replace h := if_some_f c11 h
          refine lv_aload_n hx hb dX6_least_35 rfl (lv_at hl 0 rfl) ?_
          replace h := bd_some h
          obtain ⟨q12, eq12, h⟩ := h
          refine r_getR hx hb hts iw6 hown hK hw o0 4 g3 (by decide) rfl (by decide) rfl (hq _ qw339) (fun _ h9 => h9) dX6_least_36 eq12 ?_
          refine lv_aload_n hx hb dX6_least_39 rfl (lv_at hl 0 rfl) ?_
          replace h := bd_some h
          obtain ⟨q13, eq13, h⟩ := h
          refine r_getR hx hb hts iw6 hown hK hw o0 0 g3 (by decide) rfl (by decide) rfl (hq _ qw335) (fun _ h9 => h9) dX6_least_40 eq13 ?_
          replace h := gd_some h
          obtain ⟨g15, h⟩ := h
          replace h := bd_some h
          obtain ⟨r14, er14, h⟩ := h
          refine r_callVv (As := [.ref (ad q13)]) (rest := []) hF (c_X1_become l D cy ad adK adV r10.1 q12 q13 r14 er14) (gW_goodV hcm qw457 qw454 qw455 qw456 qw61) hdX1_become rfl ⟨Nat.le_of_ble_eq_true rfl, Nat.le_of_ble_eq_true rfl⟩ rfl rfl hZ hK hw g15 (by decide) rfl rfl hl.1 rfl (Nat.le_of_ble_eq_true rfl) ⟨Nat.zero_le _, Nat.zero_le _⟩ dX6_least_43 (fun H locs hw => ?_)
          refine lv_aload_n hx hb dX6_least_46 rfl (lv_at hl 0 rfl) ?_
          replace h := bd_some h
          obtain ⟨q16, eq16, h⟩ := h
          refine r_getR hx hb hts iw6 hown hK hw o0 3 g3 (by decide) rfl (by decide) rfl (hq _ qw338) (fun _ h9 => h9) dX6_least_47 eq16 ?_
          refine lv_iload_n hx hb dX6_least_50 rfl (lv_at hl 1 rfl) ?_
          refine lv_iload_n hx hb dX6_least_51 rfl (lv_at hl 2 rfl) ?_
          refine lv_iconst (v := (0 : Int32)) hx hb dX6_least_52 (by decide) ?_
          replace h := gd_some h
          obtain ⟨g18, h⟩ := h
          replace h := bd_some h
          obtain ⟨r17, er17, h⟩ := h
          refine r_callVv (As := [.int a1, .int a2, .int (0 : Int32)]) (rest := []) hF (c_X5_over l D cy ad adK adV r14.1 q16 a1 a2 (0 : Int32) r17 er17) (gW_goodV hcm qw680 qw677 qw678 qw679 qw64) hdX5_over rfl ⟨Nat.le_of_ble_eq_true rfl, Nat.le_of_ble_eq_true rfl⟩ rfl rfl hZ hK hw g18 (by decide) rfl rfl hl.1 rfl (Nat.le_of_ble_eq_true rfl) ⟨Nat.zero_le _, Nat.zero_le _⟩ dX6_least_53 (fun H locs hw => ?_)
          refine lv_aload_n hx hb dX6_least_56 rfl (lv_at hl 0 rfl) ?_
          replace h := bd_some h
          obtain ⟨q19, eq19, h⟩ := h
          refine r_getR hx hb hts iw6 hown hK hw o0 3 g3 (by decide) rfl (by decide) rfl (hq _ qw338) (fun _ h9 => h9) dX6_least_57 eq19 ?_
          replace h := gd_some h
          obtain ⟨g20, h⟩ := h
          refine r_getL hx hb hts iw5 hown hK hw q19 11 g20 (by decide) rfl (by decide) rfl (hq _ qw258) (fun _ h9 => h9) dX6_least_60 ?_
          refine lv_aload_n hx hb dX6_least_63 rfl (lv_at hl 0 rfl) ?_
          replace h := bd_some h
          obtain ⟨q21, eq21, h⟩ := h
          refine r_getR hx hb hts iw6 hown hK hw o0 3 g3 (by decide) rfl (by decide) rfl (hq _ qw338) (fun _ h9 => h9) dX6_least_64 eq21 ?_
          replace h := gd_some h
          obtain ⟨g22, h⟩ := h
          refine r_getL hx hb hts iw5 hown hK hw q21 6 g22 (by decide) rfl (by decide) rfl (hq _ qw251) (fun _ h9 => h9) dX6_least_67 ?_
          refine lv_iload_n hx hb dX6_least_70 rfl (lv_at hl 3 rfl) ?_
          replace h := bd_some h
          obtain ⟨r23, er23, h⟩ := h
          refine r_callSl (As := [.long (r17.1.2.1 q19 11), .long (r17.1.2.1 q21 6), .int a3]) (rest := []) hF (c_X6_inLowestTerms l D cy ad adK adV r17.1 (r17.1.2.1 q19 11) (r17.1.2.1 q21 6) a3 r23 er23) (gW_goodS hcm qw705 qw703 qw704 qw60) hdX6_inLowestTerms ⟨Nat.le_of_ble_eq_true rfl, Nat.le_of_ble_eq_true rfl⟩ rfl rfl hZ hK hw rfl hl.1 rfl (Nat.le_of_ble_eq_true rfl) ⟨Nat.zero_le _, Nat.zero_le _⟩ dX6_least_71 (fun H locs hw => ?_)
          exact r_lret hx hb hr hlocks hZ hK hw h dX6_least_74
        · replace h := if_some_t c11 h
          exact hb28 _ _ h _ _ _ hw (lv_sub hl [0] rfl)
theorem dX6_most_0 : decode cX6_most 0 = .ok (.aload_n 0, 1) := by decide +kernel
theorem dX6_most_1 : decode cX6_most 1 = .ok (.getfield 10, 3) := by decide +kernel
theorem dX6_most_4 : decode cX6_most 4 = .ok (.iload_n 1, 1) := by decide +kernel
theorem dX6_most_5 : decode cX6_most 5 = .ok (.invokevirtual 71, 3) := by decide +kernel
theorem dX6_most_8 : decode cX6_most 8 = .ok (.ifCond .ne 9, 3) := by decide +kernel
theorem dX6_most_11 : decode cX6_most 11 = .ok (.aload_n 0, 1) := by decide +kernel
theorem dX6_most_12 : decode cX6_most 12 = .ok (.iconst 0, 1) := by decide +kernel
theorem dX6_most_13 : decode cX6_most 13 = .ok (.invokevirtual 59, 3) := by decide +kernel
theorem dX6_most_16 : decode cX6_most 16 = .ok (.ireturn, 1) := by decide +kernel
theorem dX6_most_17 : decode cX6_most 17 = .ok (.aload_n 0, 1) := by decide +kernel
theorem dX6_most_18 : decode cX6_most 18 = .ok (.getfield 31, 3) := by decide +kernel
theorem dX6_most_21 : decode cX6_most 21 = .ok (.aload_n 0, 1) := by decide +kernel
theorem dX6_most_22 : decode cX6_most 22 = .ok (.getfield 10, 3) := by decide +kernel
theorem dX6_most_25 : decode cX6_most 25 = .ok (.invokevirtual 151, 3) := by decide +kernel
theorem dX6_most_28 : decode cX6_most 28 = .ok (.aload_n 0, 1) := by decide +kernel
theorem dX6_most_29 : decode cX6_most 29 = .ok (.getfield 26, 3) := by decide +kernel
theorem dX6_most_32 : decode cX6_most 32 = .ok (.iload_n 1, 1) := by decide +kernel
theorem dX6_most_33 : decode cX6_most 33 = .ok (.iconst 0, 1) := by decide +kernel
theorem dX6_most_34 : decode cX6_most 34 = .ok (.iconst 1, 1) := by decide +kernel
theorem dX6_most_35 : decode cX6_most 35 = .ok (.invokevirtual 213, 3) := by decide +kernel
theorem dX6_most_38 : decode cX6_most 38 = .ok (.aload_n 0, 1) := by decide +kernel
theorem dX6_most_39 : decode cX6_most 39 = .ok (.getfield 26, 3) := by decide +kernel
theorem dX6_most_42 : decode cX6_most 42 = .ok (.getfield 220, 3) := by decide +kernel
theorem dX6_most_45 : decode cX6_most 45 = .ok (.ireturn, 1) := by decide +kernel
set_option maxHeartbeats 4000000 in
set_option maxRecDepth 100000 in
theorem c_X6_most (l : Launch) (D : va_G) (cy : Nat → ClassId) (ad adK adV : Nat → Nat) (M : Mm) (o0 : Nat) (a1 : Int32) (res : Mm × Int32) (h : f_X6_most M o0 a1 = some res) : Met l yX6_most (wU yX6_most cX6_most 2 (some .int)) rmX6_most (va_Pc [.ref (ad o0), .int a1] (Pre D cy shX ad nX adK adV M)) (va_Qi (fun r (M2 : Mm) => r = res.2 ∧ M2 = res.1) (Pre D cy shX ad nX adK adV) (Aw ad nX)) 0 0 (Aw ad nX) := by
  refine Met.ofW (cc := cX6_most) (maxL := 2) (ret := (some .int)) (by decide) rfl ?_
  intro p e s m args below meth c s₁ B hml hv
  obtain ⟨hargs, hPre⟩ := hv
  have hx := B.exec
  have hb := B.bytes
  have hr := B.returns
  have hts := atoms_spec (ws := wU yX6_most cX6_most 2 (some .int)) B.pre
  have hq : ∀ w ∈ gW, w.before args s = true := fun w hw => hts w (List.mem_cons_of_mem _ hw)
  have hcm : ∀ w ∈ gW, w ∈ wU yX6_most cX6_most 2 (some .int) := fun w hw => List.mem_cons_of_mem _ hw
  have hown : s.vm.findClass RX6 = some m.cls := findClass_of_methodNamed B.named
  have hlocks := B.notSynchronized
  have hF : CallFix p m c cX6_most 2 s args (wU yX6_most cX6_most 2 (some .int)) RX6 := ⟨hx, hb, hml, hown, hts⟩
  have hK := hPre.2.1
  have hZ := hPre.2.2.2
  have hw : Wd D cy shX ad nX (Aw ad nX) s.heap M s.heap [] := ⟨hPre.1, hPre.2.2.1, va_S.rf⟩
  have iw5 : ∀ w ∈ u_ws RX5 TX5 13, w ∈ wU yX6_most cX6_most 2 (some .int) := fun w hw => List.mem_cons_of_mem _ (iX5 w hw)
  have iw6 : ∀ w ∈ u_ws RX6 TX6 8, w ∈ wU yX6_most cX6_most 2 (some .int) := fun w hw => List.mem_cons_of_mem _ (iX6 w hw)
  rw [show entryFrame m args 2 = entryFrame m ([.ref (ad o0), .int a1] : List Value).toArray 2 from by rw [hargs]]
  have hl := lv_entry ([.ref (ad o0), .int a1]) (n := 2) (Nat.le_of_ble_eq_true rfl)
  rw [lg_entry_eq]
  generalize (lg_sl ([.ref (ad o0), .int a1]) ++ List.replicate (2 - (lg_sl ([.ref (ad o0), .int a1])).length) Slot.unset).toArray = ls at hl ⊢
  have hl : lv_has ls 2 [(0, .ref (ad o0)), (1, .int a1)] := hl
  unfold f_X6_most at h
  refine lv_aload_n hx hb dX6_most_0 rfl (lv_at hl 0 rfl) ?_
  replace h := gd_some h
  obtain ⟨g1, h⟩ := h
  replace h := bd_some h
  obtain ⟨q2, eq2, h⟩ := h
  refine r_getR hx hb hts iw6 hown hK hw o0 0 g1 (by decide) rfl (by decide) rfl (hq _ qw335) (fun _ h9 => h9) dX6_most_1 eq2 ?_
  refine lv_iload_n hx hb dX6_most_4 rfl (lv_at hl 1 rfl) ?_
  replace h := gd_some h
  obtain ⟨g4, h⟩ := h
  replace h := bd_some h
  obtain ⟨r3, er3, h⟩ := h
  refine r_callVi (As := [.int a1]) (rest := []) hF (c_X1_hasSide l D cy ad adK adV M q2 a1 r3 er3) (gW_goodV hcm qw390 qw387 qw388 qw389 qw61) hdX1_hasSide rfl ⟨Nat.le_of_ble_eq_true rfl, Nat.le_of_ble_eq_true rfl⟩ rfl rfl hZ hK hw g4 (by decide) rfl rfl hl.1 rfl (Nat.le_of_ble_eq_true rfl) ⟨Nat.zero_le _, Nat.zero_le _⟩ dX6_most_5 (fun H locs hw => ?_)
  refine lv_if_ne (tgt := 17) hx hb dX6_most_8 (by decide) (fun c5 => ?_) (fun c5 => ?_)
  · replace h := if_some_f c5 h
    refine lv_aload_n hx hb dX6_most_17 rfl (lv_at hl 0 rfl) ?_
    replace h := bd_some h
    obtain ⟨q6, eq6, h⟩ := h
    refine r_getR hx hb hts iw6 hown hK hw o0 4 g1 (by decide) rfl (by decide) rfl (hq _ qw339) (fun _ h9 => h9) dX6_most_18 eq6 ?_
    refine lv_aload_n hx hb dX6_most_21 rfl (lv_at hl 0 rfl) ?_
    replace h := bd_some h
    obtain ⟨q7, eq7, h⟩ := h
    refine r_getR hx hb hts iw6 hown hK hw o0 0 g1 (by decide) rfl (by decide) rfl (hq _ qw335) (fun _ h9 => h9) dX6_most_22 eq7 ?_
    replace h := gd_some h
    obtain ⟨g9, h⟩ := h
    replace h := bd_some h
    obtain ⟨r8, er8, h⟩ := h
    refine r_callVv (As := [.ref (ad q7)]) (rest := []) hF (c_X1_become l D cy ad adK adV r3.1 q6 q7 r8 er8) (gW_goodV hcm qw457 qw454 qw455 qw456 qw61) hdX1_become rfl ⟨Nat.le_of_ble_eq_true rfl, Nat.le_of_ble_eq_true rfl⟩ rfl rfl hZ hK hw g9 (by decide) rfl rfl hl.1 rfl (Nat.le_of_ble_eq_true rfl) ⟨Nat.zero_le _, Nat.zero_le _⟩ dX6_most_25 (fun H locs hw => ?_)
    refine lv_aload_n hx hb dX6_most_28 rfl (lv_at hl 0 rfl) ?_
    replace h := bd_some h
    obtain ⟨q10, eq10, h⟩ := h
    refine r_getR hx hb hts iw6 hown hK hw o0 3 g1 (by decide) rfl (by decide) rfl (hq _ qw338) (fun _ h9 => h9) dX6_most_29 eq10 ?_
    refine lv_iload_n hx hb dX6_most_32 rfl (lv_at hl 1 rfl) ?_
    refine lv_iconst (v := (0 : Int32)) hx hb dX6_most_33 (by decide) ?_
    refine lv_iconst (v := (1 : Int32)) hx hb dX6_most_34 (by decide) ?_
    replace h := gd_some h
    obtain ⟨g12, h⟩ := h
    replace h := bd_some h
    obtain ⟨r11, er11, h⟩ := h
    refine r_callVv (As := [.int a1, .int (0 : Int32), .int (1 : Int32)]) (rest := []) hF (c_X5_over l D cy ad adK adV r8.1 q10 a1 (0 : Int32) (1 : Int32) r11 er11) (gW_goodV hcm qw680 qw677 qw678 qw679 qw64) hdX5_over rfl ⟨Nat.le_of_ble_eq_true rfl, Nat.le_of_ble_eq_true rfl⟩ rfl rfl hZ hK hw g12 (by decide) rfl rfl hl.1 rfl (Nat.le_of_ble_eq_true rfl) ⟨Nat.zero_le _, Nat.zero_le _⟩ dX6_most_35 (fun H locs hw => ?_)
    refine lv_aload_n hx hb dX6_most_38 rfl (lv_at hl 0 rfl) ?_
    replace h := bd_some h
    obtain ⟨q13, eq13, h⟩ := h
    refine r_getR hx hb hts iw6 hown hK hw o0 3 g1 (by decide) rfl (by decide) rfl (hq _ qw338) (fun _ h9 => h9) dX6_most_39 eq13 ?_
    replace h := gd_some h
    obtain ⟨g14, h⟩ := h
    refine r_getI hx hb hts iw5 hown hK hw q13 12 g14 (by decide) rfl (by decide) rfl (hq _ qw260) (fun _ h9 => h9) dX6_most_42 ?_
    exact r_iret hx hb hr rfl hlocks hZ hK hw h dX6_most_45
  · replace h := if_some_t c5 h
    refine lv_aload_n hx hb dX6_most_11 rfl (lv_at hl 0 rfl) ?_
    refine lv_iconst (v := (0 : Int32)) hx hb dX6_most_12 (by decide) ?_
    replace h := bd_some h
    obtain ⟨r15, er15, h⟩ := h
    refine r_callVi (As := [.int (0 : Int32)]) (rest := []) hF (c_X6_finding l D cy ad adK adV r3.1 o0 (0 : Int32) r15 er15) (gW_goodV hcm qw373 qw370 qw372 qw0 qw60) hdX6_finding rfl ⟨Nat.le_of_ble_eq_true rfl, Nat.le_of_ble_eq_true rfl⟩ rfl rfl hZ hK hw g1 (by decide) rfl rfl hl.1 rfl (Nat.le_of_ble_eq_true rfl) ⟨Nat.zero_le _, Nat.zero_le _⟩ dX6_most_13 (fun H locs hw => ?_)
    exact r_iret hx hb hr rfl hlocks hZ hK hw h dX6_most_16
theorem dX6_ways_0 : decode cX6_ways 0 = .ok (.aload_n 0, 1) := by decide +kernel
theorem dX6_ways_1 : decode cX6_ways 1 = .ok (.invokevirtual 192, 3) := by decide +kernel
theorem dX6_ways_4 : decode cX6_ways 4 = .ok (.aload_n 0, 1) := by decide +kernel
theorem dX6_ways_5 : decode cX6_ways 5 = .ok (.getfield 26, 3) := by decide +kernel
theorem dX6_ways_8 : decode cX6_ways 8 = .ok (.getfield 223, 3) := by decide +kernel
theorem dX6_ways_11 : decode cX6_ways 11 = .ok (.ireturn, 1) := by decide +kernel
set_option maxHeartbeats 4000000 in
set_option maxRecDepth 100000 in
theorem c_X6_ways (l : Launch) (D : va_G) (cy : Nat → ClassId) (ad adK adV : Nat → Nat) (M : Mm) (o0 : Nat) (res : Mm × Int32) (h : f_X6_ways M o0 = some res) : Met l yX6_ways (wU yX6_ways cX6_ways 1 (some .int)) rmX6_ways (va_Pc [.ref (ad o0)] (Pre D cy shX ad nX adK adV M)) (va_Qi (fun r (M2 : Mm) => r = res.2 ∧ M2 = res.1) (Pre D cy shX ad nX adK adV) (Aw ad nX)) 0 0 (Aw ad nX) := by
  refine Met.ofW (cc := cX6_ways) (maxL := 1) (ret := (some .int)) (by decide) rfl ?_
  intro p e s m args below meth c s₁ B hml hv
  obtain ⟨hargs, hPre⟩ := hv
  have hx := B.exec
  have hb := B.bytes
  have hr := B.returns
  have hts := atoms_spec (ws := wU yX6_ways cX6_ways 1 (some .int)) B.pre
  have hq : ∀ w ∈ gW, w.before args s = true := fun w hw => hts w (List.mem_cons_of_mem _ hw)
  have hcm : ∀ w ∈ gW, w ∈ wU yX6_ways cX6_ways 1 (some .int) := fun w hw => List.mem_cons_of_mem _ hw
  have hown : s.vm.findClass RX6 = some m.cls := findClass_of_methodNamed B.named
  have hlocks := B.notSynchronized
  have hF : CallFix p m c cX6_ways 1 s args (wU yX6_ways cX6_ways 1 (some .int)) RX6 := ⟨hx, hb, hml, hown, hts⟩
  have hK := hPre.2.1
  have hZ := hPre.2.2.2
  have hw : Wd D cy shX ad nX (Aw ad nX) s.heap M s.heap [] := ⟨hPre.1, hPre.2.2.1, va_S.rf⟩
  have iw5 : ∀ w ∈ u_ws RX5 TX5 13, w ∈ wU yX6_ways cX6_ways 1 (some .int) := fun w hw => List.mem_cons_of_mem _ (iX5 w hw)
  have iw6 : ∀ w ∈ u_ws RX6 TX6 8, w ∈ wU yX6_ways cX6_ways 1 (some .int) := fun w hw => List.mem_cons_of_mem _ (iX6 w hw)
  rw [show entryFrame m args 1 = entryFrame m ([.ref (ad o0)] : List Value).toArray 1 from by rw [hargs]]
  have hl := lv_entry ([.ref (ad o0)]) (n := 1) (Nat.le_of_ble_eq_true rfl)
  rw [lg_entry_eq]
  generalize (lg_sl ([.ref (ad o0)]) ++ List.replicate (1 - (lg_sl ([.ref (ad o0)])).length) Slot.unset).toArray = ls at hl ⊢
  have hl : lv_has ls 1 [(0, .ref (ad o0))] := hl
  unfold f_X6_ways at h
  refine lv_aload_n hx hb dX6_ways_0 rfl (lv_at hl 0 rfl) ?_
  replace h := gd_some h
  obtain ⟨g2, h⟩ := h
  replace h := bd_some h
  obtain ⟨r1, er1, h⟩ := h
  refine r_callVv (As := []) (rest := []) hF (c_X6_goLikelyWays l D cy ad adK adV M o0 r1 er1) (gW_goodV hcm qw676 qw673 qw675 qw11 qw60) hdX6_goLikelyWays rfl ⟨Nat.le_of_ble_eq_true rfl, Nat.le_of_ble_eq_true rfl⟩ rfl rfl hZ hK hw g2 (by decide) rfl rfl hl.1 rfl (Nat.le_of_ble_eq_true rfl) ⟨Nat.zero_le _, Nat.zero_le _⟩ dX6_ways_1 (fun H locs hw => ?_)
  refine lv_aload_n hx hb dX6_ways_4 rfl (lv_at hl 0 rfl) ?_
  replace h := bd_some h
  obtain ⟨q3, eq3, h⟩ := h
  refine r_getR hx hb hts iw6 hown hK hw o0 3 g2 (by decide) rfl (by decide) rfl (hq _ qw338) (fun _ h9 => h9) dX6_ways_5 eq3 ?_
  replace h := gd_some h
  obtain ⟨g4, h⟩ := h
  refine r_getI hx hb hts iw5 hown hK hw q3 7 g4 (by decide) rfl (by decide) rfl (hq _ qw253) (fun _ h9 => h9) dX6_ways_8 ?_
  exact r_iret hx hb hr rfl hlocks hZ hK hw h dX6_ways_11
theorem dX6_moved_0 : decode cX6_moved 0 = .ok (.aload_n 0, 1) := by decide +kernel
theorem dX6_moved_1 : decode cX6_moved 1 = .ok (.getfield 10, 3) := by decide +kernel
theorem dX6_moved_4 : decode cX6_moved 4 = .ok (.iload_n 1, 1) := by decide +kernel
theorem dX6_moved_5 : decode cX6_moved 5 = .ok (.invokevirtual 114, 3) := by decide +kernel
theorem dX6_moved_8 : decode cX6_moved 8 = .ok (.ifCond .eq 10, 3) := by decide +kernel
theorem dX6_moved_11 : decode cX6_moved 11 = .ok (.iload_n 2, 1) := by decide +kernel
theorem dX6_moved_12 : decode cX6_moved 12 = .ok (.invokestatic 189, 3) := by decide +kernel
theorem dX6_moved_15 : decode cX6_moved 15 = .ok (.ifCond .ne 10, 3) := by decide +kernel
theorem dX6_moved_18 : decode cX6_moved 18 = .ok (.aload_n 0, 1) := by decide +kernel
theorem dX6_moved_19 : decode cX6_moved 19 = .ok (.iconst 0, 1) := by decide +kernel
theorem dX6_moved_20 : decode cX6_moved 20 = .ok (.invokevirtual 59, 3) := by decide +kernel
theorem dX6_moved_23 : decode cX6_moved 23 = .ok (.i2l, 1) := by decide +kernel
theorem dX6_moved_24 : decode cX6_moved 24 = .ok (.lreturn, 1) := by decide +kernel
theorem dX6_moved_25 : decode cX6_moved 25 = .ok (.aload_n 0, 1) := by decide +kernel
theorem dX6_moved_26 : decode cX6_moved 26 = .ok (.invokevirtual 192, 3) := by decide +kernel
theorem dX6_moved_29 : decode cX6_moved 29 = .ok (.aload_n 0, 1) := by decide +kernel
theorem dX6_moved_30 : decode cX6_moved 30 = .ok (.getfield 26, 3) := by decide +kernel
theorem dX6_moved_33 : decode cX6_moved 33 = .ok (.getfield 226, 3) := by decide +kernel
theorem dX6_moved_36 : decode cX6_moved 36 = .ok (.iload_n 1, 1) := by decide +kernel
theorem dX6_moved_37 : decode cX6_moved 37 = .ok (.laload, 1) := by decide +kernel
theorem dX6_moved_38 : decode cX6_moved 38 = .ok (.aload_n 0, 1) := by decide +kernel
theorem dX6_moved_39 : decode cX6_moved 39 = .ok (.getfield 26, 3) := by decide +kernel
theorem dX6_moved_42 : decode cX6_moved 42 = .ok (.getfield 199, 3) := by decide +kernel
theorem dX6_moved_45 : decode cX6_moved 45 = .ok (.iload_n 2, 1) := by decide +kernel
theorem dX6_moved_46 : decode cX6_moved 46 = .ok (.invokestatic 203, 3) := by decide +kernel
theorem dX6_moved_49 : decode cX6_moved 49 = .ok (.lreturn, 1) := by decide +kernel
set_option maxHeartbeats 4000000 in
set_option maxRecDepth 100000 in
theorem c_X6_moved (l : Launch) (D : va_G) (cy : Nat → ClassId) (ad adK adV : Nat → Nat) (M : Mm) (o0 : Nat) (a1 : Int32) (a2 : Int32) (res : Mm × Int64) (h : f_X6_moved M o0 a1 a2 = some res) : Met l yX6_moved (wU yX6_moved cX6_moved 3 (some .long)) rmX6_moved (va_Pc [.ref (ad o0), .int a1, .int a2] (Pre D cy shX ad nX adK adV M)) (va_Ql (fun r (M2 : Mm) => r = res.2 ∧ M2 = res.1) (Pre D cy shX ad nX adK adV) (Aw ad nX)) 0 0 (Aw ad nX) := by
  refine Met.ofW (cc := cX6_moved) (maxL := 3) (ret := (some .long)) (by decide) rfl ?_
  intro p e s m args below meth c s₁ B hml hv
  obtain ⟨hargs, hPre⟩ := hv
  have hx := B.exec
  have hb := B.bytes
  have hr := B.returns
  have hts := atoms_spec (ws := wU yX6_moved cX6_moved 3 (some .long)) B.pre
  have hq : ∀ w ∈ gW, w.before args s = true := fun w hw => hts w (List.mem_cons_of_mem _ hw)
  have hcm : ∀ w ∈ gW, w ∈ wU yX6_moved cX6_moved 3 (some .long) := fun w hw => List.mem_cons_of_mem _ hw
  have hown : s.vm.findClass RX6 = some m.cls := findClass_of_methodNamed B.named
  have hlocks := B.notSynchronized
  have hF : CallFix p m c cX6_moved 3 s args (wU yX6_moved cX6_moved 3 (some .long)) RX6 := ⟨hx, hb, hml, hown, hts⟩
  have hK := hPre.2.1
  have hZ := hPre.2.2.2
  have hw : Wd D cy shX ad nX (Aw ad nX) s.heap M s.heap [] := ⟨hPre.1, hPre.2.2.1, va_S.rf⟩
  have iw5 : ∀ w ∈ u_ws RX5 TX5 13, w ∈ wU yX6_moved cX6_moved 3 (some .long) := fun w hw => List.mem_cons_of_mem _ (iX5 w hw)
  have iw6 : ∀ w ∈ u_ws RX6 TX6 8, w ∈ wU yX6_moved cX6_moved 3 (some .long) := fun w hw => List.mem_cons_of_mem _ (iX6 w hw)
  rw [show entryFrame m args 3 = entryFrame m ([.ref (ad o0), .int a1, .int a2] : List Value).toArray 3 from by rw [hargs]]
  have hl := lv_entry ([.ref (ad o0), .int a1, .int a2]) (n := 3) (Nat.le_of_ble_eq_true rfl)
  rw [lg_entry_eq]
  generalize (lg_sl ([.ref (ad o0), .int a1, .int a2]) ++ List.replicate (3 - (lg_sl ([.ref (ad o0), .int a1, .int a2])).length) Slot.unset).toArray = ls at hl ⊢
  have hl : lv_has ls 3 [(0, .ref (ad o0)), (1, .int a1), (2, .int a2)] := hl
  have hb18 : ∀ (M : Mm) (x0 : Nat), f_X6_moved_b18 M x0 = some res → ∀ (H : Heap) (locs : List Loc) (ls : Array Slot), Wd D cy shX ad nX (Aw ad nX) s.heap M H locs → lv_has ls 3 [(0, .ref (ad x0))] → W p l e (headSpec (wU yX6_moved cX6_moved 3 (some .long)) rmX6_moved).room s m args below meth c H locs 0 0 (QL D cy shX ad nX adK adV below args s res) (F0 m 18 ls []) := by
    intro M x0 h H locs ls hw hl
    unfold f_X6_moved_b18 at h
    refine lv_aload_n hx hb dX6_moved_18 rfl (lv_at hl 0 rfl) ?_
    refine lv_iconst (v := (0 : Int32)) hx hb dX6_moved_19 (by decide) ?_
    replace h := gd_some h
    obtain ⟨g2, h⟩ := h
    replace h := bd_some h
    obtain ⟨r1, er1, h⟩ := h
    refine r_callVi (As := [.int (0 : Int32)]) (rest := []) hF (c_X6_finding l D cy ad adK adV M x0 (0 : Int32) r1 er1) (gW_goodV hcm qw373 qw370 qw372 qw0 qw60) hdX6_finding rfl ⟨Nat.le_of_ble_eq_true rfl, Nat.le_of_ble_eq_true rfl⟩ rfl rfl hZ hK hw g2 (by decide) rfl rfl hl.1 rfl (Nat.le_of_ble_eq_true rfl) ⟨Nat.zero_le _, Nat.zero_le _⟩ dX6_moved_20 (fun H locs hw => ?_)
    refine lv_i2l (v := r1.2.toInt64) hx hb dX6_moved_23 rfl ?_
    exact r_lret hx hb hr hlocks hZ hK hw h dX6_moved_24
  unfold f_X6_moved at h
  refine lv_aload_n hx hb dX6_moved_0 rfl (lv_at hl 0 rfl) ?_
  replace h := gd_some h
  obtain ⟨g3, h⟩ := h
  replace h := bd_some h
  obtain ⟨q4, eq4, h⟩ := h
  refine r_getR hx hb hts iw6 hown hK hw o0 0 g3 (by decide) rfl (by decide) rfl (hq _ qw335) (fun _ h9 => h9) dX6_moved_1 eq4 ?_
  refine lv_iload_n hx hb dX6_moved_4 rfl (lv_at hl 1 rfl) ?_
  replace h := gd_some h
  obtain ⟨g6, h⟩ := h
  replace h := bd_some h
  obtain ⟨r5, er5, h⟩ := h
  refine r_callVi (As := [.int a1]) (rest := []) hF (c_X1_hasGame l D cy ad adK adV M q4 a1 r5 er5) (gW_goodV hcm qw429 qw426 qw427 qw428 qw61) hdX1_hasGame rfl ⟨Nat.le_of_ble_eq_true rfl, Nat.le_of_ble_eq_true rfl⟩ rfl rfl hZ hK hw g6 (by decide) rfl rfl hl.1 rfl (Nat.le_of_ble_eq_true rfl) ⟨Nat.zero_le _, Nat.zero_le _⟩ dX6_moved_5 (fun H locs hw => ?_)
  refine lv_if_eq (tgt := 18) hx hb dX6_moved_8 (by decide) (fun c7 => ?_) (fun c7 => ?_)
  · replace h := if_some_t c7 h
    exact hb18 _ _ h _ _ _ hw (lv_sub hl [0] rfl)
  · replace h := if_some_f c7 h
    refine lv_iload_n hx hb dX6_moved_11 rfl (lv_at hl 2 rfl) ?_
    replace h := bd_some h
    obtain ⟨r8, er8, h⟩ := h
    refine r_callSi (As := [.int a2]) (rest := []) hF (c_X6_isPart l D cy ad adK adV r5.1 a2 r8 er8) (gW_goodS hcm qw672 qw670 qw671 qw60) hdX6_isPart ⟨Nat.le_of_ble_eq_true rfl, Nat.le_of_ble_eq_true rfl⟩ rfl rfl hZ hK hw rfl hl.1 rfl (Nat.le_of_ble_eq_true rfl) ⟨Nat.zero_le _, Nat.zero_le _⟩ dX6_moved_12 (fun H locs hw => ?_)
    refine lv_if_ne (tgt := 25) hx hb dX6_moved_15 (by decide) (fun c9 => ?_) (fun c9 => ?_)
    · replace h := if_some_f c9 h
      refine lv_aload_n hx hb dX6_moved_25 rfl (lv_at hl 0 rfl) ?_
      replace h := bd_some h
      obtain ⟨r10, er10, h⟩ := h
      refine r_callVv (As := []) (rest := []) hF (c_X6_goLikelyWays l D cy ad adK adV r8.1 o0 r10 er10) (gW_goodV hcm qw676 qw673 qw675 qw11 qw60) hdX6_goLikelyWays rfl ⟨Nat.le_of_ble_eq_true rfl, Nat.le_of_ble_eq_true rfl⟩ rfl rfl hZ hK hw g3 (by decide) rfl rfl hl.1 rfl (Nat.le_of_ble_eq_true rfl) ⟨Nat.zero_le _, Nat.zero_le _⟩ dX6_moved_26 (fun H locs hw => ?_)
      refine lv_aload_n hx hb dX6_moved_29 rfl (lv_at hl 0 rfl) ?_
      replace h := bd_some h
      obtain ⟨q11, eq11, h⟩ := h
      refine r_getR hx hb hts iw6 hown hK hw o0 3 g3 (by decide) rfl (by decide) rfl (hq _ qw338) (fun _ h9 => h9) dX6_moved_30 eq11 ?_
      replace h := gd_some h
      obtain ⟨g12, h⟩ := h
      replace h := bd_some h
      obtain ⟨q13, eq13, h⟩ := h
      refine r_getR hx hb hts iw5 hown hK hw q11 4 g12 (by decide) rfl (by decide) rfl (hq _ qw248) (fun _ h9 => h9) dX6_moved_33 eq13 ?_
      refine lv_iload_n hx hb dX6_moved_36 rfl (lv_at hl 1 rfl) ?_
      replace h := gd_some h
      obtain ⟨g14, h⟩ := h
      refine r_lald hx hb hK hw q13 g14 dX6_moved_37 ?_
      refine lv_aload_n hx hb dX6_moved_38 rfl (lv_at hl 0 rfl) ?_
      replace h := bd_some h
      obtain ⟨q15, eq15, h⟩ := h
      refine r_getR hx hb hts iw6 hown hK hw o0 3 g3 (by decide) rfl (by decide) rfl (hq _ qw338) (fun _ h9 => h9) dX6_moved_39 eq15 ?_
      replace h := gd_some h
      obtain ⟨g16, h⟩ := h
      refine r_getL hx hb hts iw5 hown hK hw q15 6 g16 (by decide) rfl (by decide) rfl (hq _ qw251) (fun _ h9 => h9) dX6_moved_42 ?_
      refine lv_iload_n hx hb dX6_moved_45 rfl (lv_at hl 2 rfl) ?_
      replace h := bd_some h
      obtain ⟨r17, er17, h⟩ := h
      refine r_callSl (As := [.long (r10.1.2.1 q13 a1.toNatClampNeg), .long (r10.1.2.1 q15 6), .int a2]) (rest := []) hF (c_X6_inLowestTerms l D cy ad adK adV r10.1 (r10.1.2.1 q13 a1.toNatClampNeg) (r10.1.2.1 q15 6) a2 r17 er17) (gW_goodS hcm qw705 qw703 qw704 qw60) hdX6_inLowestTerms ⟨Nat.le_of_ble_eq_true rfl, Nat.le_of_ble_eq_true rfl⟩ rfl rfl hZ hK hw rfl hl.1 rfl (Nat.le_of_ble_eq_true rfl) ⟨Nat.zero_le _, Nat.zero_le _⟩ dX6_moved_46 (fun H locs hw => ?_)
      exact r_lret hx hb hr hlocks hZ hK hw h dX6_moved_49
    · replace h := if_some_t c9 h
      exact hb18 _ _ h _ _ _ hw (lv_sub hl [0] rfl)
theorem dX6_suppose_0 : decode cX6_suppose 0 = .ok (.iload_n 2, 1) := by decide +kernel
theorem dX6_suppose_1 : decode cX6_suppose 1 = .ok (.tableswitch 70 0 2 #[27, 43, 59], 27) := by decide +kernel
theorem dX6_suppose_28 : decode cX6_suppose 28 = .ok (.aload_n 0, 1) := by decide +kernel
theorem dX6_suppose_29 : decode cX6_suppose 29 = .ok (.getfield 31, 3) := by decide +kernel
theorem dX6_suppose_32 : decode cX6_suppose 32 = .ok (.getfield 74, 3) := by decide +kernel
theorem dX6_suppose_35 : decode cX6_suppose 35 = .ok (.iload_n 1, 1) := by decide +kernel
theorem dX6_suppose_36 : decode cX6_suppose 36 = .ok (.aaload, 1) := by decide +kernel
theorem dX6_suppose_37 : decode cX6_suppose 37 = .ok (.iload_n 3, 1) := by decide +kernel
theorem dX6_suppose_38 : decode cX6_suppose 38 = .ok (.putfield 78, 3) := by decide +kernel
theorem dX6_suppose_41 : decode cX6_suppose 41 = .ok (.goto 39, 3) := by decide +kernel
theorem dX6_suppose_44 : decode cX6_suppose 44 = .ok (.aload_n 0, 1) := by decide +kernel
theorem dX6_suppose_45 : decode cX6_suppose 45 = .ok (.getfield 31, 3) := by decide +kernel
theorem dX6_suppose_48 : decode cX6_suppose 48 = .ok (.getfield 74, 3) := by decide +kernel
theorem dX6_suppose_51 : decode cX6_suppose 51 = .ok (.iload_n 1, 1) := by decide +kernel
theorem dX6_suppose_52 : decode cX6_suppose 52 = .ok (.aaload, 1) := by decide +kernel
theorem dX6_suppose_53 : decode cX6_suppose 53 = .ok (.iload_n 3, 1) := by decide +kernel
theorem dX6_suppose_54 : decode cX6_suppose 54 = .ok (.putfield 86, 3) := by decide +kernel
theorem dX6_suppose_57 : decode cX6_suppose 57 = .ok (.goto 23, 3) := by decide +kernel
theorem dX6_suppose_60 : decode cX6_suppose 60 = .ok (.aload_n 0, 1) := by decide +kernel
theorem dX6_suppose_61 : decode cX6_suppose 61 = .ok (.getfield 31, 3) := by decide +kernel
theorem dX6_suppose_64 : decode cX6_suppose 64 = .ok (.iload_n 3, 1) := by decide +kernel
theorem dX6_suppose_65 : decode cX6_suppose 65 = .ok (.putfield 141, 3) := by decide +kernel
theorem dX6_suppose_68 : decode cX6_suppose 68 = .ok (.goto 12, 3) := by decide +kernel
theorem dX6_suppose_71 : decode cX6_suppose 71 = .ok (.aload_n 0, 1) := by decide +kernel
theorem dX6_suppose_72 : decode cX6_suppose 72 = .ok (.getfield 31, 3) := by decide +kernel
theorem dX6_suppose_75 : decode cX6_suppose 75 = .ok (.iload_n 1, 1) := by decide +kernel
theorem dX6_suppose_76 : decode cX6_suppose 76 = .ok (.iload_n 3, 1) := by decide +kernel
theorem dX6_suppose_77 : decode cX6_suppose 77 = .ok (.invokevirtual 303, 3) := by decide +kernel
theorem dX6_suppose_80 : decode cX6_suppose 80 = .ok (.return_, 1) := by decide +kernel
set_option maxHeartbeats 4000000 in
set_option maxRecDepth 100000 in
theorem c_X6_suppose (l : Launch) (D : va_G) (cy : Nat → ClassId) (ad adK adV : Nat → Nat) (M : Mm) (o0 : Nat) (a1 : Int32) (a2 : Int32) (a3 : Int32) (res : Mm × Unit) (h : f_X6_suppose M o0 a1 a2 a3 = some res) : Met l yX6_suppose (wU yX6_suppose cX6_suppose 4 none) rmX6_suppose (va_Pc [.ref (ad o0), .int a1, .int a2, .int a3] (Pre D cy shX ad nX adK adV M)) (va_Qv (fun (M2 : Mm) => M2 = res.1) (Pre D cy shX ad nX adK adV) (Aw ad nX)) 0 0 (Aw ad nX) := by
  refine Met.ofW (cc := cX6_suppose) (maxL := 4) (ret := none) (by decide) rfl ?_
  intro p e s m args below meth c s₁ B hml hv
  obtain ⟨hargs, hPre⟩ := hv
  have hx := B.exec
  have hb := B.bytes
  have hr := B.returns
  have hts := atoms_spec (ws := wU yX6_suppose cX6_suppose 4 none) B.pre
  have hq : ∀ w ∈ gW, w.before args s = true := fun w hw => hts w (List.mem_cons_of_mem _ hw)
  have hcm : ∀ w ∈ gW, w ∈ wU yX6_suppose cX6_suppose 4 none := fun w hw => List.mem_cons_of_mem _ hw
  have hown : s.vm.findClass RX6 = some m.cls := findClass_of_methodNamed B.named
  have hlocks := B.notSynchronized
  have hF : CallFix p m c cX6_suppose 4 s args (wU yX6_suppose cX6_suppose 4 none) RX6 := ⟨hx, hb, hml, hown, hts⟩
  have hK := hPre.2.1
  have hZ := hPre.2.2.2
  have hw : Wd D cy shX ad nX (Aw ad nX) s.heap M s.heap [] := ⟨hPre.1, hPre.2.2.1, va_S.rf⟩
  have iw1 : ∀ w ∈ u_ws RX1 TX1 11, w ∈ wU yX6_suppose cX6_suppose 4 none := fun w hw => List.mem_cons_of_mem _ (iX1 w hw)
  have iw3 : ∀ w ∈ u_ws RX3 TX3 6, w ∈ wU yX6_suppose cX6_suppose 4 none := fun w hw => List.mem_cons_of_mem _ (iX3 w hw)
  have iw6 : ∀ w ∈ u_ws RX6 TX6 8, w ∈ wU yX6_suppose cX6_suppose 4 none := fun w hw => List.mem_cons_of_mem _ (iX6 w hw)
  rw [show entryFrame m args 4 = entryFrame m ([.ref (ad o0), .int a1, .int a2, .int a3] : List Value).toArray 4 from by rw [hargs]]
  have hl := lv_entry ([.ref (ad o0), .int a1, .int a2, .int a3]) (n := 4) (Nat.le_of_ble_eq_true rfl)
  rw [lg_entry_eq]
  generalize (lg_sl ([.ref (ad o0), .int a1, .int a2, .int a3]) ++ List.replicate (4 - (lg_sl ([.ref (ad o0), .int a1, .int a2, .int a3])).length) Slot.unset).toArray = ls at hl ⊢
  have hl : lv_has ls 4 [(0, .ref (ad o0)), (1, .int a1), (2, .int a2), (3, .int a3)] := hl
  unfold f_X6_suppose at h
  refine lv_iload_n hx hb dX6_suppose_0 rfl (lv_at hl 2 rfl) ?_
  by_cases s1 : a2 = 0
  · replace h := if_some_t s1 h
    refine lv_tableIn (off := 27) (tgt := 28) hx hb dX6_suppose_1 (by rw [s1]; decide) (by rw [s1]; decide) (by rw [s1]; decide) (by decide) ?_
    refine lv_aload_n hx hb dX6_suppose_28 rfl (lv_at hl 0 rfl) ?_
    replace h := gd_some h
    obtain ⟨g2, h⟩ := h
    replace h := bd_some h
    obtain ⟨q3, eq3, h⟩ := h
    refine r_getR hx hb hts iw6 hown hK hw o0 4 g2 (by decide) rfl (by decide) rfl (hq _ qw339) (fun _ h9 => h9) dX6_suppose_29 eq3 ?_
    replace h := gd_some h
    obtain ⟨g4, h⟩ := h
    replace h := bd_some h
    obtain ⟨q5, eq5, h⟩ := h
    refine r_getR hx hb hts iw1 hown hK hw q3 0 g4 (by decide) rfl (by decide) rfl (hq _ qw182) (fun _ h9 => h9) dX6_suppose_32 eq5 ?_
    refine lv_iload_n hx hb dX6_suppose_35 rfl (lv_at hl 1 rfl) ?_
    replace h := gd_some h
    obtain ⟨g6, h⟩ := h
    replace h := bd_some h
    obtain ⟨q7, eq7, h⟩ := h
    refine r_aald hx hb hK hw q5 2 (by decide) rfl g6 dX6_suppose_36 eq7 ?_
    refine lv_iload_n hx hb dX6_suppose_37 rfl (lv_at hl 3 rfl) ?_
    replace h := gd_some h
    obtain ⟨g8, h⟩ := h
    refine r_putI hx hb hts iw3 tyX3 tyX3_ok nmX3 hown hK hw q7 0 g8 (by decide) rfl (by decide) rfl (hq _ qw98) (fun _ h9 => h9) rfl rfl rfl dX6_suppose_38 (fun H locs hw => ?_)
    replace h := lt_some h
    obtain ⟨M9, eM9, h⟩ := h
    rw [← eM9] at hw
    refine lv_goto (tgt := 80) hx hb dX6_suppose_41 (by decide) ?_
    exact r_vret hx hb hr hlocks hZ hK hw h dX6_suppose_80
  replace h := if_some_f s1 h
  by_cases s10 : a2 = 1
  · replace h := if_some_t s10 h
    refine lv_tableIn (off := 43) (tgt := 44) hx hb dX6_suppose_1 (by rw [s10]; decide) (by rw [s10]; decide) (by rw [s10]; decide) (by decide) ?_
    refine lv_aload_n hx hb dX6_suppose_44 rfl (lv_at hl 0 rfl) ?_
    replace h := gd_some h
    obtain ⟨g11, h⟩ := h
    replace h := bd_some h
    obtain ⟨q12, eq12, h⟩ := h
    refine r_getR hx hb hts iw6 hown hK hw o0 4 g11 (by decide) rfl (by decide) rfl (hq _ qw339) (fun _ h9 => h9) dX6_suppose_45 eq12 ?_
    replace h := gd_some h
    obtain ⟨g13, h⟩ := h
    replace h := bd_some h
    obtain ⟨q14, eq14, h⟩ := h
    refine r_getR hx hb hts iw1 hown hK hw q12 0 g13 (by decide) rfl (by decide) rfl (hq _ qw182) (fun _ h9 => h9) dX6_suppose_48 eq14 ?_
    refine lv_iload_n hx hb dX6_suppose_51 rfl (lv_at hl 1 rfl) ?_
    replace h := gd_some h
    obtain ⟨g15, h⟩ := h
    replace h := bd_some h
    obtain ⟨q16, eq16, h⟩ := h
    refine r_aald hx hb hK hw q14 2 (by decide) rfl g15 dX6_suppose_52 eq16 ?_
    refine lv_iload_n hx hb dX6_suppose_53 rfl (lv_at hl 3 rfl) ?_
    replace h := gd_some h
    obtain ⟨g17, h⟩ := h
    refine r_putI hx hb hts iw3 tyX3 tyX3_ok nmX3 hown hK hw q16 2 g17 (by decide) rfl (by decide) rfl (hq _ qw104) (fun _ h9 => h9) rfl rfl rfl dX6_suppose_54 (fun H locs hw => ?_)
    replace h := lt_some h
    obtain ⟨M18, eM18, h⟩ := h
    rw [← eM18] at hw
    refine lv_goto (tgt := 80) hx hb dX6_suppose_57 (by decide) ?_
    exact r_vret hx hb hr hlocks hZ hK hw h dX6_suppose_80
  replace h := if_some_f s10 h
  by_cases s19 : a2 = 2
  · replace h := if_some_t s19 h
    refine lv_tableIn (off := 59) (tgt := 60) hx hb dX6_suppose_1 (by rw [s19]; decide) (by rw [s19]; decide) (by rw [s19]; decide) (by decide) ?_
    refine lv_aload_n hx hb dX6_suppose_60 rfl (lv_at hl 0 rfl) ?_
    replace h := gd_some h
    obtain ⟨g20, h⟩ := h
    replace h := bd_some h
    obtain ⟨q21, eq21, h⟩ := h
    refine r_getR hx hb hts iw6 hown hK hw o0 4 g20 (by decide) rfl (by decide) rfl (hq _ qw339) (fun _ h9 => h9) dX6_suppose_61 eq21 ?_
    refine lv_iload_n hx hb dX6_suppose_64 rfl (lv_at hl 3 rfl) ?_
    replace h := gd_some h
    obtain ⟨g22, h⟩ := h
    refine r_putI hx hb hts iw1 tyX1 tyX1_ok nmX1 hown hK hw q21 6 g22 (by decide) rfl (by decide) rfl (hq _ qw202) (fun _ h9 => h9) rfl rfl rfl dX6_suppose_65 (fun H locs hw => ?_)
    replace h := lt_some h
    obtain ⟨M23, eM23, h⟩ := h
    rw [← eM23] at hw
    refine lv_goto (tgt := 80) hx hb dX6_suppose_68 (by decide) ?_
    exact r_vret hx hb hr hlocks hZ hK hw h dX6_suppose_80
  replace h := if_some_f s19 h
  have hout28 : a2.toInt < 0 ∨ 2 < a2.toInt := by
    refine tsw_out (fun cz h1 h2 => ?_)
    rcases (show cz = 0 ∨ cz = 1 ∨ cz = 2 by omega) with rfl | rfl | rfl
    · exact fun e9 => s1 (e9.trans (by decide))
    · exact fun e9 => s10 (e9.trans (by decide))
    · exact fun e9 => s19 (e9.trans (by decide))
  refine lv_tableOut (tgt := 71) hx hb dX6_suppose_1 hout28 (by decide) ?_
  refine lv_aload_n hx hb dX6_suppose_71 rfl (lv_at hl 0 rfl) ?_
  replace h := gd_some h
  obtain ⟨g24, h⟩ := h
  replace h := bd_some h
  obtain ⟨q25, eq25, h⟩ := h
  refine r_getR hx hb hts iw6 hown hK hw o0 4 g24 (by decide) rfl (by decide) rfl (hq _ qw339) (fun _ h9 => h9) dX6_suppose_72 eq25 ?_
  refine lv_iload_n hx hb dX6_suppose_75 rfl (lv_at hl 1 rfl) ?_
  refine lv_iload_n hx hb dX6_suppose_76 rfl (lv_at hl 3 rfl) ?_
  replace h := gd_some h
  obtain ⟨g27, h⟩ := h
  replace h := bd_some h
  obtain ⟨r26, er26, h⟩ := h
  refine r_callVv (As := [.int a1, .int a3]) (rest := []) hF (c_X1_force l D cy ad adK adV M q25 a1 a3 r26 er26) (gW_goodV hcm qw746 qw743 qw744 qw745 qw61) hdX1_force rfl ⟨Nat.le_of_ble_eq_true rfl, Nat.le_of_ble_eq_true rfl⟩ rfl rfl hZ hK hw g27 (by decide) rfl rfl hl.1 rfl (Nat.le_of_ble_eq_true rfl) ⟨Nat.zero_le _, Nat.zero_le _⟩ dX6_suppose_77 (fun H locs hw => ?_)
  exact r_vret hx hb hr hlocks hZ hK hw h dX6_suppose_80
theorem dX6_greatestMean_0 : decode cX6_greatestMean 0 = .ok (.aload_n 0, 1) := by decide +kernel
theorem dX6_greatestMean_1 : decode cX6_greatestMean 1 = .ok (.getfield 31, 3) := by decide +kernel
theorem dX6_greatestMean_4 : decode cX6_greatestMean 4 = .ok (.aload_n 0, 1) := by decide +kernel
theorem dX6_greatestMean_5 : decode cX6_greatestMean 5 = .ok (.getfield 10, 3) := by decide +kernel
theorem dX6_greatestMean_8 : decode cX6_greatestMean 8 = .ok (.invokevirtual 151, 3) := by decide +kernel
theorem dX6_greatestMean_11 : decode cX6_greatestMean 11 = .ok (.iload_n 3, 1) := by decide +kernel
theorem dX6_greatestMean_12 : decode cX6_greatestMean 12 = .ok (.istore 5, 2) := by decide +kernel
theorem dX6_greatestMean_14 : decode cX6_greatestMean 14 = .ok (.ldc2_w 297, 3) := by decide +kernel
theorem dX6_greatestMean_17 : decode cX6_greatestMean 17 = .ok (.lstore 6, 2) := by decide +kernel
theorem dX6_greatestMean_19 : decode cX6_greatestMean 19 = .ok (.iload_n 3, 1) := by decide +kernel
theorem dX6_greatestMean_20 : decode cX6_greatestMean 20 = .ok (.istore 8, 2) := by decide +kernel
theorem dX6_greatestMean_22 : decode cX6_greatestMean 22 = .ok (.iload 8, 2) := by decide +kernel
theorem dX6_greatestMean_24 : decode cX6_greatestMean 24 = .ok (.iload 4, 2) := by decide +kernel
theorem dX6_greatestMean_26 : decode cX6_greatestMean 26 = .ok (.if_icmp .gt 57, 3) := by decide +kernel
theorem dX6_greatestMean_29 : decode cX6_greatestMean 29 = .ok (.aload_n 0, 1) := by decide +kernel
theorem dX6_greatestMean_30 : decode cX6_greatestMean 30 = .ok (.iload_n 1, 1) := by decide +kernel
theorem dX6_greatestMean_31 : decode cX6_greatestMean 31 = .ok (.iload_n 2, 1) := by decide +kernel
theorem dX6_greatestMean_32 : decode cX6_greatestMean 32 = .ok (.iload 8, 2) := by decide +kernel
theorem dX6_greatestMean_34 : decode cX6_greatestMean 34 = .ok (.invokevirtual 299, 3) := by decide +kernel
theorem dX6_greatestMean_37 : decode cX6_greatestMean 37 = .ok (.aload_n 0, 1) := by decide +kernel
theorem dX6_greatestMean_38 : decode cX6_greatestMean 38 = .ok (.getfield 26, 3) := by decide +kernel
theorem dX6_greatestMean_41 : decode cX6_greatestMean 41 = .ok (.iload_n 1, 1) := by decide +kernel
theorem dX6_greatestMean_42 : decode cX6_greatestMean 42 = .ok (.iconst 0, 1) := by decide +kernel
theorem dX6_greatestMean_43 : decode cX6_greatestMean 43 = .ok (.iconst 0, 1) := by decide +kernel
theorem dX6_greatestMean_44 : decode cX6_greatestMean 44 = .ok (.invokevirtual 213, 3) := by decide +kernel
theorem dX6_greatestMean_47 : decode cX6_greatestMean 47 = .ok (.aload_n 0, 1) := by decide +kernel
theorem dX6_greatestMean_48 : decode cX6_greatestMean 48 = .ok (.getfield 26, 3) := by decide +kernel
theorem dX6_greatestMean_51 : decode cX6_greatestMean 51 = .ok (.getfield 210, 3) := by decide +kernel
theorem dX6_greatestMean_54 : decode cX6_greatestMean 54 = .ok (.iload_n 1, 1) := by decide +kernel
theorem dX6_greatestMean_55 : decode cX6_greatestMean 55 = .ok (.laload, 1) := by decide +kernel
theorem dX6_greatestMean_56 : decode cX6_greatestMean 56 = .ok (.lload 6, 2) := by decide +kernel
theorem dX6_greatestMean_58 : decode cX6_greatestMean 58 = .ok (.lcmp, 1) := by decide +kernel
theorem dX6_greatestMean_59 : decode cX6_greatestMean 59 = .ok (.ifCond .le 18, 3) := by decide +kernel
theorem dX6_greatestMean_62 : decode cX6_greatestMean 62 = .ok (.aload_n 0, 1) := by decide +kernel
theorem dX6_greatestMean_63 : decode cX6_greatestMean 63 = .ok (.getfield 26, 3) := by decide +kernel
theorem dX6_greatestMean_66 : decode cX6_greatestMean 66 = .ok (.getfield 210, 3) := by decide +kernel
theorem dX6_greatestMean_69 : decode cX6_greatestMean 69 = .ok (.iload_n 1, 1) := by decide +kernel
theorem dX6_greatestMean_70 : decode cX6_greatestMean 70 = .ok (.laload, 1) := by decide +kernel
theorem dX6_greatestMean_71 : decode cX6_greatestMean 71 = .ok (.lstore 6, 2) := by decide +kernel
theorem dX6_greatestMean_73 : decode cX6_greatestMean 73 = .ok (.iload 8, 2) := by decide +kernel
theorem dX6_greatestMean_75 : decode cX6_greatestMean 75 = .ok (.istore 5, 2) := by decide +kernel
theorem dX6_greatestMean_77 : decode cX6_greatestMean 77 = .ok (.iinc 8 1, 3) := by decide +kernel
theorem dX6_greatestMean_80 : decode cX6_greatestMean 80 = .ok (.goto (-58), 3) := by decide +kernel
theorem dX6_greatestMean_83 : decode cX6_greatestMean 83 = .ok (.iload 5, 2) := by decide +kernel
theorem dX6_greatestMean_85 : decode cX6_greatestMean 85 = .ok (.ireturn, 1) := by decide +kernel
set_option maxHeartbeats 4000000 in
set_option maxRecDepth 100000 in
theorem c_X6_greatestMean (l : Launch) (D : va_G) (cy : Nat → ClassId) (ad adK adV : Nat → Nat) (M : Mm) (o0 : Nat) (a1 : Int32) (a2 : Int32) (a3 : Int32) (a4 : Int32) (res : Mm × Int32) (h : f_X6_greatestMean M o0 a1 a2 a3 a4 = some res) : Met l yX6_greatestMean (wU yX6_greatestMean cX6_greatestMean 9 (some .int)) rmX6_greatestMean (va_Pc [.ref (ad o0), .int a1, .int a2, .int a3, .int a4] (Pre D cy shX ad nX adK adV M)) (va_Qi (fun r (M2 : Mm) => r = res.2 ∧ M2 = res.1) (Pre D cy shX ad nX adK adV) (Aw ad nX)) 0 0 (Aw ad nX) := by
  refine Met.ofW (cc := cX6_greatestMean) (maxL := 9) (ret := (some .int)) (by decide) rfl ?_
  intro p e s m args below meth c s₁ B hml hv
  obtain ⟨hargs, hPre⟩ := hv
  have hx := B.exec
  have hb := B.bytes
  have hr := B.returns
  have hts := atoms_spec (ws := wU yX6_greatestMean cX6_greatestMean 9 (some .int)) B.pre
  have hq : ∀ w ∈ gW, w.before args s = true := fun w hw => hts w (List.mem_cons_of_mem _ hw)
  have hcm : ∀ w ∈ gW, w ∈ wU yX6_greatestMean cX6_greatestMean 9 (some .int) := fun w hw => List.mem_cons_of_mem _ hw
  have hown : s.vm.findClass RX6 = some m.cls := findClass_of_methodNamed B.named
  have hlocks := B.notSynchronized
  have hF : CallFix p m c cX6_greatestMean 9 s args (wU yX6_greatestMean cX6_greatestMean 9 (some .int)) RX6 := ⟨hx, hb, hml, hown, hts⟩
  have hK := hPre.2.1
  have hZ := hPre.2.2.2
  have hw : Wd D cy shX ad nX (Aw ad nX) s.heap M s.heap [] := ⟨hPre.1, hPre.2.2.1, va_S.rf⟩
  have iw5 : ∀ w ∈ u_ws RX5 TX5 13, w ∈ wU yX6_greatestMean cX6_greatestMean 9 (some .int) := fun w hw => List.mem_cons_of_mem _ (iX5 w hw)
  have iw6 : ∀ w ∈ u_ws RX6 TX6 8, w ∈ wU yX6_greatestMean cX6_greatestMean 9 (some .int) := fun w hw => List.mem_cons_of_mem _ (iX6 w hw)
  rw [show entryFrame m args 9 = entryFrame m ([.ref (ad o0), .int a1, .int a2, .int a3, .int a4] : List Value).toArray 9 from by rw [hargs]]
  have hl := lv_entry ([.ref (ad o0), .int a1, .int a2, .int a3, .int a4]) (n := 9) (Nat.le_of_ble_eq_true rfl)
  rw [lg_entry_eq]
  generalize (lg_sl ([.ref (ad o0), .int a1, .int a2, .int a3, .int a4]) ++ List.replicate (9 - (lg_sl ([.ref (ad o0), .int a1, .int a2, .int a3, .int a4])).length) Slot.unset).toArray = ls at hl ⊢
  have hl : lv_has ls 9 [(0, .ref (ad o0)), (1, .int a1), (2, .int a2), (3, .int a3), (4, .int a4)] := hl
  have hb77 : ∀ (k22 : Mm → Nat → Int32 → Int32 → Int32 → Int32 → Int64 → Int32 → Option (Mm × Int32)) (hk22 : ∀ (M : Mm) (x0 : Nat) (x1 : Int32) (x2 : Int32) (x4 : Int32) (x5 : Int32) (x6 : Int64) (x8 : Int32), k22 M x0 x1 x2 x4 x5 x6 x8 = some res → ∀ (H : Heap) (locs : List Loc) (ls : Array Slot), Wd D cy shX ad nX (Aw ad nX) s.heap M H locs → lv_has ls 9 [(0, .ref (ad x0)), (1, .int x1), (2, .int x2), (4, .int x4), (5, .int x5), (6, .long x6), (8, .int x8)] → W p l e (headSpec (wU yX6_greatestMean cX6_greatestMean 9 (some .int)) rmX6_greatestMean).room s m args below meth c H locs 0 0 (QI D cy shX ad nX adK adV below args s res) (F0 m 22 ls [])), ∀ (M : Mm) (x0 : Nat) (x1 : Int32) (x2 : Int32) (x4 : Int32) (x5 : Int32) (x6 : Int64) (x8 : Int32), f_X6_greatestMean_b77 k22 M x0 x1 x2 x4 x5 x6 x8 = some res → ∀ (H : Heap) (locs : List Loc) (ls : Array Slot), Wd D cy shX ad nX (Aw ad nX) s.heap M H locs → lv_has ls 9 [(0, .ref (ad x0)), (1, .int x1), (2, .int x2), (4, .int x4), (5, .int x5), (6, .long x6), (8, .int x8)] → W p l e (headSpec (wU yX6_greatestMean cX6_greatestMean 9 (some .int)) rmX6_greatestMean).room s m args below meth c H locs 0 0 (QI D cy shX ad nX adK adV below args s res) (F0 m 77 ls []) := by
    intro k22 hk22
    intro M x0 x1 x2 x4 x5 x6 x8 h H locs ls hw hl
    unfold f_X6_greatestMean_b77 at h
    refine lv_iinc (v := x8 + (1 : Int32)) (lv' := [(8, .int (x8 + (1 : Int32))), (0, .ref (ad x0)), (1, .int x1), (2, .int x2), (4, .int x4), (5, .int x5), (6, .long x6)]) hx hb dX6_greatestMean_77 hl (k := 6) rfl (congrArg (fun z => x8 + z) (by decide)) (by decide) rfl (fun ls hl => ?_)
    refine lv_goto (tgt := 22) hx hb dX6_greatestMean_80 (by decide) ?_
    exact hk22 _ _ _ _ _ _ _ _ h _ _ _ hw (lv_sub hl [1, 2, 3, 4, 5, 6, 0] rfl)
  have hb22 : ∀ (nn : Nat), ∀ (M : Mm) (x0 : Nat) (x1 : Int32) (x2 : Int32) (x4 : Int32) (x5 : Int32) (x6 : Int64) (x8 : Int32), f_X6_greatestMean_b22 nn M x0 x1 x2 x4 x5 x6 x8 = some res → ∀ (H : Heap) (locs : List Loc) (ls : Array Slot), Wd D cy shX ad nX (Aw ad nX) s.heap M H locs → lv_has ls 9 [(0, .ref (ad x0)), (1, .int x1), (2, .int x2), (4, .int x4), (5, .int x5), (6, .long x6), (8, .int x8)] → W p l e (headSpec (wU yX6_greatestMean cX6_greatestMean 9 (some .int)) rmX6_greatestMean).room s m args below meth c H locs 0 0 (QI D cy shX ad nX adK adV below args s res) (F0 m 22 ls []) := by
    intro nn
    induction nn with
    | zero => intro M x0 x1 x2 x4 x5 x6 x8 h; simp [f_X6_greatestMean_b22] at h
    | succ nn ih =>
      intro M x0 x1 x2 x4 x5 x6 x8 h H locs ls hw hl
      unfold f_X6_greatestMean_b22 at h
      refine lv_iload hx hb dX6_greatestMean_22 (lv_at hl 6 rfl) ?_
      refine lv_iload hx hb dX6_greatestMean_24 (lv_at hl 3 rfl) ?_
      refine lv_icmp_gt (tgt := 83) hx hb dX6_greatestMean_26 (by decide) (fun c1 => ?_) (fun c1 => ?_)
      · replace h := if_some_t c1 h
        refine lv_iload hx hb dX6_greatestMean_83 (lv_at hl 4 rfl) ?_
        exact r_iret hx hb hr rfl hlocks hZ hK hw h dX6_greatestMean_85
      · replace h := if_some_f c1 h
        refine lv_aload_n hx hb dX6_greatestMean_29 rfl (lv_at hl 0 rfl) ?_
        refine lv_iload_n hx hb dX6_greatestMean_30 rfl (lv_at hl 1 rfl) ?_
        refine lv_iload_n hx hb dX6_greatestMean_31 rfl (lv_at hl 2 rfl) ?_
        refine lv_iload hx hb dX6_greatestMean_32 (lv_at hl 6 rfl) ?_
        replace h := gd_some h
        obtain ⟨g3, h⟩ := h
        replace h := bd_some h
        obtain ⟨r2, er2, h⟩ := h
        refine r_callVv (As := [.int x1, .int x2, .int x8]) (rest := []) hF (c_X6_suppose l D cy ad adK adV M x0 x1 x2 x8 r2 er2) (gW_goodV hcm qw742 qw739 qw741 qw15 qw60) hdX6_suppose rfl ⟨Nat.le_of_ble_eq_true rfl, Nat.le_of_ble_eq_true rfl⟩ rfl rfl hZ hK hw g3 (by decide) rfl rfl hl.1 rfl (Nat.le_of_ble_eq_true rfl) ⟨Nat.zero_le _, Nat.zero_le _⟩ dX6_greatestMean_34 (fun H locs hw => ?_)
        refine lv_aload_n hx hb dX6_greatestMean_37 rfl (lv_at hl 0 rfl) ?_
        replace h := bd_some h
        obtain ⟨q4, eq4, h⟩ := h
        refine r_getR hx hb hts iw6 hown hK hw x0 3 g3 (by decide) rfl (by decide) rfl (hq _ qw338) (fun _ h9 => h9) dX6_greatestMean_38 eq4 ?_
        refine lv_iload_n hx hb dX6_greatestMean_41 rfl (lv_at hl 1 rfl) ?_
        refine lv_iconst (v := (0 : Int32)) hx hb dX6_greatestMean_42 (by decide) ?_
        refine lv_iconst (v := (0 : Int32)) hx hb dX6_greatestMean_43 (by decide) ?_
        replace h := gd_some h
        obtain ⟨g6, h⟩ := h
        replace h := bd_some h
        obtain ⟨r5, er5, h⟩ := h
        refine r_callVv (As := [.int x1, .int (0 : Int32), .int (0 : Int32)]) (rest := []) hF (c_X5_over l D cy ad adK adV r2.1 q4 x1 (0 : Int32) (0 : Int32) r5 er5) (gW_goodV hcm qw680 qw677 qw678 qw679 qw64) hdX5_over rfl ⟨Nat.le_of_ble_eq_true rfl, Nat.le_of_ble_eq_true rfl⟩ rfl rfl hZ hK hw g6 (by decide) rfl rfl hl.1 rfl (Nat.le_of_ble_eq_true rfl) ⟨Nat.zero_le _, Nat.zero_le _⟩ dX6_greatestMean_44 (fun H locs hw => ?_)
        refine lv_aload_n hx hb dX6_greatestMean_47 rfl (lv_at hl 0 rfl) ?_
        replace h := bd_some h
        obtain ⟨q7, eq7, h⟩ := h
        refine r_getR hx hb hts iw6 hown hK hw x0 3 g3 (by decide) rfl (by decide) rfl (hq _ qw338) (fun _ h9 => h9) dX6_greatestMean_48 eq7 ?_
        replace h := gd_some h
        obtain ⟨g8, h⟩ := h
        replace h := bd_some h
        obtain ⟨q9, eq9, h⟩ := h
        refine r_getR hx hb hts iw5 hown hK hw q7 1 g8 (by decide) rfl (by decide) rfl (hq _ qw242) (fun _ h9 => h9) dX6_greatestMean_51 eq9 ?_
        refine lv_iload_n hx hb dX6_greatestMean_54 rfl (lv_at hl 1 rfl) ?_
        replace h := gd_some h
        obtain ⟨g10, h⟩ := h
        refine r_lald hx hb hK hw q9 g10 dX6_greatestMean_55 ?_
        refine lv_lload hx hb dX6_greatestMean_56 (lv_at hl 5 rfl) ?_
        refine W.lcmp hx hb dX6_greatestMean_58 ?_
        refine lv_if_le (tgt := 77) hx hb dX6_greatestMean_59 (by decide) (fun c11 => ?_) (fun c11 => ?_)
        · replace h := if_some_t c11 h
          exact hb77 _ ih _ _ _ _ _ _ _ _ h _ _ _ hw (lv_sub hl [0, 1, 2, 3, 4, 5, 6] rfl)
        · replace h := if_some_f c11 h
          refine lv_aload_n hx hb dX6_greatestMean_62 rfl (lv_at hl 0 rfl) ?_
          replace h := bd_some h
          obtain ⟨q12, eq12, h⟩ := h
          refine r_getR hx hb hts iw6 hown hK hw x0 3 g3 (by decide) rfl (by decide) rfl (hq _ qw338) (fun _ h9 => h9) dX6_greatestMean_63 eq12 ?_
          replace h := gd_some h
          obtain ⟨g13, h⟩ := h
          replace h := bd_some h
          obtain ⟨q14, eq14, h⟩ := h
          refine r_getR hx hb hts iw5 hown hK hw q12 1 g13 (by decide) rfl (by decide) rfl (hq _ qw242) (fun _ h9 => h9) dX6_greatestMean_66 eq14 ?_
          refine lv_iload_n hx hb dX6_greatestMean_69 rfl (lv_at hl 1 rfl) ?_
          replace h := gd_some h
          obtain ⟨g15, h⟩ := h
          refine r_lald hx hb hK hw q14 g15 dX6_greatestMean_70 ?_
          refine lv_lstore (lv' := [(6, .long (r5.1.2.1 q14 x1.toNatClampNeg)), (0, .ref (ad x0)), (1, .int x1), (2, .int x2), (4, .int x4), (5, .int x5), (8, .int x8)]) hx hb dX6_greatestMean_71 hl (by decide) rfl (fun ls hl => ?_)
          refine lv_iload hx hb dX6_greatestMean_73 (lv_at hl 6 rfl) ?_
          refine lv_istore (lv' := [(5, .int x8), (6, .long (r5.1.2.1 q14 x1.toNatClampNeg)), (0, .ref (ad x0)), (1, .int x1), (2, .int x2), (4, .int x4), (8, .int x8)]) hx hb dX6_greatestMean_75 hl (by decide) rfl (fun ls hl => ?_)
          exact hb77 _ ih _ _ _ _ _ _ _ _ h _ _ _ hw (lv_sub hl [2, 3, 4, 5, 0, 1, 6] rfl)
  unfold f_X6_greatestMean at h
  refine lv_aload_n hx hb dX6_greatestMean_0 rfl (lv_at hl 0 rfl) ?_
  replace h := gd_some h
  obtain ⟨g16, h⟩ := h
  replace h := bd_some h
  obtain ⟨q17, eq17, h⟩ := h
  refine r_getR hx hb hts iw6 hown hK hw o0 4 g16 (by decide) rfl (by decide) rfl (hq _ qw339) (fun _ h9 => h9) dX6_greatestMean_1 eq17 ?_
  refine lv_aload_n hx hb dX6_greatestMean_4 rfl (lv_at hl 0 rfl) ?_
  replace h := bd_some h
  obtain ⟨q18, eq18, h⟩ := h
  refine r_getR hx hb hts iw6 hown hK hw o0 0 g16 (by decide) rfl (by decide) rfl (hq _ qw335) (fun _ h9 => h9) dX6_greatestMean_5 eq18 ?_
  replace h := gd_some h
  obtain ⟨g20, h⟩ := h
  replace h := bd_some h
  obtain ⟨r19, er19, h⟩ := h
  refine r_callVv (As := [.ref (ad q18)]) (rest := []) hF (c_X1_become l D cy ad adK adV M q17 q18 r19 er19) (gW_goodV hcm qw457 qw454 qw455 qw456 qw61) hdX1_become rfl ⟨Nat.le_of_ble_eq_true rfl, Nat.le_of_ble_eq_true rfl⟩ rfl rfl hZ hK hw g20 (by decide) rfl rfl hl.1 rfl (Nat.le_of_ble_eq_true rfl) ⟨Nat.zero_le _, Nat.zero_le _⟩ dX6_greatestMean_8 (fun H locs hw => ?_)
  refine lv_iload_n hx hb dX6_greatestMean_11 rfl (lv_at hl 3 rfl) ?_
  refine lv_istore (lv' := [(5, .int a3), (0, .ref (ad o0)), (1, .int a1), (2, .int a2), (3, .int a3), (4, .int a4)]) hx hb dX6_greatestMean_12 hl (by decide) rfl (fun ls hl => ?_)
  refine lv_ldc2 (v := (-1 : Int64)) hx hb hown (hq _ qw738) dX6_greatestMean_14 ?_
  refine lv_lstore (lv' := [(6, .long (-1 : Int64)), (5, .int a3), (0, .ref (ad o0)), (1, .int a1), (2, .int a2), (3, .int a3), (4, .int a4)]) hx hb dX6_greatestMean_17 hl (by decide) rfl (fun ls hl => ?_)
  refine lv_iload_n hx hb dX6_greatestMean_19 rfl (lv_at hl 5 rfl) ?_
  refine lv_istore (lv' := [(8, .int a3), (6, .long (-1 : Int64)), (5, .int a3), (0, .ref (ad o0)), (1, .int a1), (2, .int a2), (3, .int a3), (4, .int a4)]) hx hb dX6_greatestMean_20 hl (by decide) rfl (fun ls hl => ?_)
  exact hb22 1000 _ _ _ _ _ _ _ _ h _ _ _ hw (lv_sub hl [3, 4, 5, 7, 2, 1, 0] rfl)
theorem dX6_best_0 : decode cX6_best 0 = .ok (.aload_n 0, 1) := by decide +kernel
theorem dX6_best_1 : decode cX6_best 1 = .ok (.getfield 10, 3) := by decide +kernel
theorem dX6_best_4 : decode cX6_best 4 = .ok (.iload_n 1, 1) := by decide +kernel
theorem dX6_best_5 : decode cX6_best 5 = .ok (.invokevirtual 71, 3) := by decide +kernel
theorem dX6_best_8 : decode cX6_best 8 = .ok (.ifCond .ne 9, 3) := by decide +kernel
theorem dX6_best_11 : decode cX6_best 11 = .ok (.aload_n 0, 1) := by decide +kernel
theorem dX6_best_12 : decode cX6_best 12 = .ok (.iconst 0, 1) := by decide +kernel
theorem dX6_best_13 : decode cX6_best 13 = .ok (.invokevirtual 59, 3) := by decide +kernel
theorem dX6_best_16 : decode cX6_best 16 = .ok (.ireturn, 1) := by decide +kernel
theorem dX6_best_17 : decode cX6_best 17 = .ok (.aload_n 0, 1) := by decide +kernel
theorem dX6_best_18 : decode cX6_best 18 = .ok (.getfield 10, 3) := by decide +kernel
theorem dX6_best_21 : decode cX6_best 21 = .ok (.invokevirtual 159, 3) := by decide +kernel
theorem dX6_best_24 : decode cX6_best 24 = .ok (.ifCond .eq 9, 3) := by decide +kernel
theorem dX6_best_27 : decode cX6_best 27 = .ok (.aload_n 0, 1) := by decide +kernel
theorem dX6_best_28 : decode cX6_best 28 = .ok (.iconst 3, 1) := by decide +kernel
theorem dX6_best_29 : decode cX6_best 29 = .ok (.invokevirtual 59, 3) := by decide +kernel
theorem dX6_best_32 : decode cX6_best 32 = .ok (.ireturn, 1) := by decide +kernel
theorem dX6_best_33 : decode cX6_best 33 = .ok (.aload_n 0, 1) := by decide +kernel
theorem dX6_best_34 : decode cX6_best 34 = .ok (.getfield 10, 3) := by decide +kernel
theorem dX6_best_37 : decode cX6_best 37 = .ok (.getfield 120, 3) := by decide +kernel
theorem dX6_best_40 : decode cX6_best 40 = .ok (.aload_n 0, 1) := by decide +kernel
theorem dX6_best_41 : decode cX6_best 41 = .ok (.getfield 10, 3) := by decide +kernel
theorem dX6_best_44 : decode cX6_best 44 = .ok (.getfield 117, 3) := by decide +kernel
theorem dX6_best_47 : decode cX6_best 47 = .ok (.aaload, 1) := by decide +kernel
theorem dX6_best_48 : decode cX6_best 48 = .ok (.iload_n 1, 1) := by decide +kernel
theorem dX6_best_49 : decode cX6_best 49 = .ok (.invokevirtual 173, 3) := by decide +kernel
theorem dX6_best_52 : decode cX6_best 52 = .ok (.ifCond .ne 9, 3) := by decide +kernel
theorem dX6_best_55 : decode cX6_best 55 = .ok (.aload_n 0, 1) := by decide +kernel
theorem dX6_best_56 : decode cX6_best 56 = .ok (.iconst 4, 1) := by decide +kernel
theorem dX6_best_57 : decode cX6_best 57 = .ok (.invokevirtual 59, 3) := by decide +kernel
theorem dX6_best_60 : decode cX6_best 60 = .ok (.ireturn, 1) := by decide +kernel
theorem dX6_best_61 : decode cX6_best 61 = .ok (.aload_n 0, 1) := by decide +kernel
theorem dX6_best_62 : decode cX6_best 62 = .ok (.iload_n 1, 1) := by decide +kernel
theorem dX6_best_63 : decode cX6_best 63 = .ok (.iconst 3, 1) := by decide +kernel
theorem dX6_best_64 : decode cX6_best 64 = .ok (.iconst 0, 1) := by decide +kernel
theorem dX6_best_65 : decode cX6_best 65 = .ok (.iconst 3, 1) := by decide +kernel
theorem dX6_best_66 : decode cX6_best 66 = .ok (.invokevirtual 229, 3) := by decide +kernel
theorem dX6_best_69 : decode cX6_best 69 = .ok (.ireturn, 1) := by decide +kernel
set_option maxHeartbeats 4000000 in
set_option maxRecDepth 100000 in
theorem c_X6_best (l : Launch) (D : va_G) (cy : Nat → ClassId) (ad adK adV : Nat → Nat) (M : Mm) (o0 : Nat) (a1 : Int32) (res : Mm × Int32) (h : f_X6_best M o0 a1 = some res) : Met l yX6_best (wU yX6_best cX6_best 2 (some .int)) rmX6_best (va_Pc [.ref (ad o0), .int a1] (Pre D cy shX ad nX adK adV M)) (va_Qi (fun r (M2 : Mm) => r = res.2 ∧ M2 = res.1) (Pre D cy shX ad nX adK adV) (Aw ad nX)) 0 0 (Aw ad nX) := by
  refine Met.ofW (cc := cX6_best) (maxL := 2) (ret := (some .int)) (by decide) rfl ?_
  intro p e s m args below meth c s₁ B hml hv
  obtain ⟨hargs, hPre⟩ := hv
  have hx := B.exec
  have hb := B.bytes
  have hr := B.returns
  have hts := atoms_spec (ws := wU yX6_best cX6_best 2 (some .int)) B.pre
  have hq : ∀ w ∈ gW, w.before args s = true := fun w hw => hts w (List.mem_cons_of_mem _ hw)
  have hcm : ∀ w ∈ gW, w ∈ wU yX6_best cX6_best 2 (some .int) := fun w hw => List.mem_cons_of_mem _ hw
  have hown : s.vm.findClass RX6 = some m.cls := findClass_of_methodNamed B.named
  have hlocks := B.notSynchronized
  have hF : CallFix p m c cX6_best 2 s args (wU yX6_best cX6_best 2 (some .int)) RX6 := ⟨hx, hb, hml, hown, hts⟩
  have hK := hPre.2.1
  have hZ := hPre.2.2.2
  have hw : Wd D cy shX ad nX (Aw ad nX) s.heap M s.heap [] := ⟨hPre.1, hPre.2.2.1, va_S.rf⟩
  have iw1 : ∀ w ∈ u_ws RX1 TX1 11, w ∈ wU yX6_best cX6_best 2 (some .int) := fun w hw => List.mem_cons_of_mem _ (iX1 w hw)
  have iw6 : ∀ w ∈ u_ws RX6 TX6 8, w ∈ wU yX6_best cX6_best 2 (some .int) := fun w hw => List.mem_cons_of_mem _ (iX6 w hw)
  rw [show entryFrame m args 2 = entryFrame m ([.ref (ad o0), .int a1] : List Value).toArray 2 from by rw [hargs]]
  have hl := lv_entry ([.ref (ad o0), .int a1]) (n := 2) (Nat.le_of_ble_eq_true rfl)
  rw [lg_entry_eq]
  generalize (lg_sl ([.ref (ad o0), .int a1]) ++ List.replicate (2 - (lg_sl ([.ref (ad o0), .int a1])).length) Slot.unset).toArray = ls at hl ⊢
  have hl : lv_has ls 2 [(0, .ref (ad o0)), (1, .int a1)] := hl
  unfold f_X6_best at h
  refine lv_aload_n hx hb dX6_best_0 rfl (lv_at hl 0 rfl) ?_
  replace h := gd_some h
  obtain ⟨g1, h⟩ := h
  replace h := bd_some h
  obtain ⟨q2, eq2, h⟩ := h
  refine r_getR hx hb hts iw6 hown hK hw o0 0 g1 (by decide) rfl (by decide) rfl (hq _ qw335) (fun _ h9 => h9) dX6_best_1 eq2 ?_
  refine lv_iload_n hx hb dX6_best_4 rfl (lv_at hl 1 rfl) ?_
  replace h := gd_some h
  obtain ⟨g4, h⟩ := h
  replace h := bd_some h
  obtain ⟨r3, er3, h⟩ := h
  refine r_callVi (As := [.int a1]) (rest := []) hF (c_X1_hasSide l D cy ad adK adV M q2 a1 r3 er3) (gW_goodV hcm qw390 qw387 qw388 qw389 qw61) hdX1_hasSide rfl ⟨Nat.le_of_ble_eq_true rfl, Nat.le_of_ble_eq_true rfl⟩ rfl rfl hZ hK hw g4 (by decide) rfl rfl hl.1 rfl (Nat.le_of_ble_eq_true rfl) ⟨Nat.zero_le _, Nat.zero_le _⟩ dX6_best_5 (fun H locs hw => ?_)
  refine lv_if_ne (tgt := 17) hx hb dX6_best_8 (by decide) (fun c5 => ?_) (fun c5 => ?_)
  · replace h := if_some_f c5 h
    refine lv_aload_n hx hb dX6_best_17 rfl (lv_at hl 0 rfl) ?_
    replace h := bd_some h
    obtain ⟨q6, eq6, h⟩ := h
    refine r_getR hx hb hts iw6 hown hK hw o0 0 g1 (by decide) rfl (by decide) rfl (hq _ qw335) (fun _ h9 => h9) dX6_best_18 eq6 ?_
    replace h := gd_some h
    obtain ⟨g8, h⟩ := h
    replace h := bd_some h
    obtain ⟨r7, er7, h⟩ := h
    refine r_callVi (As := []) (rest := []) hF (c_X1_allPlayed l D cy ad adK adV r3.1 q6 r7 er7) (gW_goodV hcm qw591 qw588 qw589 qw590 qw61) hdX1_allPlayed rfl ⟨Nat.le_of_ble_eq_true rfl, Nat.le_of_ble_eq_true rfl⟩ rfl rfl hZ hK hw g8 (by decide) rfl rfl hl.1 rfl (Nat.le_of_ble_eq_true rfl) ⟨Nat.zero_le _, Nat.zero_le _⟩ dX6_best_21 (fun H locs hw => ?_)
    refine lv_if_eq (tgt := 33) hx hb dX6_best_24 (by decide) (fun c9 => ?_) (fun c9 => ?_)
    · replace h := if_some_t c9 h
      refine lv_aload_n hx hb dX6_best_33 rfl (lv_at hl 0 rfl) ?_
      replace h := bd_some h
      obtain ⟨q10, eq10, h⟩ := h
      refine r_getR hx hb hts iw6 hown hK hw o0 0 g1 (by decide) rfl (by decide) rfl (hq _ qw335) (fun _ h9 => h9) dX6_best_34 eq10 ?_
      replace h := gd_some h
      obtain ⟨g11, h⟩ := h
      replace h := bd_some h
      obtain ⟨q12, eq12, h⟩ := h
      refine r_getR hx hb hts iw1 hown hK hw q10 1 g11 (by decide) rfl (by decide) rfl (hq _ qw186) (fun _ h9 => h9) dX6_best_37 eq12 ?_
      refine lv_aload_n hx hb dX6_best_40 rfl (lv_at hl 0 rfl) ?_
      replace h := bd_some h
      obtain ⟨q13, eq13, h⟩ := h
      refine r_getR hx hb hts iw6 hown hK hw o0 0 g1 (by decide) rfl (by decide) rfl (hq _ qw335) (fun _ h9 => h9) dX6_best_41 eq13 ?_
      replace h := gd_some h
      obtain ⟨g14, h⟩ := h
      refine r_getI hx hb hts iw1 hown hK hw q13 5 g14 (by decide) rfl (by decide) rfl (hq _ qw199) (fun _ h9 => h9) dX6_best_44 ?_
      replace h := gd_some h
      obtain ⟨g15, h⟩ := h
      replace h := bd_some h
      obtain ⟨q16, eq16, h⟩ := h
      refine r_aald hx hb hK hw q12 3 (by decide) rfl g15 dX6_best_47 eq16 ?_
      refine lv_iload_n hx hb dX6_best_48 rfl (lv_at hl 1 rfl) ?_
      replace h := gd_some h
      obtain ⟨g18, h⟩ := h
      replace h := bd_some h
      obtain ⟨r17, er17, h⟩ := h
      refine r_callVi (As := [.int a1]) (rest := []) hF (c_X0_isOf l D cy ad adK adV r7.1 q16 a1 r17 er17) (gW_goodV hcm qw402 qw618 qw400 qw401 qw63) hdX0_isOf rfl ⟨Nat.le_of_ble_eq_true rfl, Nat.le_of_ble_eq_true rfl⟩ rfl rfl hZ hK hw g18 (by decide) rfl rfl hl.1 rfl (Nat.le_of_ble_eq_true rfl) ⟨Nat.zero_le _, Nat.zero_le _⟩ dX6_best_49 (fun H locs hw => ?_)
      refine lv_if_ne (tgt := 61) hx hb dX6_best_52 (by decide) (fun c19 => ?_) (fun c19 => ?_)
      · replace h := if_some_f c19 h
        refine lv_aload_n hx hb dX6_best_61 rfl (lv_at hl 0 rfl) ?_
        refine lv_iload_n hx hb dX6_best_62 rfl (lv_at hl 1 rfl) ?_
        refine lv_iconst (v := (3 : Int32)) hx hb dX6_best_63 (by decide) ?_
        refine lv_iconst (v := (0 : Int32)) hx hb dX6_best_64 (by decide) ?_
        refine lv_iconst (v := (3 : Int32)) hx hb dX6_best_65 (by decide) ?_
        replace h := bd_some h
        obtain ⟨r20, er20, h⟩ := h
        refine r_callVi (As := [.int a1, .int (3 : Int32), .int (0 : Int32), .int (3 : Int32)]) (rest := []) hF (c_X6_greatestMean l D cy ad adK adV r17.1 o0 a1 (3 : Int32) (0 : Int32) (3 : Int32) r20 er20) (gW_goodV hcm qw737 qw734 qw736 qw14 qw60) hdX6_greatestMean rfl ⟨Nat.le_of_ble_eq_true rfl, Nat.le_of_ble_eq_true rfl⟩ rfl rfl hZ hK hw g1 (by decide) rfl rfl hl.1 rfl (Nat.le_of_ble_eq_true rfl) ⟨Nat.zero_le _, Nat.zero_le _⟩ dX6_best_66 (fun H locs hw => ?_)
        exact r_iret hx hb hr rfl hlocks hZ hK hw h dX6_best_69
      · replace h := if_some_t c19 h
        refine lv_aload_n hx hb dX6_best_55 rfl (lv_at hl 0 rfl) ?_
        refine lv_iconst (v := (4 : Int32)) hx hb dX6_best_56 (by decide) ?_
        replace h := bd_some h
        obtain ⟨r21, er21, h⟩ := h
        refine r_callVi (As := [.int (4 : Int32)]) (rest := []) hF (c_X6_finding l D cy ad adK adV r17.1 o0 (4 : Int32) r21 er21) (gW_goodV hcm qw373 qw370 qw372 qw0 qw60) hdX6_finding rfl ⟨Nat.le_of_ble_eq_true rfl, Nat.le_of_ble_eq_true rfl⟩ rfl rfl hZ hK hw g1 (by decide) rfl rfl hl.1 rfl (Nat.le_of_ble_eq_true rfl) ⟨Nat.zero_le _, Nat.zero_le _⟩ dX6_best_57 (fun H locs hw => ?_)
        exact r_iret hx hb hr rfl hlocks hZ hK hw h dX6_best_60
    · replace h := if_some_f c9 h
      refine lv_aload_n hx hb dX6_best_27 rfl (lv_at hl 0 rfl) ?_
      refine lv_iconst (v := (3 : Int32)) hx hb dX6_best_28 (by decide) ?_
      replace h := bd_some h
      obtain ⟨r22, er22, h⟩ := h
      refine r_callVi (As := [.int (3 : Int32)]) (rest := []) hF (c_X6_finding l D cy ad adK adV r7.1 o0 (3 : Int32) r22 er22) (gW_goodV hcm qw373 qw370 qw372 qw0 qw60) hdX6_finding rfl ⟨Nat.le_of_ble_eq_true rfl, Nat.le_of_ble_eq_true rfl⟩ rfl rfl hZ hK hw g1 (by decide) rfl rfl hl.1 rfl (Nat.le_of_ble_eq_true rfl) ⟨Nat.zero_le _, Nat.zero_le _⟩ dX6_best_29 (fun H locs hw => ?_)
      exact r_iret hx hb hr rfl hlocks hZ hK hw h dX6_best_32
  · replace h := if_some_t c5 h
    refine lv_aload_n hx hb dX6_best_11 rfl (lv_at hl 0 rfl) ?_
    refine lv_iconst (v := (0 : Int32)) hx hb dX6_best_12 (by decide) ?_
    replace h := bd_some h
    obtain ⟨r23, er23, h⟩ := h
    refine r_callVi (As := [.int (0 : Int32)]) (rest := []) hF (c_X6_finding l D cy ad adK adV r3.1 o0 (0 : Int32) r23 er23) (gW_goodV hcm qw373 qw370 qw372 qw0 qw60) hdX6_finding rfl ⟨Nat.le_of_ble_eq_true rfl, Nat.le_of_ble_eq_true rfl⟩ rfl rfl hZ hK hw g1 (by decide) rfl rfl hl.1 rfl (Nat.le_of_ble_eq_true rfl) ⟨Nat.zero_le _, Nat.zero_le _⟩ dX6_best_13 (fun H locs hw => ?_)
    exact r_iret hx hb hr rfl hlocks hZ hK hw h dX6_best_16
theorem dX6_kindFor_0 : decode cX6_kindFor 0 = .ok (.aload_n 0, 1) := by decide +kernel
theorem dX6_kindFor_1 : decode cX6_kindFor 1 = .ok (.getfield 10, 3) := by decide +kernel
theorem dX6_kindFor_4 : decode cX6_kindFor 4 = .ok (.iload_n 1, 1) := by decide +kernel
theorem dX6_kindFor_5 : decode cX6_kindFor 5 = .ok (.invokevirtual 71, 3) := by decide +kernel
theorem dX6_kindFor_8 : decode cX6_kindFor 8 = .ok (.ifCond .ne 9, 3) := by decide +kernel
theorem dX6_kindFor_11 : decode cX6_kindFor 11 = .ok (.aload_n 0, 1) := by decide +kernel
theorem dX6_kindFor_12 : decode cX6_kindFor 12 = .ok (.iconst 0, 1) := by decide +kernel
theorem dX6_kindFor_13 : decode cX6_kindFor 13 = .ok (.invokevirtual 59, 3) := by decide +kernel
theorem dX6_kindFor_16 : decode cX6_kindFor 16 = .ok (.ireturn, 1) := by decide +kernel
theorem dX6_kindFor_17 : decode cX6_kindFor 17 = .ok (.aload_n 0, 1) := by decide +kernel
theorem dX6_kindFor_18 : decode cX6_kindFor 18 = .ok (.iload_n 1, 1) := by decide +kernel
theorem dX6_kindFor_19 : decode cX6_kindFor 19 = .ok (.iconst 0, 1) := by decide +kernel
theorem dX6_kindFor_20 : decode cX6_kindFor 20 = .ok (.iconst 0, 1) := by decide +kernel
theorem dX6_kindFor_21 : decode cX6_kindFor 21 = .ok (.bipush 6, 2) := by decide +kernel
theorem dX6_kindFor_23 : decode cX6_kindFor 23 = .ok (.invokevirtual 229, 3) := by decide +kernel
theorem dX6_kindFor_26 : decode cX6_kindFor 26 = .ok (.ireturn, 1) := by decide +kernel
set_option maxHeartbeats 4000000 in
set_option maxRecDepth 100000 in
theorem c_X6_kindFor (l : Launch) (D : va_G) (cy : Nat → ClassId) (ad adK adV : Nat → Nat) (M : Mm) (o0 : Nat) (a1 : Int32) (res : Mm × Int32) (h : f_X6_kindFor M o0 a1 = some res) : Met l yX6_kindFor (wU yX6_kindFor cX6_kindFor 2 (some .int)) rmX6_kindFor (va_Pc [.ref (ad o0), .int a1] (Pre D cy shX ad nX adK adV M)) (va_Qi (fun r (M2 : Mm) => r = res.2 ∧ M2 = res.1) (Pre D cy shX ad nX adK adV) (Aw ad nX)) 0 0 (Aw ad nX) := by
  refine Met.ofW (cc := cX6_kindFor) (maxL := 2) (ret := (some .int)) (by decide) rfl ?_
  intro p e s m args below meth c s₁ B hml hv
  obtain ⟨hargs, hPre⟩ := hv
  have hx := B.exec
  have hb := B.bytes
  have hr := B.returns
  have hts := atoms_spec (ws := wU yX6_kindFor cX6_kindFor 2 (some .int)) B.pre
  have hq : ∀ w ∈ gW, w.before args s = true := fun w hw => hts w (List.mem_cons_of_mem _ hw)
  have hcm : ∀ w ∈ gW, w ∈ wU yX6_kindFor cX6_kindFor 2 (some .int) := fun w hw => List.mem_cons_of_mem _ hw
  have hown : s.vm.findClass RX6 = some m.cls := findClass_of_methodNamed B.named
  have hlocks := B.notSynchronized
  have hF : CallFix p m c cX6_kindFor 2 s args (wU yX6_kindFor cX6_kindFor 2 (some .int)) RX6 := ⟨hx, hb, hml, hown, hts⟩
  have hK := hPre.2.1
  have hZ := hPre.2.2.2
  have hw : Wd D cy shX ad nX (Aw ad nX) s.heap M s.heap [] := ⟨hPre.1, hPre.2.2.1, va_S.rf⟩
  have iw6 : ∀ w ∈ u_ws RX6 TX6 8, w ∈ wU yX6_kindFor cX6_kindFor 2 (some .int) := fun w hw => List.mem_cons_of_mem _ (iX6 w hw)
  rw [show entryFrame m args 2 = entryFrame m ([.ref (ad o0), .int a1] : List Value).toArray 2 from by rw [hargs]]
  have hl := lv_entry ([.ref (ad o0), .int a1]) (n := 2) (Nat.le_of_ble_eq_true rfl)
  rw [lg_entry_eq]
  generalize (lg_sl ([.ref (ad o0), .int a1]) ++ List.replicate (2 - (lg_sl ([.ref (ad o0), .int a1])).length) Slot.unset).toArray = ls at hl ⊢
  have hl : lv_has ls 2 [(0, .ref (ad o0)), (1, .int a1)] := hl
  unfold f_X6_kindFor at h
  refine lv_aload_n hx hb dX6_kindFor_0 rfl (lv_at hl 0 rfl) ?_
  replace h := gd_some h
  obtain ⟨g1, h⟩ := h
  replace h := bd_some h
  obtain ⟨q2, eq2, h⟩ := h
  refine r_getR hx hb hts iw6 hown hK hw o0 0 g1 (by decide) rfl (by decide) rfl (hq _ qw335) (fun _ h9 => h9) dX6_kindFor_1 eq2 ?_
  refine lv_iload_n hx hb dX6_kindFor_4 rfl (lv_at hl 1 rfl) ?_
  replace h := gd_some h
  obtain ⟨g4, h⟩ := h
  replace h := bd_some h
  obtain ⟨r3, er3, h⟩ := h
  refine r_callVi (As := [.int a1]) (rest := []) hF (c_X1_hasSide l D cy ad adK adV M q2 a1 r3 er3) (gW_goodV hcm qw390 qw387 qw388 qw389 qw61) hdX1_hasSide rfl ⟨Nat.le_of_ble_eq_true rfl, Nat.le_of_ble_eq_true rfl⟩ rfl rfl hZ hK hw g4 (by decide) rfl rfl hl.1 rfl (Nat.le_of_ble_eq_true rfl) ⟨Nat.zero_le _, Nat.zero_le _⟩ dX6_kindFor_5 (fun H locs hw => ?_)
  refine lv_if_ne (tgt := 17) hx hb dX6_kindFor_8 (by decide) (fun c5 => ?_) (fun c5 => ?_)
  · replace h := if_some_f c5 h
    refine lv_aload_n hx hb dX6_kindFor_17 rfl (lv_at hl 0 rfl) ?_
    refine lv_iload_n hx hb dX6_kindFor_18 rfl (lv_at hl 1 rfl) ?_
    refine lv_iconst (v := (0 : Int32)) hx hb dX6_kindFor_19 (by decide) ?_
    refine lv_iconst (v := (0 : Int32)) hx hb dX6_kindFor_20 (by decide) ?_
    refine lv_bipush (v := (6 : Int32)) hx hb dX6_kindFor_21 (by decide) ?_
    replace h := bd_some h
    obtain ⟨r6, er6, h⟩ := h
    refine r_callVi (As := [.int a1, .int (0 : Int32), .int (0 : Int32), .int (6 : Int32)]) (rest := []) hF (c_X6_greatestMean l D cy ad adK adV r3.1 o0 a1 (0 : Int32) (0 : Int32) (6 : Int32) r6 er6) (gW_goodV hcm qw737 qw734 qw736 qw14 qw60) hdX6_greatestMean rfl ⟨Nat.le_of_ble_eq_true rfl, Nat.le_of_ble_eq_true rfl⟩ rfl rfl hZ hK hw g1 (by decide) rfl rfl hl.1 rfl (Nat.le_of_ble_eq_true rfl) ⟨Nat.zero_le _, Nat.zero_le _⟩ dX6_kindFor_23 (fun H locs hw => ?_)
    exact r_iret hx hb hr rfl hlocks hZ hK hw h dX6_kindFor_26
  · replace h := if_some_t c5 h
    refine lv_aload_n hx hb dX6_kindFor_11 rfl (lv_at hl 0 rfl) ?_
    refine lv_iconst (v := (0 : Int32)) hx hb dX6_kindFor_12 (by decide) ?_
    replace h := bd_some h
    obtain ⟨r7, er7, h⟩ := h
    refine r_callVi (As := [.int (0 : Int32)]) (rest := []) hF (c_X6_finding l D cy ad adK adV r3.1 o0 (0 : Int32) r7 er7) (gW_goodV hcm qw373 qw370 qw372 qw0 qw60) hdX6_finding rfl ⟨Nat.le_of_ble_eq_true rfl, Nat.le_of_ble_eq_true rfl⟩ rfl rfl hZ hK hw g1 (by decide) rfl rfl hl.1 rfl (Nat.le_of_ble_eq_true rfl) ⟨Nat.zero_le _, Nat.zero_le _⟩ dX6_kindFor_13 (fun H locs hw => ?_)
    exact r_iret hx hb hr rfl hlocks hZ hK hw h dX6_kindFor_16
theorem dX6_tellsFor_0 : decode cX6_tellsFor 0 = .ok (.aload_n 0, 1) := by decide +kernel
theorem dX6_tellsFor_1 : decode cX6_tellsFor 1 = .ok (.getfield 10, 3) := by decide +kernel
theorem dX6_tellsFor_4 : decode cX6_tellsFor 4 = .ok (.iload_n 1, 1) := by decide +kernel
theorem dX6_tellsFor_5 : decode cX6_tellsFor 5 = .ok (.invokevirtual 71, 3) := by decide +kernel
theorem dX6_tellsFor_8 : decode cX6_tellsFor 8 = .ok (.ifCond .ne 9, 3) := by decide +kernel
theorem dX6_tellsFor_11 : decode cX6_tellsFor 11 = .ok (.aload_n 0, 1) := by decide +kernel
theorem dX6_tellsFor_12 : decode cX6_tellsFor 12 = .ok (.iconst 0, 1) := by decide +kernel
theorem dX6_tellsFor_13 : decode cX6_tellsFor 13 = .ok (.invokevirtual 59, 3) := by decide +kernel
theorem dX6_tellsFor_16 : decode cX6_tellsFor 16 = .ok (.ireturn, 1) := by decide +kernel
theorem dX6_tellsFor_17 : decode cX6_tellsFor 17 = .ok (.aload_n 0, 1) := by decide +kernel
theorem dX6_tellsFor_18 : decode cX6_tellsFor 18 = .ok (.iload_n 1, 1) := by decide +kernel
theorem dX6_tellsFor_19 : decode cX6_tellsFor 19 = .ok (.iconst 1, 1) := by decide +kernel
theorem dX6_tellsFor_20 : decode cX6_tellsFor 20 = .ok (.iconst 0, 1) := by decide +kernel
theorem dX6_tellsFor_21 : decode cX6_tellsFor 21 = .ok (.bipush 9, 2) := by decide +kernel
theorem dX6_tellsFor_23 : decode cX6_tellsFor 23 = .ok (.invokevirtual 229, 3) := by decide +kernel
theorem dX6_tellsFor_26 : decode cX6_tellsFor 26 = .ok (.ireturn, 1) := by decide +kernel
set_option maxHeartbeats 4000000 in
set_option maxRecDepth 100000 in
theorem c_X6_tellsFor (l : Launch) (D : va_G) (cy : Nat → ClassId) (ad adK adV : Nat → Nat) (M : Mm) (o0 : Nat) (a1 : Int32) (res : Mm × Int32) (h : f_X6_tellsFor M o0 a1 = some res) : Met l yX6_tellsFor (wU yX6_tellsFor cX6_tellsFor 2 (some .int)) rmX6_tellsFor (va_Pc [.ref (ad o0), .int a1] (Pre D cy shX ad nX adK adV M)) (va_Qi (fun r (M2 : Mm) => r = res.2 ∧ M2 = res.1) (Pre D cy shX ad nX adK adV) (Aw ad nX)) 0 0 (Aw ad nX) := by
  refine Met.ofW (cc := cX6_tellsFor) (maxL := 2) (ret := (some .int)) (by decide) rfl ?_
  intro p e s m args below meth c s₁ B hml hv
  obtain ⟨hargs, hPre⟩ := hv
  have hx := B.exec
  have hb := B.bytes
  have hr := B.returns
  have hts := atoms_spec (ws := wU yX6_tellsFor cX6_tellsFor 2 (some .int)) B.pre
  have hq : ∀ w ∈ gW, w.before args s = true := fun w hw => hts w (List.mem_cons_of_mem _ hw)
  have hcm : ∀ w ∈ gW, w ∈ wU yX6_tellsFor cX6_tellsFor 2 (some .int) := fun w hw => List.mem_cons_of_mem _ hw
  have hown : s.vm.findClass RX6 = some m.cls := findClass_of_methodNamed B.named
  have hlocks := B.notSynchronized
  have hF : CallFix p m c cX6_tellsFor 2 s args (wU yX6_tellsFor cX6_tellsFor 2 (some .int)) RX6 := ⟨hx, hb, hml, hown, hts⟩
  have hK := hPre.2.1
  have hZ := hPre.2.2.2
  have hw : Wd D cy shX ad nX (Aw ad nX) s.heap M s.heap [] := ⟨hPre.1, hPre.2.2.1, va_S.rf⟩
  have iw6 : ∀ w ∈ u_ws RX6 TX6 8, w ∈ wU yX6_tellsFor cX6_tellsFor 2 (some .int) := fun w hw => List.mem_cons_of_mem _ (iX6 w hw)
  rw [show entryFrame m args 2 = entryFrame m ([.ref (ad o0), .int a1] : List Value).toArray 2 from by rw [hargs]]
  have hl := lv_entry ([.ref (ad o0), .int a1]) (n := 2) (Nat.le_of_ble_eq_true rfl)
  rw [lg_entry_eq]
  generalize (lg_sl ([.ref (ad o0), .int a1]) ++ List.replicate (2 - (lg_sl ([.ref (ad o0), .int a1])).length) Slot.unset).toArray = ls at hl ⊢
  have hl : lv_has ls 2 [(0, .ref (ad o0)), (1, .int a1)] := hl
  unfold f_X6_tellsFor at h
  refine lv_aload_n hx hb dX6_tellsFor_0 rfl (lv_at hl 0 rfl) ?_
  replace h := gd_some h
  obtain ⟨g1, h⟩ := h
  replace h := bd_some h
  obtain ⟨q2, eq2, h⟩ := h
  refine r_getR hx hb hts iw6 hown hK hw o0 0 g1 (by decide) rfl (by decide) rfl (hq _ qw335) (fun _ h9 => h9) dX6_tellsFor_1 eq2 ?_
  refine lv_iload_n hx hb dX6_tellsFor_4 rfl (lv_at hl 1 rfl) ?_
  replace h := gd_some h
  obtain ⟨g4, h⟩ := h
  replace h := bd_some h
  obtain ⟨r3, er3, h⟩ := h
  refine r_callVi (As := [.int a1]) (rest := []) hF (c_X1_hasSide l D cy ad adK adV M q2 a1 r3 er3) (gW_goodV hcm qw390 qw387 qw388 qw389 qw61) hdX1_hasSide rfl ⟨Nat.le_of_ble_eq_true rfl, Nat.le_of_ble_eq_true rfl⟩ rfl rfl hZ hK hw g4 (by decide) rfl rfl hl.1 rfl (Nat.le_of_ble_eq_true rfl) ⟨Nat.zero_le _, Nat.zero_le _⟩ dX6_tellsFor_5 (fun H locs hw => ?_)
  refine lv_if_ne (tgt := 17) hx hb dX6_tellsFor_8 (by decide) (fun c5 => ?_) (fun c5 => ?_)
  · replace h := if_some_f c5 h
    refine lv_aload_n hx hb dX6_tellsFor_17 rfl (lv_at hl 0 rfl) ?_
    refine lv_iload_n hx hb dX6_tellsFor_18 rfl (lv_at hl 1 rfl) ?_
    refine lv_iconst (v := (1 : Int32)) hx hb dX6_tellsFor_19 (by decide) ?_
    refine lv_iconst (v := (0 : Int32)) hx hb dX6_tellsFor_20 (by decide) ?_
    refine lv_bipush (v := (9 : Int32)) hx hb dX6_tellsFor_21 (by decide) ?_
    replace h := bd_some h
    obtain ⟨r6, er6, h⟩ := h
    refine r_callVi (As := [.int a1, .int (1 : Int32), .int (0 : Int32), .int (9 : Int32)]) (rest := []) hF (c_X6_greatestMean l D cy ad adK adV r3.1 o0 a1 (1 : Int32) (0 : Int32) (9 : Int32) r6 er6) (gW_goodV hcm qw737 qw734 qw736 qw14 qw60) hdX6_greatestMean rfl ⟨Nat.le_of_ble_eq_true rfl, Nat.le_of_ble_eq_true rfl⟩ rfl rfl hZ hK hw g1 (by decide) rfl rfl hl.1 rfl (Nat.le_of_ble_eq_true rfl) ⟨Nat.zero_le _, Nat.zero_le _⟩ dX6_tellsFor_23 (fun H locs hw => ?_)
    exact r_iret hx hb hr rfl hlocks hZ hK hw h dX6_tellsFor_26
  · replace h := if_some_t c5 h
    refine lv_aload_n hx hb dX6_tellsFor_11 rfl (lv_at hl 0 rfl) ?_
    refine lv_iconst (v := (0 : Int32)) hx hb dX6_tellsFor_12 (by decide) ?_
    replace h := bd_some h
    obtain ⟨r7, er7, h⟩ := h
    refine r_callVi (As := [.int (0 : Int32)]) (rest := []) hF (c_X6_finding l D cy ad adK adV r3.1 o0 (0 : Int32) r7 er7) (gW_goodV hcm qw373 qw370 qw372 qw0 qw60) hdX6_finding rfl ⟨Nat.le_of_ble_eq_true rfl, Nat.le_of_ble_eq_true rfl⟩ rfl rfl hZ hK hw g1 (by decide) rfl rfl hl.1 rfl (Nat.le_of_ble_eq_true rfl) ⟨Nat.zero_le _, Nat.zero_le _⟩ dX6_tellsFor_13 (fun H locs hw => ?_)
    exact r_iret hx hb hr rfl hlocks hZ hK hw h dX6_tellsFor_16
theorem dX6_arrangeTrial_0 : decode cX6_arrangeTrial 0 = .ok (.iload_n 1, 1) := by decide +kernel
theorem dX6_arrangeTrial_1 : decode cX6_arrangeTrial 1 = .ok (.istore_n 3, 1) := by decide +kernel
theorem dX6_arrangeTrial_2 : decode cX6_arrangeTrial 2 = .ok (.iconst 0, 1) := by decide +kernel
theorem dX6_arrangeTrial_3 : decode cX6_arrangeTrial 3 = .ok (.istore 4, 2) := by decide +kernel
theorem dX6_arrangeTrial_5 : decode cX6_arrangeTrial 5 = .ok (.iconst 0, 1) := by decide +kernel
theorem dX6_arrangeTrial_6 : decode cX6_arrangeTrial 6 = .ok (.istore 5, 2) := by decide +kernel
theorem dX6_arrangeTrial_8 : decode cX6_arrangeTrial 8 = .ok (.iconst 1, 1) := by decide +kernel
theorem dX6_arrangeTrial_9 : decode cX6_arrangeTrial 9 = .ok (.istore 6, 2) := by decide +kernel
theorem dX6_arrangeTrial_11 : decode cX6_arrangeTrial 11 = .ok (.iload_n 2, 1) := by decide +kernel
theorem dX6_arrangeTrial_12 : decode cX6_arrangeTrial 12 = .ok (.iconst 1, 1) := by decide +kernel
theorem dX6_arrangeTrial_13 : decode cX6_arrangeTrial 13 = .ok (.isub, 1) := by decide +kernel
theorem dX6_arrangeTrial_14 : decode cX6_arrangeTrial 14 = .ok (.istore 7, 2) := by decide +kernel
theorem dX6_arrangeTrial_16 : decode cX6_arrangeTrial 16 = .ok (.iload 7, 2) := by decide +kernel
theorem dX6_arrangeTrial_18 : decode cX6_arrangeTrial 18 = .ok (.ifCond .lt 91, 3) := by decide +kernel
theorem dX6_arrangeTrial_21 : decode cX6_arrangeTrial 21 = .ok (.iload_n 3, 1) := by decide +kernel
theorem dX6_arrangeTrial_22 : decode cX6_arrangeTrial 22 = .ok (.iload_n 2, 1) := by decide +kernel
theorem dX6_arrangeTrial_23 : decode cX6_arrangeTrial 23 = .ok (.irem, 1) := by decide +kernel
theorem dX6_arrangeTrial_24 : decode cX6_arrangeTrial 24 = .ok (.istore 8, 2) := by decide +kernel
theorem dX6_arrangeTrial_26 : decode cX6_arrangeTrial 26 = .ok (.iload_n 3, 1) := by decide +kernel
theorem dX6_arrangeTrial_27 : decode cX6_arrangeTrial 27 = .ok (.iload_n 2, 1) := by decide +kernel
theorem dX6_arrangeTrial_28 : decode cX6_arrangeTrial 28 = .ok (.idiv, 1) := by decide +kernel
theorem dX6_arrangeTrial_29 : decode cX6_arrangeTrial 29 = .ok (.istore_n 3, 1) := by decide +kernel
theorem dX6_arrangeTrial_30 : decode cX6_arrangeTrial 30 = .ok (.iload 4, 2) := by decide +kernel
theorem dX6_arrangeTrial_32 : decode cX6_arrangeTrial 32 = .ok (.iconst 1, 1) := by decide +kernel
theorem dX6_arrangeTrial_33 : decode cX6_arrangeTrial 33 = .ok (.iload 8, 2) := by decide +kernel
theorem dX6_arrangeTrial_35 : decode cX6_arrangeTrial 35 = .ok (.ishl, 1) := by decide +kernel
theorem dX6_arrangeTrial_36 : decode cX6_arrangeTrial 36 = .ok (.ior, 1) := by decide +kernel
theorem dX6_arrangeTrial_37 : decode cX6_arrangeTrial 37 = .ok (.istore 4, 2) := by decide +kernel
theorem dX6_arrangeTrial_39 : decode cX6_arrangeTrial 39 = .ok (.iload 5, 2) := by decide +kernel
theorem dX6_arrangeTrial_41 : decode cX6_arrangeTrial 41 = .ok (.aload_n 0, 1) := by decide +kernel
theorem dX6_arrangeTrial_42 : decode cX6_arrangeTrial 42 = .ok (.getfield 10, 3) := by decide +kernel
theorem dX6_arrangeTrial_45 : decode cX6_arrangeTrial 45 = .ok (.getfield 117, 3) := by decide +kernel
theorem dX6_arrangeTrial_48 : decode cX6_arrangeTrial 48 = .ok (.iload 8, 2) := by decide +kernel
theorem dX6_arrangeTrial_50 : decode cX6_arrangeTrial 50 = .ok (.iadd, 1) := by decide +kernel
theorem dX6_arrangeTrial_51 : decode cX6_arrangeTrial 51 = .ok (.iload 6, 2) := by decide +kernel
theorem dX6_arrangeTrial_53 : decode cX6_arrangeTrial 53 = .ok (.imul, 1) := by decide +kernel
theorem dX6_arrangeTrial_54 : decode cX6_arrangeTrial 54 = .ok (.iadd, 1) := by decide +kernel
theorem dX6_arrangeTrial_55 : decode cX6_arrangeTrial 55 = .ok (.istore 5, 2) := by decide +kernel
theorem dX6_arrangeTrial_57 : decode cX6_arrangeTrial 57 = .ok (.iload 6, 2) := by decide +kernel
theorem dX6_arrangeTrial_59 : decode cX6_arrangeTrial 59 = .ok (.bipush 10, 2) := by decide +kernel
theorem dX6_arrangeTrial_61 : decode cX6_arrangeTrial 61 = .ok (.imul, 1) := by decide +kernel
theorem dX6_arrangeTrial_62 : decode cX6_arrangeTrial 62 = .ok (.istore 6, 2) := by decide +kernel
theorem dX6_arrangeTrial_64 : decode cX6_arrangeTrial 64 = .ok (.aload_n 0, 1) := by decide +kernel
theorem dX6_arrangeTrial_65 : decode cX6_arrangeTrial 65 = .ok (.getfield 31, 3) := by decide +kernel
theorem dX6_arrangeTrial_68 : decode cX6_arrangeTrial 68 = .ok (.getfield 120, 3) := by decide +kernel
theorem dX6_arrangeTrial_71 : decode cX6_arrangeTrial 71 = .ok (.aload_n 0, 1) := by decide +kernel
theorem dX6_arrangeTrial_72 : decode cX6_arrangeTrial 72 = .ok (.getfield 10, 3) := by decide +kernel
theorem dX6_arrangeTrial_75 : decode cX6_arrangeTrial 75 = .ok (.getfield 117, 3) := by decide +kernel
theorem dX6_arrangeTrial_78 : decode cX6_arrangeTrial 78 = .ok (.iload 7, 2) := by decide +kernel
theorem dX6_arrangeTrial_80 : decode cX6_arrangeTrial 80 = .ok (.iadd, 1) := by decide +kernel
theorem dX6_arrangeTrial_81 : decode cX6_arrangeTrial 81 = .ok (.aaload, 1) := by decide +kernel
theorem dX6_arrangeTrial_82 : decode cX6_arrangeTrial 82 = .ok (.aload_n 0, 1) := by decide +kernel
theorem dX6_arrangeTrial_83 : decode cX6_arrangeTrial 83 = .ok (.getfield 10, 3) := by decide +kernel
theorem dX6_arrangeTrial_86 : decode cX6_arrangeTrial 86 = .ok (.getfield 120, 3) := by decide +kernel
theorem dX6_arrangeTrial_89 : decode cX6_arrangeTrial 89 = .ok (.aload_n 0, 1) := by decide +kernel
theorem dX6_arrangeTrial_90 : decode cX6_arrangeTrial 90 = .ok (.getfield 10, 3) := by decide +kernel
theorem dX6_arrangeTrial_93 : decode cX6_arrangeTrial 93 = .ok (.getfield 117, 3) := by decide +kernel
theorem dX6_arrangeTrial_96 : decode cX6_arrangeTrial 96 = .ok (.iload 8, 2) := by decide +kernel
theorem dX6_arrangeTrial_98 : decode cX6_arrangeTrial 98 = .ok (.iadd, 1) := by decide +kernel
theorem dX6_arrangeTrial_99 : decode cX6_arrangeTrial 99 = .ok (.aaload, 1) := by decide +kernel
theorem dX6_arrangeTrial_100 : decode cX6_arrangeTrial 100 = .ok (.invokevirtual 309, 3) := by decide +kernel
theorem dX6_arrangeTrial_103 : decode cX6_arrangeTrial 103 = .ok (.iinc 7 (-1), 3) := by decide +kernel
theorem dX6_arrangeTrial_106 : decode cX6_arrangeTrial 106 = .ok (.goto (-90), 3) := by decide +kernel
theorem dX6_arrangeTrial_109 : decode cX6_arrangeTrial 109 = .ok (.iload 4, 2) := by decide +kernel
theorem dX6_arrangeTrial_111 : decode cX6_arrangeTrial 111 = .ok (.iconst 1, 1) := by decide +kernel
theorem dX6_arrangeTrial_112 : decode cX6_arrangeTrial 112 = .ok (.iload_n 2, 1) := by decide +kernel
theorem dX6_arrangeTrial_113 : decode cX6_arrangeTrial 113 = .ok (.ishl, 1) := by decide +kernel
theorem dX6_arrangeTrial_114 : decode cX6_arrangeTrial 114 = .ok (.iconst 1, 1) := by decide +kernel
theorem dX6_arrangeTrial_115 : decode cX6_arrangeTrial 115 = .ok (.isub, 1) := by decide +kernel
theorem dX6_arrangeTrial_116 : decode cX6_arrangeTrial 116 = .ok (.if_icmp .ne 8, 3) := by decide +kernel
theorem dX6_arrangeTrial_119 : decode cX6_arrangeTrial 119 = .ok (.iload 5, 2) := by decide +kernel
theorem dX6_arrangeTrial_121 : decode cX6_arrangeTrial 121 = .ok (.goto 4, 3) := by decide +kernel
theorem dX6_arrangeTrial_124 : decode cX6_arrangeTrial 124 = .ok (.iconst (-1), 1) := by decide +kernel
theorem dX6_arrangeTrial_125 : decode cX6_arrangeTrial 125 = .ok (.ireturn, 1) := by decide +kernel
set_option maxHeartbeats 4000000 in
set_option maxRecDepth 100000 in
theorem c_X6_arrangeTrial (l : Launch) (D : va_G) (cy : Nat → ClassId) (ad adK adV : Nat → Nat) (M : Mm) (o0 : Nat) (a1 : Int32) (a2 : Int32) (res : Mm × Int32) (h : f_X6_arrangeTrial M o0 a1 a2 = some res) : Met l yX6_arrangeTrial (wU yX6_arrangeTrial cX6_arrangeTrial 9 (some .int)) rmX6_arrangeTrial (va_Pc [.ref (ad o0), .int a1, .int a2] (Pre D cy shX ad nX adK adV M)) (va_Qi (fun r (M2 : Mm) => r = res.2 ∧ M2 = res.1) (Pre D cy shX ad nX adK adV) (Aw ad nX)) 0 0 (Aw ad nX) := by
  refine Met.ofW (cc := cX6_arrangeTrial) (maxL := 9) (ret := (some .int)) (by decide) rfl ?_
  intro p e s m args below meth c s₁ B hml hv
  obtain ⟨hargs, hPre⟩ := hv
  have hx := B.exec
  have hb := B.bytes
  have hr := B.returns
  have hts := atoms_spec (ws := wU yX6_arrangeTrial cX6_arrangeTrial 9 (some .int)) B.pre
  have hq : ∀ w ∈ gW, w.before args s = true := fun w hw => hts w (List.mem_cons_of_mem _ hw)
  have hcm : ∀ w ∈ gW, w ∈ wU yX6_arrangeTrial cX6_arrangeTrial 9 (some .int) := fun w hw => List.mem_cons_of_mem _ hw
  have hown : s.vm.findClass RX6 = some m.cls := findClass_of_methodNamed B.named
  have hlocks := B.notSynchronized
  have hF : CallFix p m c cX6_arrangeTrial 9 s args (wU yX6_arrangeTrial cX6_arrangeTrial 9 (some .int)) RX6 := ⟨hx, hb, hml, hown, hts⟩
  have hK := hPre.2.1
  have hZ := hPre.2.2.2
  have hw : Wd D cy shX ad nX (Aw ad nX) s.heap M s.heap [] := ⟨hPre.1, hPre.2.2.1, va_S.rf⟩
  have iw1 : ∀ w ∈ u_ws RX1 TX1 11, w ∈ wU yX6_arrangeTrial cX6_arrangeTrial 9 (some .int) := fun w hw => List.mem_cons_of_mem _ (iX1 w hw)
  have iw6 : ∀ w ∈ u_ws RX6 TX6 8, w ∈ wU yX6_arrangeTrial cX6_arrangeTrial 9 (some .int) := fun w hw => List.mem_cons_of_mem _ (iX6 w hw)
  rw [show entryFrame m args 9 = entryFrame m ([.ref (ad o0), .int a1, .int a2] : List Value).toArray 9 from by rw [hargs]]
  have hl := lv_entry ([.ref (ad o0), .int a1, .int a2]) (n := 9) (Nat.le_of_ble_eq_true rfl)
  rw [lg_entry_eq]
  generalize (lg_sl ([.ref (ad o0), .int a1, .int a2]) ++ List.replicate (9 - (lg_sl ([.ref (ad o0), .int a1, .int a2])).length) Slot.unset).toArray = ls at hl ⊢
  have hl : lv_has ls 9 [(0, .ref (ad o0)), (1, .int a1), (2, .int a2)] := hl
  have hb16 : ∀ (nn : Nat), ∀ (M : Mm) (x0 : Nat) (x2 : Int32) (x3 : Int32) (x4 : Int32) (x5 : Int32) (x6 : Int32) (x7 : Int32), f_X6_arrangeTrial_b16 nn M x0 x2 x3 x4 x5 x6 x7 = some res → ∀ (H : Heap) (locs : List Loc) (ls : Array Slot), Wd D cy shX ad nX (Aw ad nX) s.heap M H locs → lv_has ls 9 [(0, .ref (ad x0)), (2, .int x2), (3, .int x3), (4, .int x4), (5, .int x5), (6, .int x6), (7, .int x7)] → W p l e (headSpec (wU yX6_arrangeTrial cX6_arrangeTrial 9 (some .int)) rmX6_arrangeTrial).room s m args below meth c H locs 0 0 (QI D cy shX ad nX adK adV below args s res) (F0 m 16 ls []) := by
    intro nn
    induction nn with
    | zero => intro M x0 x2 x3 x4 x5 x6 x7 h; simp [f_X6_arrangeTrial_b16] at h
    | succ nn ih =>
      intro M x0 x2 x3 x4 x5 x6 x7 h H locs ls hw hl
      unfold f_X6_arrangeTrial_b16 at h
      refine lv_iload hx hb dX6_arrangeTrial_16 (lv_at hl 6 rfl) ?_
      refine lv_if_lt (tgt := 109) hx hb dX6_arrangeTrial_18 (by decide) (fun c1 => ?_) (fun c1 => ?_)
      · replace h := if_some_t c1 h
        refine lv_iload hx hb dX6_arrangeTrial_109 (lv_at hl 3 rfl) ?_
        refine lv_iconst (v := (1 : Int32)) hx hb dX6_arrangeTrial_111 (by decide) ?_
        refine lv_iload_n hx hb dX6_arrangeTrial_112 rfl (lv_at hl 1 rfl) ?_
        refine lv_ishl hx hb dX6_arrangeTrial_113 ?_
        refine lv_iconst (v := (1 : Int32)) hx hb dX6_arrangeTrial_114 (by decide) ?_
        refine lv_isub hx hb dX6_arrangeTrial_115 ?_
        refine lv_icmp_ne (tgt := 124) hx hb dX6_arrangeTrial_116 (by decide) (fun c2 => ?_) (fun c2 => ?_)
        · replace h := if_some_f c2 h
          refine lv_iconst (v := (-1 : Int32)) hx hb dX6_arrangeTrial_124 (by decide) ?_
          exact r_iret hx hb hr rfl hlocks hZ hK hw h dX6_arrangeTrial_125
        · replace h := if_some_t c2 h
          refine lv_iload hx hb dX6_arrangeTrial_119 (lv_at hl 4 rfl) ?_
          refine lv_goto (tgt := 125) hx hb dX6_arrangeTrial_121 (by decide) ?_
          exact r_iret hx hb hr rfl hlocks hZ hK hw h dX6_arrangeTrial_125
      · replace h := if_some_f c1 h
        refine lv_iload_n hx hb dX6_arrangeTrial_21 rfl (lv_at hl 2 rfl) ?_
        refine lv_iload_n hx hb dX6_arrangeTrial_22 rfl (lv_at hl 1 rfl) ?_
        replace h := gd_some h
        obtain ⟨g3, h⟩ := h
        refine lv_irem hx hb dX6_arrangeTrial_23 g3 ?_
        refine lv_istore (lv' := [(8, .int (x3 - x3 / x2 * x2)), (0, .ref (ad x0)), (2, .int x2), (3, .int x3), (4, .int x4), (5, .int x5), (6, .int x6), (7, .int x7)]) hx hb dX6_arrangeTrial_24 hl (by decide) rfl (fun ls hl => ?_)
        refine lv_iload_n hx hb dX6_arrangeTrial_26 rfl (lv_at hl 3 rfl) ?_
        refine lv_iload_n hx hb dX6_arrangeTrial_27 rfl (lv_at hl 2 rfl) ?_
        replace h := gd_some h
        obtain ⟨g4, h⟩ := h
        refine lv_idiv hx hb dX6_arrangeTrial_28 g4 ?_
        refine lv_istore_n (lv' := [(3, .int (x3 / x2)), (8, .int (x3 - x3 / x2 * x2)), (0, .ref (ad x0)), (2, .int x2), (4, .int x4), (5, .int x5), (6, .int x6), (7, .int x7)]) hx hb dX6_arrangeTrial_29 rfl hl (by decide) rfl (fun ls hl => ?_)
        refine lv_iload hx hb dX6_arrangeTrial_30 (lv_at hl 4 rfl) ?_
        refine lv_iconst (v := (1 : Int32)) hx hb dX6_arrangeTrial_32 (by decide) ?_
        refine lv_iload hx hb dX6_arrangeTrial_33 (lv_at hl 1 rfl) ?_
        refine lv_ishl hx hb dX6_arrangeTrial_35 ?_
        refine lv_ior hx hb dX6_arrangeTrial_36 ?_
        refine lv_topi (fun y5 ey5 => ?_)
        replace h := lt_at ey5 h
        refine lv_istore (lv' := [(4, .int y5), (3, .int (x3 / x2)), (8, .int (x3 - x3 / x2 * x2)), (0, .ref (ad x0)), (2, .int x2), (5, .int x5), (6, .int x6), (7, .int x7)]) hx hb dX6_arrangeTrial_37 hl (by decide) rfl (fun ls hl => ?_)
        refine lv_iload hx hb dX6_arrangeTrial_39 (lv_at hl 5 rfl) ?_
        refine lv_aload_n hx hb dX6_arrangeTrial_41 rfl (lv_at hl 3 rfl) ?_
        replace h := gd_some h
        obtain ⟨g6, h⟩ := h
        replace h := bd_some h
        obtain ⟨q7, eq7, h⟩ := h
        refine r_getR hx hb hts iw6 hown hK hw x0 0 g6 (by decide) rfl (by decide) rfl (hq _ qw335) (fun _ h9 => h9) dX6_arrangeTrial_42 eq7 ?_
        replace h := gd_some h
        obtain ⟨g8, h⟩ := h
        refine r_getI hx hb hts iw1 hown hK hw q7 5 g8 (by decide) rfl (by decide) rfl (hq _ qw199) (fun _ h9 => h9) dX6_arrangeTrial_45 ?_
        refine lv_iload hx hb dX6_arrangeTrial_48 (lv_at hl 2 rfl) ?_
        refine lv_iadd hx hb dX6_arrangeTrial_50 ?_
        refine lv_iload hx hb dX6_arrangeTrial_51 (lv_at hl 6 rfl) ?_
        refine lv_imul hx hb dX6_arrangeTrial_53 ?_
        refine lv_iadd hx hb dX6_arrangeTrial_54 ?_
        refine lv_topi (fun y9 ey9 => ?_)
        replace h := lt_at ey9 h
        refine lv_istore (lv' := [(5, .int y9), (4, .int y5), (3, .int (x3 / x2)), (8, .int (x3 - x3 / x2 * x2)), (0, .ref (ad x0)), (2, .int x2), (6, .int x6), (7, .int x7)]) hx hb dX6_arrangeTrial_55 hl (by decide) rfl (fun ls hl => ?_)
        refine lv_iload hx hb dX6_arrangeTrial_57 (lv_at hl 6 rfl) ?_
        refine lv_bipush (v := (10 : Int32)) hx hb dX6_arrangeTrial_59 (by decide) ?_
        refine lv_imul hx hb dX6_arrangeTrial_61 ?_
        refine lv_istore (lv' := [(6, .int (x6 * (10 : Int32))), (5, .int y9), (4, .int y5), (3, .int (x3 / x2)), (8, .int (x3 - x3 / x2 * x2)), (0, .ref (ad x0)), (2, .int x2), (7, .int x7)]) hx hb dX6_arrangeTrial_62 hl (by decide) rfl (fun ls hl => ?_)
        refine lv_aload_n hx hb dX6_arrangeTrial_64 rfl (lv_at hl 5 rfl) ?_
        replace h := bd_some h
        obtain ⟨q10, eq10, h⟩ := h
        refine r_getR hx hb hts iw6 hown hK hw x0 4 g6 (by decide) rfl (by decide) rfl (hq _ qw339) (fun _ h9 => h9) dX6_arrangeTrial_65 eq10 ?_
        replace h := gd_some h
        obtain ⟨g11, h⟩ := h
        replace h := bd_some h
        obtain ⟨q12, eq12, h⟩ := h
        refine r_getR hx hb hts iw1 hown hK hw q10 1 g11 (by decide) rfl (by decide) rfl (hq _ qw186) (fun _ h9 => h9) dX6_arrangeTrial_68 eq12 ?_
        refine lv_aload_n hx hb dX6_arrangeTrial_71 rfl (lv_at hl 5 rfl) ?_
        replace h := bd_some h
        obtain ⟨q13, eq13, h⟩ := h
        refine r_getR hx hb hts iw6 hown hK hw x0 0 g6 (by decide) rfl (by decide) rfl (hq _ qw335) (fun _ h9 => h9) dX6_arrangeTrial_72 eq13 ?_
        replace h := gd_some h
        obtain ⟨g14, h⟩ := h
        refine r_getI hx hb hts iw1 hown hK hw q13 5 g14 (by decide) rfl (by decide) rfl (hq _ qw199) (fun _ h9 => h9) dX6_arrangeTrial_75 ?_
        refine lv_iload hx hb dX6_arrangeTrial_78 (lv_at hl 7 rfl) ?_
        refine lv_iadd hx hb dX6_arrangeTrial_80 ?_
        replace h := gd_some h
        obtain ⟨g15, h⟩ := h
        replace h := bd_some h
        obtain ⟨q16, eq16, h⟩ := h
        refine r_aald hx hb hK hw q12 3 (by decide) rfl g15 dX6_arrangeTrial_81 eq16 ?_
        refine lv_aload_n hx hb dX6_arrangeTrial_82 rfl (lv_at hl 5 rfl) ?_
        replace h := bd_some h
        obtain ⟨q17, eq17, h⟩ := h
        refine r_getR hx hb hts iw6 hown hK hw x0 0 g6 (by decide) rfl (by decide) rfl (hq _ qw335) (fun _ h9 => h9) dX6_arrangeTrial_83 eq17 ?_
        replace h := gd_some h
        obtain ⟨g18, h⟩ := h
        replace h := bd_some h
        obtain ⟨q19, eq19, h⟩ := h
        refine r_getR hx hb hts iw1 hown hK hw q17 1 g18 (by decide) rfl (by decide) rfl (hq _ qw186) (fun _ h9 => h9) dX6_arrangeTrial_86 eq19 ?_
        refine lv_aload_n hx hb dX6_arrangeTrial_89 rfl (lv_at hl 5 rfl) ?_
        replace h := bd_some h
        obtain ⟨q20, eq20, h⟩ := h
        refine r_getR hx hb hts iw6 hown hK hw x0 0 g6 (by decide) rfl (by decide) rfl (hq _ qw335) (fun _ h9 => h9) dX6_arrangeTrial_90 eq20 ?_
        replace h := gd_some h
        obtain ⟨g21, h⟩ := h
        refine r_getI hx hb hts iw1 hown hK hw q20 5 g21 (by decide) rfl (by decide) rfl (hq _ qw199) (fun _ h9 => h9) dX6_arrangeTrial_93 ?_
        refine lv_iload hx hb dX6_arrangeTrial_96 (lv_at hl 4 rfl) ?_
        refine lv_iadd hx hb dX6_arrangeTrial_98 ?_
        replace h := gd_some h
        obtain ⟨g22, h⟩ := h
        replace h := bd_some h
        obtain ⟨q23, eq23, h⟩ := h
        refine r_aald hx hb hK hw q19 3 (by decide) rfl g22 dX6_arrangeTrial_99 eq23 ?_
        replace h := gd_some h
        obtain ⟨g25, h⟩ := h
        replace h := bd_some h
        obtain ⟨r24, er24, h⟩ := h
        refine r_callVv (As := [.ref (ad q23)]) (rest := []) hF (c_X0_become l D cy ad adK adV M q16 q23 r24 er24) (gW_goodV hcm qw465 qw767 qw463 qw464 qw63) hdX0_become rfl ⟨Nat.le_of_ble_eq_true rfl, Nat.le_of_ble_eq_true rfl⟩ rfl rfl hZ hK hw g25 (by decide) rfl rfl hl.1 rfl (Nat.le_of_ble_eq_true rfl) ⟨Nat.zero_le _, Nat.zero_le _⟩ dX6_arrangeTrial_100 (fun H locs hw => ?_)
        refine lv_iinc (v := x7 + (-1 : Int32)) (lv' := [(7, .int (x7 + (-1 : Int32))), (6, .int (x6 * (10 : Int32))), (5, .int y9), (4, .int y5), (3, .int (x3 / x2)), (8, .int (x3 - x3 / x2 * x2)), (0, .ref (ad x0)), (2, .int x2)]) hx hb dX6_arrangeTrial_103 hl (k := 7) rfl (congrArg (fun z => x7 + z) (by decide)) (by decide) rfl (fun ls hl => ?_)
        refine lv_goto (tgt := 16) hx hb dX6_arrangeTrial_106 (by decide) ?_
        exact ih _ _ _ _ _ _ _ _ h _ _ _ hw (lv_sub hl [6, 7, 4, 3, 2, 1, 0] rfl)
  unfold f_X6_arrangeTrial at h
  refine lv_iload_n hx hb dX6_arrangeTrial_0 rfl (lv_at hl 1 rfl) ?_
  refine lv_istore_n (lv' := [(3, .int a1), (0, .ref (ad o0)), (1, .int a1), (2, .int a2)]) hx hb dX6_arrangeTrial_1 rfl hl (by decide) rfl (fun ls hl => ?_)
  refine lv_iconst (v := (0 : Int32)) hx hb dX6_arrangeTrial_2 (by decide) ?_
  refine lv_istore (lv' := [(4, .int (0 : Int32)), (3, .int a1), (0, .ref (ad o0)), (1, .int a1), (2, .int a2)]) hx hb dX6_arrangeTrial_3 hl (by decide) rfl (fun ls hl => ?_)
  refine lv_iconst (v := (0 : Int32)) hx hb dX6_arrangeTrial_5 (by decide) ?_
  refine lv_istore (lv' := [(5, .int (0 : Int32)), (4, .int (0 : Int32)), (3, .int a1), (0, .ref (ad o0)), (1, .int a1), (2, .int a2)]) hx hb dX6_arrangeTrial_6 hl (by decide) rfl (fun ls hl => ?_)
  refine lv_iconst (v := (1 : Int32)) hx hb dX6_arrangeTrial_8 (by decide) ?_
  refine lv_istore (lv' := [(6, .int (1 : Int32)), (5, .int (0 : Int32)), (4, .int (0 : Int32)), (3, .int a1), (0, .ref (ad o0)), (1, .int a1), (2, .int a2)]) hx hb dX6_arrangeTrial_9 hl (by decide) rfl (fun ls hl => ?_)
  refine lv_iload_n hx hb dX6_arrangeTrial_11 rfl (lv_at hl 6 rfl) ?_
  refine lv_iconst (v := (1 : Int32)) hx hb dX6_arrangeTrial_12 (by decide) ?_
  refine lv_isub hx hb dX6_arrangeTrial_13 ?_
  refine lv_istore (lv' := [(7, .int (a2 - (1 : Int32))), (6, .int (1 : Int32)), (5, .int (0 : Int32)), (4, .int (0 : Int32)), (3, .int a1), (0, .ref (ad o0)), (1, .int a1), (2, .int a2)]) hx hb dX6_arrangeTrial_14 hl (by decide) rfl (fun ls hl => ?_)
  exact hb16 1000 _ _ _ _ _ _ _ _ h _ _ _ hw (lv_sub hl [5, 7, 4, 3, 2, 1, 0] rfl)
theorem dX6_bestOrder_0 : decode cX6_bestOrder 0 = .ok (.aload_n 0, 1) := by decide +kernel
theorem dX6_bestOrder_1 : decode cX6_bestOrder 1 = .ok (.getfield 31, 3) := by decide +kernel
theorem dX6_bestOrder_4 : decode cX6_bestOrder 4 = .ok (.aload_n 0, 1) := by decide +kernel
theorem dX6_bestOrder_5 : decode cX6_bestOrder 5 = .ok (.getfield 10, 3) := by decide +kernel
theorem dX6_bestOrder_8 : decode cX6_bestOrder 8 = .ok (.invokevirtual 151, 3) := by decide +kernel
theorem dX6_bestOrder_11 : decode cX6_bestOrder 11 = .ok (.iconst 1, 1) := by decide +kernel
theorem dX6_bestOrder_12 : decode cX6_bestOrder 12 = .ok (.istore_n 3, 1) := by decide +kernel
theorem dX6_bestOrder_13 : decode cX6_bestOrder 13 = .ok (.iconst 0, 1) := by decide +kernel
theorem dX6_bestOrder_14 : decode cX6_bestOrder 14 = .ok (.istore 4, 2) := by decide +kernel
theorem dX6_bestOrder_16 : decode cX6_bestOrder 16 = .ok (.iload 4, 2) := by decide +kernel
theorem dX6_bestOrder_18 : decode cX6_bestOrder 18 = .ok (.iload_n 2, 1) := by decide +kernel
theorem dX6_bestOrder_19 : decode cX6_bestOrder 19 = .ok (.if_icmp .ge 13, 3) := by decide +kernel
theorem dX6_bestOrder_22 : decode cX6_bestOrder 22 = .ok (.iload_n 3, 1) := by decide +kernel
theorem dX6_bestOrder_23 : decode cX6_bestOrder 23 = .ok (.iload_n 2, 1) := by decide +kernel
theorem dX6_bestOrder_24 : decode cX6_bestOrder 24 = .ok (.imul, 1) := by decide +kernel
theorem dX6_bestOrder_25 : decode cX6_bestOrder 25 = .ok (.istore_n 3, 1) := by decide +kernel
theorem dX6_bestOrder_26 : decode cX6_bestOrder 26 = .ok (.iinc 4 1, 3) := by decide +kernel
theorem dX6_bestOrder_29 : decode cX6_bestOrder 29 = .ok (.goto (-13), 3) := by decide +kernel
theorem dX6_bestOrder_32 : decode cX6_bestOrder 32 = .ok (.iconst 0, 1) := by decide +kernel
theorem dX6_bestOrder_33 : decode cX6_bestOrder 33 = .ok (.istore 4, 2) := by decide +kernel
theorem dX6_bestOrder_35 : decode cX6_bestOrder 35 = .ok (.ldc2_w 297, 3) := by decide +kernel
theorem dX6_bestOrder_38 : decode cX6_bestOrder 38 = .ok (.lstore 5, 2) := by decide +kernel
theorem dX6_bestOrder_40 : decode cX6_bestOrder 40 = .ok (.iconst 0, 1) := by decide +kernel
theorem dX6_bestOrder_41 : decode cX6_bestOrder 41 = .ok (.istore 7, 2) := by decide +kernel
theorem dX6_bestOrder_43 : decode cX6_bestOrder 43 = .ok (.iload 7, 2) := by decide +kernel
theorem dX6_bestOrder_45 : decode cX6_bestOrder 45 = .ok (.iload_n 3, 1) := by decide +kernel
theorem dX6_bestOrder_46 : decode cX6_bestOrder 46 = .ok (.if_icmp .ge 66, 3) := by decide +kernel
theorem dX6_bestOrder_49 : decode cX6_bestOrder 49 = .ok (.aload_n 0, 1) := by decide +kernel
theorem dX6_bestOrder_50 : decode cX6_bestOrder 50 = .ok (.iload 7, 2) := by decide +kernel
theorem dX6_bestOrder_52 : decode cX6_bestOrder 52 = .ok (.iload_n 2, 1) := by decide +kernel
theorem dX6_bestOrder_53 : decode cX6_bestOrder 53 = .ok (.invokevirtual 306, 3) := by decide +kernel
theorem dX6_bestOrder_56 : decode cX6_bestOrder 56 = .ok (.istore 8, 2) := by decide +kernel
theorem dX6_bestOrder_58 : decode cX6_bestOrder 58 = .ok (.iload 8, 2) := by decide +kernel
theorem dX6_bestOrder_60 : decode cX6_bestOrder 60 = .ok (.ifCond .ge 6, 3) := by decide +kernel
theorem dX6_bestOrder_63 : decode cX6_bestOrder 63 = .ok (.goto 43, 3) := by decide +kernel
theorem dX6_bestOrder_66 : decode cX6_bestOrder 66 = .ok (.aload_n 0, 1) := by decide +kernel
theorem dX6_bestOrder_67 : decode cX6_bestOrder 67 = .ok (.getfield 26, 3) := by decide +kernel
theorem dX6_bestOrder_70 : decode cX6_bestOrder 70 = .ok (.iconst 0, 1) := by decide +kernel
theorem dX6_bestOrder_71 : decode cX6_bestOrder 71 = .ok (.iconst 0, 1) := by decide +kernel
theorem dX6_bestOrder_72 : decode cX6_bestOrder 72 = .ok (.iconst 0, 1) := by decide +kernel
theorem dX6_bestOrder_73 : decode cX6_bestOrder 73 = .ok (.invokevirtual 213, 3) := by decide +kernel
theorem dX6_bestOrder_76 : decode cX6_bestOrder 76 = .ok (.aload_n 0, 1) := by decide +kernel
theorem dX6_bestOrder_77 : decode cX6_bestOrder 77 = .ok (.getfield 26, 3) := by decide +kernel
theorem dX6_bestOrder_80 : decode cX6_bestOrder 80 = .ok (.getfield 207, 3) := by decide +kernel
theorem dX6_bestOrder_83 : decode cX6_bestOrder 83 = .ok (.iload_n 1, 1) := by decide +kernel
theorem dX6_bestOrder_84 : decode cX6_bestOrder 84 = .ok (.laload, 1) := by decide +kernel
theorem dX6_bestOrder_85 : decode cX6_bestOrder 85 = .ok (.lload 5, 2) := by decide +kernel
theorem dX6_bestOrder_87 : decode cX6_bestOrder 87 = .ok (.lcmp, 1) := by decide +kernel
theorem dX6_bestOrder_88 : decode cX6_bestOrder 88 = .ok (.ifCond .le 18, 3) := by decide +kernel
theorem dX6_bestOrder_91 : decode cX6_bestOrder 91 = .ok (.aload_n 0, 1) := by decide +kernel
theorem dX6_bestOrder_92 : decode cX6_bestOrder 92 = .ok (.getfield 26, 3) := by decide +kernel
theorem dX6_bestOrder_95 : decode cX6_bestOrder 95 = .ok (.getfield 207, 3) := by decide +kernel
theorem dX6_bestOrder_98 : decode cX6_bestOrder 98 = .ok (.iload_n 1, 1) := by decide +kernel
theorem dX6_bestOrder_99 : decode cX6_bestOrder 99 = .ok (.laload, 1) := by decide +kernel
theorem dX6_bestOrder_100 : decode cX6_bestOrder 100 = .ok (.lstore 5, 2) := by decide +kernel
theorem dX6_bestOrder_102 : decode cX6_bestOrder 102 = .ok (.iload 8, 2) := by decide +kernel
theorem dX6_bestOrder_104 : decode cX6_bestOrder 104 = .ok (.istore 4, 2) := by decide +kernel
theorem dX6_bestOrder_106 : decode cX6_bestOrder 106 = .ok (.iinc 7 1, 3) := by decide +kernel
theorem dX6_bestOrder_109 : decode cX6_bestOrder 109 = .ok (.goto (-66), 3) := by decide +kernel
theorem dX6_bestOrder_112 : decode cX6_bestOrder 112 = .ok (.iload 4, 2) := by decide +kernel
theorem dX6_bestOrder_114 : decode cX6_bestOrder 114 = .ok (.ireturn, 1) := by decide +kernel
set_option maxHeartbeats 4000000 in
set_option maxRecDepth 100000 in
theorem c_X6_bestOrder (l : Launch) (D : va_G) (cy : Nat → ClassId) (ad adK adV : Nat → Nat) (M : Mm) (o0 : Nat) (a1 : Int32) (a2 : Int32) (res : Mm × Int32) (h : f_X6_bestOrder M o0 a1 a2 = some res) : Met l yX6_bestOrder (wU yX6_bestOrder cX6_bestOrder 9 (some .int)) rmX6_bestOrder (va_Pc [.ref (ad o0), .int a1, .int a2] (Pre D cy shX ad nX adK adV M)) (va_Qi (fun r (M2 : Mm) => r = res.2 ∧ M2 = res.1) (Pre D cy shX ad nX adK adV) (Aw ad nX)) 0 0 (Aw ad nX) := by
  refine Met.ofW (cc := cX6_bestOrder) (maxL := 9) (ret := (some .int)) (by decide) rfl ?_
  intro p e s m args below meth c s₁ B hml hv
  obtain ⟨hargs, hPre⟩ := hv
  have hx := B.exec
  have hb := B.bytes
  have hr := B.returns
  have hts := atoms_spec (ws := wU yX6_bestOrder cX6_bestOrder 9 (some .int)) B.pre
  have hq : ∀ w ∈ gW, w.before args s = true := fun w hw => hts w (List.mem_cons_of_mem _ hw)
  have hcm : ∀ w ∈ gW, w ∈ wU yX6_bestOrder cX6_bestOrder 9 (some .int) := fun w hw => List.mem_cons_of_mem _ hw
  have hown : s.vm.findClass RX6 = some m.cls := findClass_of_methodNamed B.named
  have hlocks := B.notSynchronized
  have hF : CallFix p m c cX6_bestOrder 9 s args (wU yX6_bestOrder cX6_bestOrder 9 (some .int)) RX6 := ⟨hx, hb, hml, hown, hts⟩
  have hK := hPre.2.1
  have hZ := hPre.2.2.2
  have hw : Wd D cy shX ad nX (Aw ad nX) s.heap M s.heap [] := ⟨hPre.1, hPre.2.2.1, va_S.rf⟩
  have iw5 : ∀ w ∈ u_ws RX5 TX5 13, w ∈ wU yX6_bestOrder cX6_bestOrder 9 (some .int) := fun w hw => List.mem_cons_of_mem _ (iX5 w hw)
  have iw6 : ∀ w ∈ u_ws RX6 TX6 8, w ∈ wU yX6_bestOrder cX6_bestOrder 9 (some .int) := fun w hw => List.mem_cons_of_mem _ (iX6 w hw)
  rw [show entryFrame m args 9 = entryFrame m ([.ref (ad o0), .int a1, .int a2] : List Value).toArray 9 from by rw [hargs]]
  have hl := lv_entry ([.ref (ad o0), .int a1, .int a2]) (n := 9) (Nat.le_of_ble_eq_true rfl)
  rw [lg_entry_eq]
  generalize (lg_sl ([.ref (ad o0), .int a1, .int a2]) ++ List.replicate (9 - (lg_sl ([.ref (ad o0), .int a1, .int a2])).length) Slot.unset).toArray = ls at hl ⊢
  have hl : lv_has ls 9 [(0, .ref (ad o0)), (1, .int a1), (2, .int a2)] := hl
  have hb106 : ∀ (k43 : Mm → Nat → Int32 → Int32 → Int32 → Int32 → Int64 → Int32 → Option (Mm × Int32)) (hk43 : ∀ (M : Mm) (x0 : Nat) (x1 : Int32) (x2 : Int32) (x3 : Int32) (x4 : Int32) (x5 : Int64) (x7 : Int32), k43 M x0 x1 x2 x3 x4 x5 x7 = some res → ∀ (H : Heap) (locs : List Loc) (ls : Array Slot), Wd D cy shX ad nX (Aw ad nX) s.heap M H locs → lv_has ls 9 [(0, .ref (ad x0)), (1, .int x1), (2, .int x2), (3, .int x3), (4, .int x4), (5, .long x5), (7, .int x7)] → W p l e (headSpec (wU yX6_bestOrder cX6_bestOrder 9 (some .int)) rmX6_bestOrder).room s m args below meth c H locs 0 0 (QI D cy shX ad nX adK adV below args s res) (F0 m 43 ls [])), ∀ (M : Mm) (x0 : Nat) (x1 : Int32) (x2 : Int32) (x3 : Int32) (x4 : Int32) (x5 : Int64) (x7 : Int32), f_X6_bestOrder_b106 k43 M x0 x1 x2 x3 x4 x5 x7 = some res → ∀ (H : Heap) (locs : List Loc) (ls : Array Slot), Wd D cy shX ad nX (Aw ad nX) s.heap M H locs → lv_has ls 9 [(0, .ref (ad x0)), (1, .int x1), (2, .int x2), (3, .int x3), (4, .int x4), (5, .long x5), (7, .int x7)] → W p l e (headSpec (wU yX6_bestOrder cX6_bestOrder 9 (some .int)) rmX6_bestOrder).room s m args below meth c H locs 0 0 (QI D cy shX ad nX adK adV below args s res) (F0 m 106 ls []) := by
    intro k43 hk43
    intro M x0 x1 x2 x3 x4 x5 x7 h H locs ls hw hl
    unfold f_X6_bestOrder_b106 at h
    refine lv_iinc (v := x7 + (1 : Int32)) (lv' := [(7, .int (x7 + (1 : Int32))), (0, .ref (ad x0)), (1, .int x1), (2, .int x2), (3, .int x3), (4, .int x4), (5, .long x5)]) hx hb dX6_bestOrder_106 hl (k := 6) rfl (congrArg (fun z => x7 + z) (by decide)) (by decide) rfl (fun ls hl => ?_)
    refine lv_goto (tgt := 43) hx hb dX6_bestOrder_109 (by decide) ?_
    exact hk43 _ _ _ _ _ _ _ _ h _ _ _ hw (lv_sub hl [1, 2, 3, 4, 5, 6, 0] rfl)
  have hb43 : ∀ (nn : Nat), ∀ (M : Mm) (x0 : Nat) (x1 : Int32) (x2 : Int32) (x3 : Int32) (x4 : Int32) (x5 : Int64) (x7 : Int32), f_X6_bestOrder_b43 nn M x0 x1 x2 x3 x4 x5 x7 = some res → ∀ (H : Heap) (locs : List Loc) (ls : Array Slot), Wd D cy shX ad nX (Aw ad nX) s.heap M H locs → lv_has ls 9 [(0, .ref (ad x0)), (1, .int x1), (2, .int x2), (3, .int x3), (4, .int x4), (5, .long x5), (7, .int x7)] → W p l e (headSpec (wU yX6_bestOrder cX6_bestOrder 9 (some .int)) rmX6_bestOrder).room s m args below meth c H locs 0 0 (QI D cy shX ad nX adK adV below args s res) (F0 m 43 ls []) := by
    intro nn
    induction nn with
    | zero => intro M x0 x1 x2 x3 x4 x5 x7 h; simp [f_X6_bestOrder_b43] at h
    | succ nn ih =>
      intro M x0 x1 x2 x3 x4 x5 x7 h H locs ls hw hl
      unfold f_X6_bestOrder_b43 at h
      refine lv_iload hx hb dX6_bestOrder_43 (lv_at hl 6 rfl) ?_
      refine lv_iload_n hx hb dX6_bestOrder_45 rfl (lv_at hl 3 rfl) ?_
      refine lv_icmp_ge (tgt := 112) hx hb dX6_bestOrder_46 (by decide) (fun c1 => ?_) (fun c1 => ?_)
      · replace h := if_some_t c1 h
        refine lv_iload hx hb dX6_bestOrder_112 (lv_at hl 4 rfl) ?_
        exact r_iret hx hb hr rfl hlocks hZ hK hw h dX6_bestOrder_114
      · replace h := if_some_f c1 h
        refine lv_aload_n hx hb dX6_bestOrder_49 rfl (lv_at hl 0 rfl) ?_
        refine lv_iload hx hb dX6_bestOrder_50 (lv_at hl 6 rfl) ?_
        refine lv_iload_n hx hb dX6_bestOrder_52 rfl (lv_at hl 2 rfl) ?_
        replace h := gd_some h
        obtain ⟨g3, h⟩ := h
        replace h := bd_some h
        obtain ⟨r2, er2, h⟩ := h
        refine r_callVi (As := [.int x7, .int x2]) (rest := []) hF (c_X6_arrangeTrial l D cy ad adK adV M x0 x7 x2 r2 er2) (gW_goodV hcm qw766 qw763 qw765 qw17 qw60) hdX6_arrangeTrial rfl ⟨Nat.le_of_ble_eq_true rfl, Nat.le_of_ble_eq_true rfl⟩ rfl rfl hZ hK hw g3 (by decide) rfl rfl hl.1 rfl (Nat.le_of_ble_eq_true rfl) ⟨Nat.zero_le _, Nat.zero_le _⟩ dX6_bestOrder_53 (fun H locs hw => ?_)
        refine lv_istore (lv' := [(8, .int r2.2), (0, .ref (ad x0)), (1, .int x1), (2, .int x2), (3, .int x3), (4, .int x4), (5, .long x5), (7, .int x7)]) hx hb dX6_bestOrder_56 hl (by decide) rfl (fun ls hl => ?_)
        refine lv_iload hx hb dX6_bestOrder_58 (lv_at hl 0 rfl) ?_
        refine lv_if_ge (tgt := 66) hx hb dX6_bestOrder_60 (by decide) (fun c4 => ?_) (fun c4 => ?_)
        · replace h := if_some_t c4 h
          refine lv_aload_n hx hb dX6_bestOrder_66 rfl (lv_at hl 1 rfl) ?_
          replace h := bd_some h
          obtain ⟨q5, eq5, h⟩ := h
          refine r_getR hx hb hts iw6 hown hK hw x0 3 g3 (by decide) rfl (by decide) rfl (hq _ qw338) (fun _ h9 => h9) dX6_bestOrder_67 eq5 ?_
          refine lv_iconst (v := (0 : Int32)) hx hb dX6_bestOrder_70 (by decide) ?_
          refine lv_iconst (v := (0 : Int32)) hx hb dX6_bestOrder_71 (by decide) ?_
          refine lv_iconst (v := (0 : Int32)) hx hb dX6_bestOrder_72 (by decide) ?_
          replace h := gd_some h
          obtain ⟨g7, h⟩ := h
          replace h := bd_some h
          obtain ⟨r6, er6, h⟩ := h
          refine r_callVv (As := [.int (0 : Int32), .int (0 : Int32), .int (0 : Int32)]) (rest := []) hF (c_X5_over l D cy ad adK adV r2.1 q5 (0 : Int32) (0 : Int32) (0 : Int32) r6 er6) (gW_goodV hcm qw680 qw677 qw678 qw679 qw64) hdX5_over rfl ⟨Nat.le_of_ble_eq_true rfl, Nat.le_of_ble_eq_true rfl⟩ rfl rfl hZ hK hw g7 (by decide) rfl rfl hl.1 rfl (Nat.le_of_ble_eq_true rfl) ⟨Nat.zero_le _, Nat.zero_le _⟩ dX6_bestOrder_73 (fun H locs hw => ?_)
          refine lv_aload_n hx hb dX6_bestOrder_76 rfl (lv_at hl 1 rfl) ?_
          replace h := bd_some h
          obtain ⟨q8, eq8, h⟩ := h
          refine r_getR hx hb hts iw6 hown hK hw x0 3 g3 (by decide) rfl (by decide) rfl (hq _ qw338) (fun _ h9 => h9) dX6_bestOrder_77 eq8 ?_
          replace h := gd_some h
          obtain ⟨g9, h⟩ := h
          replace h := bd_some h
          obtain ⟨q10, eq10, h⟩ := h
          refine r_getR hx hb hts iw5 hown hK hw q8 2 g9 (by decide) rfl (by decide) rfl (hq _ qw244) (fun _ h9 => h9) dX6_bestOrder_80 eq10 ?_
          refine lv_iload_n hx hb dX6_bestOrder_83 rfl (lv_at hl 2 rfl) ?_
          replace h := gd_some h
          obtain ⟨g11, h⟩ := h
          refine r_lald hx hb hK hw q10 g11 dX6_bestOrder_84 ?_
          refine lv_lload hx hb dX6_bestOrder_85 (lv_at hl 6 rfl) ?_
          refine W.lcmp hx hb dX6_bestOrder_87 ?_
          refine lv_if_le (tgt := 106) hx hb dX6_bestOrder_88 (by decide) (fun c12 => ?_) (fun c12 => ?_)
          · replace h := if_some_t c12 h
            exact hb106 _ ih _ _ _ _ _ _ _ _ h _ _ _ hw (lv_sub hl [1, 2, 3, 4, 5, 6, 7] rfl)
          · replace h := if_some_f c12 h
            refine lv_aload_n hx hb dX6_bestOrder_91 rfl (lv_at hl 1 rfl) ?_
            replace h := bd_some h
            obtain ⟨q13, eq13, h⟩ := h
            refine r_getR hx hb hts iw6 hown hK hw x0 3 g3 (by decide) rfl (by decide) rfl (hq _ qw338) (fun _ h9 => h9) dX6_bestOrder_92 eq13 ?_
            replace h := gd_some h
            obtain ⟨g14, h⟩ := h
            replace h := bd_some h
            obtain ⟨q15, eq15, h⟩ := h
            refine r_getR hx hb hts iw5 hown hK hw q13 2 g14 (by decide) rfl (by decide) rfl (hq _ qw244) (fun _ h9 => h9) dX6_bestOrder_95 eq15 ?_
            refine lv_iload_n hx hb dX6_bestOrder_98 rfl (lv_at hl 2 rfl) ?_
            replace h := gd_some h
            obtain ⟨g16, h⟩ := h
            refine r_lald hx hb hK hw q15 g16 dX6_bestOrder_99 ?_
            refine lv_lstore (lv' := [(5, .long (r6.1.2.1 q15 x1.toNatClampNeg)), (8, .int r2.2), (0, .ref (ad x0)), (1, .int x1), (2, .int x2), (3, .int x3), (4, .int x4), (7, .int x7)]) hx hb dX6_bestOrder_100 hl (by decide) rfl (fun ls hl => ?_)
            refine lv_iload hx hb dX6_bestOrder_102 (lv_at hl 1 rfl) ?_
            refine lv_istore (lv' := [(4, .int r2.2), (5, .long (r6.1.2.1 q15 x1.toNatClampNeg)), (8, .int r2.2), (0, .ref (ad x0)), (1, .int x1), (2, .int x2), (3, .int x3), (7, .int x7)]) hx hb dX6_bestOrder_104 hl (by decide) rfl (fun ls hl => ?_)
            exact hb106 _ ih _ _ _ _ _ _ _ _ h _ _ _ hw (lv_sub hl [3, 4, 5, 6, 0, 1, 7] rfl)
        · replace h := if_some_f c4 h
          refine lv_goto (tgt := 106) hx hb dX6_bestOrder_63 (by decide) ?_
          exact hb106 _ ih _ _ _ _ _ _ _ _ h _ _ _ hw (lv_sub hl [1, 2, 3, 4, 5, 6, 7] rfl)
  have hb16 : ∀ (nn : Nat), ∀ (M : Mm) (x0 : Nat) (x1 : Int32) (x2 : Int32) (x3 : Int32) (x4 : Int32), f_X6_bestOrder_b16 nn M x0 x1 x2 x3 x4 = some res → ∀ (H : Heap) (locs : List Loc) (ls : Array Slot), Wd D cy shX ad nX (Aw ad nX) s.heap M H locs → lv_has ls 9 [(0, .ref (ad x0)), (1, .int x1), (2, .int x2), (3, .int x3), (4, .int x4)] → W p l e (headSpec (wU yX6_bestOrder cX6_bestOrder 9 (some .int)) rmX6_bestOrder).room s m args below meth c H locs 0 0 (QI D cy shX ad nX adK adV below args s res) (F0 m 16 ls []) := by
    intro nn
    induction nn with
    | zero => intro M x0 x1 x2 x3 x4 h; simp [f_X6_bestOrder_b16] at h
    | succ nn ih =>
      intro M x0 x1 x2 x3 x4 h H locs ls hw hl
      unfold f_X6_bestOrder_b16 at h
      refine lv_iload hx hb dX6_bestOrder_16 (lv_at hl 4 rfl) ?_
      refine lv_iload_n hx hb dX6_bestOrder_18 rfl (lv_at hl 2 rfl) ?_
      refine lv_icmp_ge (tgt := 32) hx hb dX6_bestOrder_19 (by decide) (fun c17 => ?_) (fun c17 => ?_)
      · replace h := if_some_t c17 h
        refine lv_iconst (v := (0 : Int32)) hx hb dX6_bestOrder_32 (by decide) ?_
        refine lv_istore (lv' := [(4, .int (0 : Int32)), (0, .ref (ad x0)), (1, .int x1), (2, .int x2), (3, .int x3)]) hx hb dX6_bestOrder_33 hl (by decide) rfl (fun ls hl => ?_)
        refine lv_ldc2 (v := (-1 : Int64)) hx hb hown (hq _ qw738) dX6_bestOrder_35 ?_
        refine lv_lstore (lv' := [(5, .long (-1 : Int64)), (4, .int (0 : Int32)), (0, .ref (ad x0)), (1, .int x1), (2, .int x2), (3, .int x3)]) hx hb dX6_bestOrder_38 hl (by decide) rfl (fun ls hl => ?_)
        refine lv_iconst (v := (0 : Int32)) hx hb dX6_bestOrder_40 (by decide) ?_
        refine lv_istore (lv' := [(7, .int (0 : Int32)), (5, .long (-1 : Int64)), (4, .int (0 : Int32)), (0, .ref (ad x0)), (1, .int x1), (2, .int x2), (3, .int x3)]) hx hb dX6_bestOrder_41 hl (by decide) rfl (fun ls hl => ?_)
        exact hb43 1000 _ _ _ _ _ _ _ _ h _ _ _ hw (lv_sub hl [3, 4, 5, 6, 2, 1, 0] rfl)
      · replace h := if_some_f c17 h
        refine lv_iload_n hx hb dX6_bestOrder_22 rfl (lv_at hl 3 rfl) ?_
        refine lv_iload_n hx hb dX6_bestOrder_23 rfl (lv_at hl 2 rfl) ?_
        refine lv_imul hx hb dX6_bestOrder_24 ?_
        refine lv_istore_n (lv' := [(3, .int (x3 * x2)), (0, .ref (ad x0)), (1, .int x1), (2, .int x2), (4, .int x4)]) hx hb dX6_bestOrder_25 rfl hl (by decide) rfl (fun ls hl => ?_)
        refine lv_iinc (v := x4 + (1 : Int32)) (lv' := [(4, .int (x4 + (1 : Int32))), (3, .int (x3 * x2)), (0, .ref (ad x0)), (1, .int x1), (2, .int x2)]) hx hb dX6_bestOrder_26 hl (k := 4) rfl (congrArg (fun z => x4 + z) (by decide)) (by decide) rfl (fun ls hl => ?_)
        refine lv_goto (tgt := 16) hx hb dX6_bestOrder_29 (by decide) ?_
        exact ih _ _ _ _ _ _ h _ _ _ hw (lv_sub hl [2, 3, 4, 1, 0] rfl)
  unfold f_X6_bestOrder at h
  refine lv_aload_n hx hb dX6_bestOrder_0 rfl (lv_at hl 0 rfl) ?_
  replace h := gd_some h
  obtain ⟨g18, h⟩ := h
  replace h := bd_some h
  obtain ⟨q19, eq19, h⟩ := h
  refine r_getR hx hb hts iw6 hown hK hw o0 4 g18 (by decide) rfl (by decide) rfl (hq _ qw339) (fun _ h9 => h9) dX6_bestOrder_1 eq19 ?_
  refine lv_aload_n hx hb dX6_bestOrder_4 rfl (lv_at hl 0 rfl) ?_
  replace h := bd_some h
  obtain ⟨q20, eq20, h⟩ := h
  refine r_getR hx hb hts iw6 hown hK hw o0 0 g18 (by decide) rfl (by decide) rfl (hq _ qw335) (fun _ h9 => h9) dX6_bestOrder_5 eq20 ?_
  replace h := gd_some h
  obtain ⟨g22, h⟩ := h
  replace h := bd_some h
  obtain ⟨r21, er21, h⟩ := h
  refine r_callVv (As := [.ref (ad q20)]) (rest := []) hF (c_X1_become l D cy ad adK adV M q19 q20 r21 er21) (gW_goodV hcm qw457 qw454 qw455 qw456 qw61) hdX1_become rfl ⟨Nat.le_of_ble_eq_true rfl, Nat.le_of_ble_eq_true rfl⟩ rfl rfl hZ hK hw g22 (by decide) rfl rfl hl.1 rfl (Nat.le_of_ble_eq_true rfl) ⟨Nat.zero_le _, Nat.zero_le _⟩ dX6_bestOrder_8 (fun H locs hw => ?_)
  refine lv_iconst (v := (1 : Int32)) hx hb dX6_bestOrder_11 (by decide) ?_
  refine lv_istore_n (lv' := [(3, .int (1 : Int32)), (0, .ref (ad o0)), (1, .int a1), (2, .int a2)]) hx hb dX6_bestOrder_12 rfl hl (by decide) rfl (fun ls hl => ?_)
  refine lv_iconst (v := (0 : Int32)) hx hb dX6_bestOrder_13 (by decide) ?_
  refine lv_istore (lv' := [(4, .int (0 : Int32)), (3, .int (1 : Int32)), (0, .ref (ad o0)), (1, .int a1), (2, .int a2)]) hx hb dX6_bestOrder_14 hl (by decide) rfl (fun ls hl => ?_)
  exact hb16 1000 _ _ _ _ _ _ h _ _ _ hw (lv_sub hl [2, 3, 4, 1, 0] rfl)
theorem dX6_order_0 : decode cX6_order 0 = .ok (.aload_n 0, 1) := by decide +kernel
theorem dX6_order_1 : decode cX6_order 1 = .ok (.getfield 10, 3) := by decide +kernel
theorem dX6_order_4 : decode cX6_order 4 = .ok (.iload_n 1, 1) := by decide +kernel
theorem dX6_order_5 : decode cX6_order 5 = .ok (.invokevirtual 71, 3) := by decide +kernel
theorem dX6_order_8 : decode cX6_order 8 = .ok (.ifCond .ne 9, 3) := by decide +kernel
theorem dX6_order_11 : decode cX6_order 11 = .ok (.aload_n 0, 1) := by decide +kernel
theorem dX6_order_12 : decode cX6_order 12 = .ok (.iconst 0, 1) := by decide +kernel
theorem dX6_order_13 : decode cX6_order 13 = .ok (.invokevirtual 59, 3) := by decide +kernel
theorem dX6_order_16 : decode cX6_order 16 = .ok (.ireturn, 1) := by decide +kernel
theorem dX6_order_17 : decode cX6_order 17 = .ok (.aload_n 0, 1) := by decide +kernel
theorem dX6_order_18 : decode cX6_order 18 = .ok (.getfield 10, 3) := by decide +kernel
theorem dX6_order_21 : decode cX6_order 21 = .ok (.invokevirtual 159, 3) := by decide +kernel
theorem dX6_order_24 : decode cX6_order 24 = .ok (.ifCond .eq 9, 3) := by decide +kernel
theorem dX6_order_27 : decode cX6_order 27 = .ok (.aload_n 0, 1) := by decide +kernel
theorem dX6_order_28 : decode cX6_order 28 = .ok (.iconst 3, 1) := by decide +kernel
theorem dX6_order_29 : decode cX6_order 29 = .ok (.invokevirtual 59, 3) := by decide +kernel
theorem dX6_order_32 : decode cX6_order 32 = .ok (.ireturn, 1) := by decide +kernel
theorem dX6_order_33 : decode cX6_order 33 = .ok (.aload_n 0, 1) := by decide +kernel
theorem dX6_order_34 : decode cX6_order 34 = .ok (.getfield 10, 3) := by decide +kernel
theorem dX6_order_37 : decode cX6_order 37 = .ok (.getfield 108, 3) := by decide +kernel
theorem dX6_order_40 : decode cX6_order 40 = .ok (.aload_n 0, 1) := by decide +kernel
theorem dX6_order_41 : decode cX6_order 41 = .ok (.getfield 10, 3) := by decide +kernel
theorem dX6_order_44 : decode cX6_order 44 = .ok (.getfield 117, 3) := by decide +kernel
theorem dX6_order_47 : decode cX6_order 47 = .ok (.isub, 1) := by decide +kernel
theorem dX6_order_48 : decode cX6_order 48 = .ok (.istore_n 2, 1) := by decide +kernel
theorem dX6_order_49 : decode cX6_order 49 = .ok (.iload_n 2, 1) := by decide +kernel
theorem dX6_order_50 : decode cX6_order 50 = .ok (.iconst 4, 1) := by decide +kernel
theorem dX6_order_51 : decode cX6_order 51 = .ok (.if_icmp .le 10, 3) := by decide +kernel
theorem dX6_order_54 : decode cX6_order 54 = .ok (.aload_n 0, 1) := by decide +kernel
theorem dX6_order_55 : decode cX6_order 55 = .ok (.bipush 6, 2) := by decide +kernel
theorem dX6_order_57 : decode cX6_order 57 = .ok (.invokevirtual 59, 3) := by decide +kernel
theorem dX6_order_60 : decode cX6_order 60 = .ok (.ireturn, 1) := by decide +kernel
theorem dX6_order_61 : decode cX6_order 61 = .ok (.aload_n 0, 1) := by decide +kernel
theorem dX6_order_62 : decode cX6_order 62 = .ok (.iload_n 1, 1) := by decide +kernel
theorem dX6_order_63 : decode cX6_order 63 = .ok (.iload_n 2, 1) := by decide +kernel
theorem dX6_order_64 : decode cX6_order 64 = .ok (.invokevirtual 233, 3) := by decide +kernel
theorem dX6_order_67 : decode cX6_order 67 = .ok (.ireturn, 1) := by decide +kernel
set_option maxHeartbeats 4000000 in
set_option maxRecDepth 100000 in
theorem c_X6_order (l : Launch) (D : va_G) (cy : Nat → ClassId) (ad adK adV : Nat → Nat) (M : Mm) (o0 : Nat) (a1 : Int32) (res : Mm × Int32) (h : f_X6_order M o0 a1 = some res) : Met l yX6_order (wU yX6_order cX6_order 3 (some .int)) rmX6_order (va_Pc [.ref (ad o0), .int a1] (Pre D cy shX ad nX adK adV M)) (va_Qi (fun r (M2 : Mm) => r = res.2 ∧ M2 = res.1) (Pre D cy shX ad nX adK adV) (Aw ad nX)) 0 0 (Aw ad nX) := by
  refine Met.ofW (cc := cX6_order) (maxL := 3) (ret := (some .int)) (by decide) rfl ?_
  intro p e s m args below meth c s₁ B hml hv
  obtain ⟨hargs, hPre⟩ := hv
  have hx := B.exec
  have hb := B.bytes
  have hr := B.returns
  have hts := atoms_spec (ws := wU yX6_order cX6_order 3 (some .int)) B.pre
  have hq : ∀ w ∈ gW, w.before args s = true := fun w hw => hts w (List.mem_cons_of_mem _ hw)
  have hcm : ∀ w ∈ gW, w ∈ wU yX6_order cX6_order 3 (some .int) := fun w hw => List.mem_cons_of_mem _ hw
  have hown : s.vm.findClass RX6 = some m.cls := findClass_of_methodNamed B.named
  have hlocks := B.notSynchronized
  have hF : CallFix p m c cX6_order 3 s args (wU yX6_order cX6_order 3 (some .int)) RX6 := ⟨hx, hb, hml, hown, hts⟩
  have hK := hPre.2.1
  have hZ := hPre.2.2.2
  have hw : Wd D cy shX ad nX (Aw ad nX) s.heap M s.heap [] := ⟨hPre.1, hPre.2.2.1, va_S.rf⟩
  have iw1 : ∀ w ∈ u_ws RX1 TX1 11, w ∈ wU yX6_order cX6_order 3 (some .int) := fun w hw => List.mem_cons_of_mem _ (iX1 w hw)
  have iw6 : ∀ w ∈ u_ws RX6 TX6 8, w ∈ wU yX6_order cX6_order 3 (some .int) := fun w hw => List.mem_cons_of_mem _ (iX6 w hw)
  rw [show entryFrame m args 3 = entryFrame m ([.ref (ad o0), .int a1] : List Value).toArray 3 from by rw [hargs]]
  have hl := lv_entry ([.ref (ad o0), .int a1]) (n := 3) (Nat.le_of_ble_eq_true rfl)
  rw [lg_entry_eq]
  generalize (lg_sl ([.ref (ad o0), .int a1]) ++ List.replicate (3 - (lg_sl ([.ref (ad o0), .int a1])).length) Slot.unset).toArray = ls at hl ⊢
  have hl : lv_has ls 3 [(0, .ref (ad o0)), (1, .int a1)] := hl
  unfold f_X6_order at h
  refine lv_aload_n hx hb dX6_order_0 rfl (lv_at hl 0 rfl) ?_
  replace h := gd_some h
  obtain ⟨g1, h⟩ := h
  replace h := bd_some h
  obtain ⟨q2, eq2, h⟩ := h
  refine r_getR hx hb hts iw6 hown hK hw o0 0 g1 (by decide) rfl (by decide) rfl (hq _ qw335) (fun _ h9 => h9) dX6_order_1 eq2 ?_
  refine lv_iload_n hx hb dX6_order_4 rfl (lv_at hl 1 rfl) ?_
  replace h := gd_some h
  obtain ⟨g4, h⟩ := h
  replace h := bd_some h
  obtain ⟨r3, er3, h⟩ := h
  refine r_callVi (As := [.int a1]) (rest := []) hF (c_X1_hasSide l D cy ad adK adV M q2 a1 r3 er3) (gW_goodV hcm qw390 qw387 qw388 qw389 qw61) hdX1_hasSide rfl ⟨Nat.le_of_ble_eq_true rfl, Nat.le_of_ble_eq_true rfl⟩ rfl rfl hZ hK hw g4 (by decide) rfl rfl hl.1 rfl (Nat.le_of_ble_eq_true rfl) ⟨Nat.zero_le _, Nat.zero_le _⟩ dX6_order_5 (fun H locs hw => ?_)
  refine lv_if_ne (tgt := 17) hx hb dX6_order_8 (by decide) (fun c5 => ?_) (fun c5 => ?_)
  · replace h := if_some_f c5 h
    refine lv_aload_n hx hb dX6_order_17 rfl (lv_at hl 0 rfl) ?_
    replace h := bd_some h
    obtain ⟨q6, eq6, h⟩ := h
    refine r_getR hx hb hts iw6 hown hK hw o0 0 g1 (by decide) rfl (by decide) rfl (hq _ qw335) (fun _ h9 => h9) dX6_order_18 eq6 ?_
    replace h := gd_some h
    obtain ⟨g8, h⟩ := h
    replace h := bd_some h
    obtain ⟨r7, er7, h⟩ := h
    refine r_callVi (As := []) (rest := []) hF (c_X1_allPlayed l D cy ad adK adV r3.1 q6 r7 er7) (gW_goodV hcm qw591 qw588 qw589 qw590 qw61) hdX1_allPlayed rfl ⟨Nat.le_of_ble_eq_true rfl, Nat.le_of_ble_eq_true rfl⟩ rfl rfl hZ hK hw g8 (by decide) rfl rfl hl.1 rfl (Nat.le_of_ble_eq_true rfl) ⟨Nat.zero_le _, Nat.zero_le _⟩ dX6_order_21 (fun H locs hw => ?_)
    refine lv_if_eq (tgt := 33) hx hb dX6_order_24 (by decide) (fun c9 => ?_) (fun c9 => ?_)
    · replace h := if_some_t c9 h
      refine lv_aload_n hx hb dX6_order_33 rfl (lv_at hl 0 rfl) ?_
      replace h := bd_some h
      obtain ⟨q10, eq10, h⟩ := h
      refine r_getR hx hb hts iw6 hown hK hw o0 0 g1 (by decide) rfl (by decide) rfl (hq _ qw335) (fun _ h9 => h9) dX6_order_34 eq10 ?_
      replace h := gd_some h
      obtain ⟨g11, h⟩ := h
      refine r_getI hx hb hts iw1 hown hK hw q10 4 g11 (by decide) rfl (by decide) rfl (hq _ qw195) (fun _ h9 => h9) dX6_order_37 ?_
      refine lv_aload_n hx hb dX6_order_40 rfl (lv_at hl 0 rfl) ?_
      replace h := bd_some h
      obtain ⟨q12, eq12, h⟩ := h
      refine r_getR hx hb hts iw6 hown hK hw o0 0 g1 (by decide) rfl (by decide) rfl (hq _ qw335) (fun _ h9 => h9) dX6_order_41 eq12 ?_
      replace h := gd_some h
      obtain ⟨g13, h⟩ := h
      refine r_getI hx hb hts iw1 hown hK hw q12 5 g13 (by decide) rfl (by decide) rfl (hq _ qw199) (fun _ h9 => h9) dX6_order_44 ?_
      refine lv_isub hx hb dX6_order_47 ?_
      refine lv_istore_n (lv' := [(2, .int ((r7.1.1 q10 4) - (r7.1.1 q12 5))), (0, .ref (ad o0)), (1, .int a1)]) hx hb dX6_order_48 rfl hl (by decide) rfl (fun ls hl => ?_)
      refine lv_iload_n hx hb dX6_order_49 rfl (lv_at hl 0 rfl) ?_
      refine lv_iconst (v := (4 : Int32)) hx hb dX6_order_50 (by decide) ?_
      refine lv_icmp_le (tgt := 61) hx hb dX6_order_51 (by decide) (fun c14 => ?_) (fun c14 => ?_)
      · replace h := if_some_t c14 h
        refine lv_aload_n hx hb dX6_order_61 rfl (lv_at hl 1 rfl) ?_
        refine lv_iload_n hx hb dX6_order_62 rfl (lv_at hl 2 rfl) ?_
        refine lv_iload_n hx hb dX6_order_63 rfl (lv_at hl 0 rfl) ?_
        replace h := bd_some h
        obtain ⟨r15, er15, h⟩ := h
        refine r_callVi (As := [.int a1, .int ((r7.1.1 q10 4) - (r7.1.1 q12 5))]) (rest := []) hF (c_X6_bestOrder l D cy ad adK adV r7.1 o0 a1 ((r7.1.1 q10 4) - (r7.1.1 q12 5)) r15 er15) (gW_goodV hcm qw762 qw759 qw761 qw16 qw60) hdX6_bestOrder rfl ⟨Nat.le_of_ble_eq_true rfl, Nat.le_of_ble_eq_true rfl⟩ rfl rfl hZ hK hw g1 (by decide) rfl rfl hl.1 rfl (Nat.le_of_ble_eq_true rfl) ⟨Nat.zero_le _, Nat.zero_le _⟩ dX6_order_64 (fun H locs hw => ?_)
        exact r_iret hx hb hr rfl hlocks hZ hK hw h dX6_order_67
      · replace h := if_some_f c14 h
        refine lv_aload_n hx hb dX6_order_54 rfl (lv_at hl 1 rfl) ?_
        refine lv_bipush (v := (6 : Int32)) hx hb dX6_order_55 (by decide) ?_
        replace h := bd_some h
        obtain ⟨r16, er16, h⟩ := h
        refine r_callVi (As := [.int (6 : Int32)]) (rest := []) hF (c_X6_finding l D cy ad adK adV r7.1 o0 (6 : Int32) r16 er16) (gW_goodV hcm qw373 qw370 qw372 qw0 qw60) hdX6_finding rfl ⟨Nat.le_of_ble_eq_true rfl, Nat.le_of_ble_eq_true rfl⟩ rfl rfl hZ hK hw g1 (by decide) rfl rfl hl.1 rfl (Nat.le_of_ble_eq_true rfl) ⟨Nat.zero_le _, Nat.zero_le _⟩ dX6_order_57 (fun H locs hw => ?_)
        exact r_iret hx hb hr rfl hlocks hZ hK hw h dX6_order_60
    · replace h := if_some_f c9 h
      refine lv_aload_n hx hb dX6_order_27 rfl (lv_at hl 0 rfl) ?_
      refine lv_iconst (v := (3 : Int32)) hx hb dX6_order_28 (by decide) ?_
      replace h := bd_some h
      obtain ⟨r17, er17, h⟩ := h
      refine r_callVi (As := [.int (3 : Int32)]) (rest := []) hF (c_X6_finding l D cy ad adK adV r7.1 o0 (3 : Int32) r17 er17) (gW_goodV hcm qw373 qw370 qw372 qw0 qw60) hdX6_finding rfl ⟨Nat.le_of_ble_eq_true rfl, Nat.le_of_ble_eq_true rfl⟩ rfl rfl hZ hK hw g1 (by decide) rfl rfl hl.1 rfl (Nat.le_of_ble_eq_true rfl) ⟨Nat.zero_le _, Nat.zero_le _⟩ dX6_order_29 (fun H locs hw => ?_)
      exact r_iret hx hb hr rfl hlocks hZ hK hw h dX6_order_32
  · replace h := if_some_t c5 h
    refine lv_aload_n hx hb dX6_order_11 rfl (lv_at hl 0 rfl) ?_
    refine lv_iconst (v := (0 : Int32)) hx hb dX6_order_12 (by decide) ?_
    replace h := bd_some h
    obtain ⟨r18, er18, h⟩ := h
    refine r_callVi (As := [.int (0 : Int32)]) (rest := []) hF (c_X6_finding l D cy ad adK adV r3.1 o0 (0 : Int32) r18 er18) (gW_goodV hcm qw373 qw370 qw372 qw0 qw60) hdX6_finding rfl ⟨Nat.le_of_ble_eq_true rfl, Nat.le_of_ble_eq_true rfl⟩ rfl rfl hZ hK hw g1 (by decide) rfl rfl hl.1 rfl (Nat.le_of_ble_eq_true rfl) ⟨Nat.zero_le _, Nat.zero_le _⟩ dX6_order_13 (fun H locs hw => ?_)
    exact r_iret hx hb hr rfl hlocks hZ hK hw h dX6_order_16
theorem dX6_lawFor_0 : decode cX6_lawFor 0 = .ok (.aload_n 0, 1) := by decide +kernel
theorem dX6_lawFor_1 : decode cX6_lawFor 1 = .ok (.getfield 10, 3) := by decide +kernel
theorem dX6_lawFor_4 : decode cX6_lawFor 4 = .ok (.iload_n 1, 1) := by decide +kernel
theorem dX6_lawFor_5 : decode cX6_lawFor 5 = .ok (.invokevirtual 71, 3) := by decide +kernel
theorem dX6_lawFor_8 : decode cX6_lawFor 8 = .ok (.ifCond .ne 9, 3) := by decide +kernel
theorem dX6_lawFor_11 : decode cX6_lawFor 11 = .ok (.aload_n 0, 1) := by decide +kernel
theorem dX6_lawFor_12 : decode cX6_lawFor 12 = .ok (.iconst 0, 1) := by decide +kernel
theorem dX6_lawFor_13 : decode cX6_lawFor 13 = .ok (.invokevirtual 59, 3) := by decide +kernel
theorem dX6_lawFor_16 : decode cX6_lawFor 16 = .ok (.ireturn, 1) := by decide +kernel
theorem dX6_lawFor_17 : decode cX6_lawFor 17 = .ok (.aload_n 0, 1) := by decide +kernel
theorem dX6_lawFor_18 : decode cX6_lawFor 18 = .ok (.iload_n 1, 1) := by decide +kernel
theorem dX6_lawFor_19 : decode cX6_lawFor 19 = .ok (.iconst 2, 1) := by decide +kernel
theorem dX6_lawFor_20 : decode cX6_lawFor 20 = .ok (.iconst 1, 1) := by decide +kernel
theorem dX6_lawFor_21 : decode cX6_lawFor 21 = .ok (.iconst 3, 1) := by decide +kernel
theorem dX6_lawFor_22 : decode cX6_lawFor 22 = .ok (.invokevirtual 229, 3) := by decide +kernel
theorem dX6_lawFor_25 : decode cX6_lawFor 25 = .ok (.ireturn, 1) := by decide +kernel
set_option maxHeartbeats 4000000 in
set_option maxRecDepth 100000 in
theorem c_X6_lawFor (l : Launch) (D : va_G) (cy : Nat → ClassId) (ad adK adV : Nat → Nat) (M : Mm) (o0 : Nat) (a1 : Int32) (res : Mm × Int32) (h : f_X6_lawFor M o0 a1 = some res) : Met l yX6_lawFor (wU yX6_lawFor cX6_lawFor 2 (some .int)) rmX6_lawFor (va_Pc [.ref (ad o0), .int a1] (Pre D cy shX ad nX adK adV M)) (va_Qi (fun r (M2 : Mm) => r = res.2 ∧ M2 = res.1) (Pre D cy shX ad nX adK adV) (Aw ad nX)) 0 0 (Aw ad nX) := by
  refine Met.ofW (cc := cX6_lawFor) (maxL := 2) (ret := (some .int)) (by decide) rfl ?_
  intro p e s m args below meth c s₁ B hml hv
  obtain ⟨hargs, hPre⟩ := hv
  have hx := B.exec
  have hb := B.bytes
  have hr := B.returns
  have hts := atoms_spec (ws := wU yX6_lawFor cX6_lawFor 2 (some .int)) B.pre
  have hq : ∀ w ∈ gW, w.before args s = true := fun w hw => hts w (List.mem_cons_of_mem _ hw)
  have hcm : ∀ w ∈ gW, w ∈ wU yX6_lawFor cX6_lawFor 2 (some .int) := fun w hw => List.mem_cons_of_mem _ hw
  have hown : s.vm.findClass RX6 = some m.cls := findClass_of_methodNamed B.named
  have hlocks := B.notSynchronized
  have hF : CallFix p m c cX6_lawFor 2 s args (wU yX6_lawFor cX6_lawFor 2 (some .int)) RX6 := ⟨hx, hb, hml, hown, hts⟩
  have hK := hPre.2.1
  have hZ := hPre.2.2.2
  have hw : Wd D cy shX ad nX (Aw ad nX) s.heap M s.heap [] := ⟨hPre.1, hPre.2.2.1, va_S.rf⟩
  have iw6 : ∀ w ∈ u_ws RX6 TX6 8, w ∈ wU yX6_lawFor cX6_lawFor 2 (some .int) := fun w hw => List.mem_cons_of_mem _ (iX6 w hw)
  rw [show entryFrame m args 2 = entryFrame m ([.ref (ad o0), .int a1] : List Value).toArray 2 from by rw [hargs]]
  have hl := lv_entry ([.ref (ad o0), .int a1]) (n := 2) (Nat.le_of_ble_eq_true rfl)
  rw [lg_entry_eq]
  generalize (lg_sl ([.ref (ad o0), .int a1]) ++ List.replicate (2 - (lg_sl ([.ref (ad o0), .int a1])).length) Slot.unset).toArray = ls at hl ⊢
  have hl : lv_has ls 2 [(0, .ref (ad o0)), (1, .int a1)] := hl
  unfold f_X6_lawFor at h
  refine lv_aload_n hx hb dX6_lawFor_0 rfl (lv_at hl 0 rfl) ?_
  replace h := gd_some h
  obtain ⟨g1, h⟩ := h
  replace h := bd_some h
  obtain ⟨q2, eq2, h⟩ := h
  refine r_getR hx hb hts iw6 hown hK hw o0 0 g1 (by decide) rfl (by decide) rfl (hq _ qw335) (fun _ h9 => h9) dX6_lawFor_1 eq2 ?_
  refine lv_iload_n hx hb dX6_lawFor_4 rfl (lv_at hl 1 rfl) ?_
  replace h := gd_some h
  obtain ⟨g4, h⟩ := h
  replace h := bd_some h
  obtain ⟨r3, er3, h⟩ := h
  refine r_callVi (As := [.int a1]) (rest := []) hF (c_X1_hasSide l D cy ad adK adV M q2 a1 r3 er3) (gW_goodV hcm qw390 qw387 qw388 qw389 qw61) hdX1_hasSide rfl ⟨Nat.le_of_ble_eq_true rfl, Nat.le_of_ble_eq_true rfl⟩ rfl rfl hZ hK hw g4 (by decide) rfl rfl hl.1 rfl (Nat.le_of_ble_eq_true rfl) ⟨Nat.zero_le _, Nat.zero_le _⟩ dX6_lawFor_5 (fun H locs hw => ?_)
  refine lv_if_ne (tgt := 17) hx hb dX6_lawFor_8 (by decide) (fun c5 => ?_) (fun c5 => ?_)
  · replace h := if_some_f c5 h
    refine lv_aload_n hx hb dX6_lawFor_17 rfl (lv_at hl 0 rfl) ?_
    refine lv_iload_n hx hb dX6_lawFor_18 rfl (lv_at hl 1 rfl) ?_
    refine lv_iconst (v := (2 : Int32)) hx hb dX6_lawFor_19 (by decide) ?_
    refine lv_iconst (v := (1 : Int32)) hx hb dX6_lawFor_20 (by decide) ?_
    refine lv_iconst (v := (3 : Int32)) hx hb dX6_lawFor_21 (by decide) ?_
    replace h := bd_some h
    obtain ⟨r6, er6, h⟩ := h
    refine r_callVi (As := [.int a1, .int (2 : Int32), .int (1 : Int32), .int (3 : Int32)]) (rest := []) hF (c_X6_greatestMean l D cy ad adK adV r3.1 o0 a1 (2 : Int32) (1 : Int32) (3 : Int32) r6 er6) (gW_goodV hcm qw737 qw734 qw736 qw14 qw60) hdX6_greatestMean rfl ⟨Nat.le_of_ble_eq_true rfl, Nat.le_of_ble_eq_true rfl⟩ rfl rfl hZ hK hw g1 (by decide) rfl rfl hl.1 rfl (Nat.le_of_ble_eq_true rfl) ⟨Nat.zero_le _, Nat.zero_le _⟩ dX6_lawFor_22 (fun H locs hw => ?_)
    exact r_iret hx hb hr rfl hlocks hZ hK hw h dX6_lawFor_25
  · replace h := if_some_t c5 h
    refine lv_aload_n hx hb dX6_lawFor_11 rfl (lv_at hl 0 rfl) ?_
    refine lv_iconst (v := (0 : Int32)) hx hb dX6_lawFor_12 (by decide) ?_
    replace h := bd_some h
    obtain ⟨r7, er7, h⟩ := h
    refine r_callVi (As := [.int (0 : Int32)]) (rest := []) hF (c_X6_finding l D cy ad adK adV r3.1 o0 (0 : Int32) r7 er7) (gW_goodV hcm qw373 qw370 qw372 qw0 qw60) hdX6_finding rfl ⟨Nat.le_of_ble_eq_true rfl, Nat.le_of_ble_eq_true rfl⟩ rfl rfl hZ hK hw g1 (by decide) rfl rfl hl.1 rfl (Nat.le_of_ble_eq_true rfl) ⟨Nat.zero_le _, Nat.zero_le _⟩ dX6_lawFor_13 (fun H locs hw => ?_)
    exact r_iret hx hb hr rfl hlocks hZ hK hw h dX6_lawFor_16

theorem dX7_wronged_0 : decode cX7_wronged 0 = .ok (.aload_n 0, 1) := by decide +kernel
theorem dX7_wronged_1 : decode cX7_wronged 1 = .ok (.invokevirtual 266, 3) := by decide +kernel
theorem dX7_wronged_4 : decode cX7_wronged 4 = .ok (.lstore_n 1, 1) := by decide +kernel
theorem dX7_wronged_5 : decode cX7_wronged 5 = .ok (.iconst 0, 1) := by decide +kernel
theorem dX7_wronged_6 : decode cX7_wronged 6 = .ok (.istore_n 3, 1) := by decide +kernel
theorem dX7_wronged_7 : decode cX7_wronged 7 = .ok (.aload_n 0, 1) := by decide +kernel
theorem dX7_wronged_8 : decode cX7_wronged 8 = .ok (.getfield 7, 3) := by decide +kernel
theorem dX7_wronged_11 : decode cX7_wronged 11 = .ok (.iconst 2, 1) := by decide +kernel
theorem dX7_wronged_12 : decode cX7_wronged 12 = .ok (.iaload, 1) := by decide +kernel
theorem dX7_wronged_13 : decode cX7_wronged 13 = .ok (.istore 4, 2) := by decide +kernel
theorem dX7_wronged_15 : decode cX7_wronged 15 = .ok (.iload 4, 2) := by decide +kernel
theorem dX7_wronged_17 : decode cX7_wronged 17 = .ok (.aload_n 0, 1) := by decide +kernel
theorem dX7_wronged_18 : decode cX7_wronged 18 = .ok (.getfield 7, 3) := by decide +kernel
theorem dX7_wronged_21 : decode cX7_wronged 21 = .ok (.iconst 1, 1) := by decide +kernel
theorem dX7_wronged_22 : decode cX7_wronged 22 = .ok (.iaload, 1) := by decide +kernel
theorem dX7_wronged_23 : decode cX7_wronged 23 = .ok (.if_icmp .ge 105, 3) := by decide +kernel
theorem dX7_wronged_26 : decode cX7_wronged 26 = .ok (.aload_n 0, 1) := by decide +kernel
theorem dX7_wronged_27 : decode cX7_wronged 27 = .ok (.iload 4, 2) := by decide +kernel
theorem dX7_wronged_29 : decode cX7_wronged 29 = .ok (.iconst 0, 1) := by decide +kernel
theorem dX7_wronged_30 : decode cX7_wronged 30 = .ok (.invokevirtual 71, 3) := by decide +kernel
theorem dX7_wronged_33 : decode cX7_wronged 33 = .ok (.istore 5, 2) := by decide +kernel
theorem dX7_wronged_35 : decode cX7_wronged 35 = .ok (.aload_n 0, 1) := by decide +kernel
theorem dX7_wronged_36 : decode cX7_wronged 36 = .ok (.iload 4, 2) := by decide +kernel
theorem dX7_wronged_38 : decode cX7_wronged 38 = .ok (.iconst 1, 1) := by decide +kernel
theorem dX7_wronged_39 : decode cX7_wronged 39 = .ok (.invokevirtual 71, 3) := by decide +kernel
theorem dX7_wronged_42 : decode cX7_wronged 42 = .ok (.istore 6, 2) := by decide +kernel
theorem dX7_wronged_44 : decode cX7_wronged 44 = .ok (.aload_n 0, 1) := by decide +kernel
theorem dX7_wronged_45 : decode cX7_wronged 45 = .ok (.iload 5, 2) := by decide +kernel
theorem dX7_wronged_47 : decode cX7_wronged 47 = .ok (.iconst 1, 1) := by decide +kernel
theorem dX7_wronged_48 : decode cX7_wronged 48 = .ok (.invokevirtual 89, 3) := by decide +kernel
theorem dX7_wronged_51 : decode cX7_wronged 51 = .ok (.aload_n 0, 1) := by decide +kernel
theorem dX7_wronged_52 : decode cX7_wronged 52 = .ok (.iload 6, 2) := by decide +kernel
theorem dX7_wronged_54 : decode cX7_wronged 54 = .ok (.iconst 1, 1) := by decide +kernel
theorem dX7_wronged_55 : decode cX7_wronged 55 = .ok (.invokevirtual 89, 3) := by decide +kernel
theorem dX7_wronged_58 : decode cX7_wronged 58 = .ok (.isub, 1) := by decide +kernel
theorem dX7_wronged_59 : decode cX7_wronged 59 = .ok (.istore 7, 2) := by decide +kernel
theorem dX7_wronged_61 : decode cX7_wronged 61 = .ok (.aload_n 0, 1) := by decide +kernel
theorem dX7_wronged_62 : decode cX7_wronged 62 = .ok (.getfield 29, 3) := by decide +kernel
theorem dX7_wronged_65 : decode cX7_wronged 65 = .ok (.bipush 6, 2) := by decide +kernel
theorem dX7_wronged_67 : decode cX7_wronged 67 = .ok (.iload 4, 2) := by decide +kernel
theorem dX7_wronged_69 : decode cX7_wronged 69 = .ok (.imul, 1) := by decide +kernel
theorem dX7_wronged_70 : decode cX7_wronged 70 = .ok (.iload 5, 2) := by decide +kernel
theorem dX7_wronged_72 : decode cX7_wronged 72 = .ok (.iadd, 1) := by decide +kernel
theorem dX7_wronged_73 : decode cX7_wronged 73 = .ok (.laload, 1) := by decide +kernel
theorem dX7_wronged_74 : decode cX7_wronged 74 = .ok (.aload_n 0, 1) := by decide +kernel
theorem dX7_wronged_75 : decode cX7_wronged 75 = .ok (.getfield 29, 3) := by decide +kernel
theorem dX7_wronged_78 : decode cX7_wronged 78 = .ok (.bipush 6, 2) := by decide +kernel
theorem dX7_wronged_80 : decode cX7_wronged 80 = .ok (.iload 4, 2) := by decide +kernel
theorem dX7_wronged_82 : decode cX7_wronged 82 = .ok (.imul, 1) := by decide +kernel
theorem dX7_wronged_83 : decode cX7_wronged 83 = .ok (.iload 6, 2) := by decide +kernel
theorem dX7_wronged_85 : decode cX7_wronged 85 = .ok (.iadd, 1) := by decide +kernel
theorem dX7_wronged_86 : decode cX7_wronged 86 = .ok (.laload, 1) := by decide +kernel
theorem dX7_wronged_87 : decode cX7_wronged 87 = .ok (.lsub, 1) := by decide +kernel
theorem dX7_wronged_88 : decode cX7_wronged 88 = .ok (.lstore 8, 2) := by decide +kernel
theorem dX7_wronged_90 : decode cX7_wronged 90 = .ok (.iload_n 3, 1) := by decide +kernel
theorem dX7_wronged_91 : decode cX7_wronged 91 = .ok (.iload 7, 2) := by decide +kernel
theorem dX7_wronged_93 : decode cX7_wronged 93 = .ok (.ifCond .le 10, 3) := by decide +kernel
theorem dX7_wronged_96 : decode cX7_wronged 96 = .ok (.lload 8, 2) := by decide +kernel
theorem dX7_wronged_98 : decode cX7_wronged 98 = .ok (.lconst 0, 1) := by decide +kernel
theorem dX7_wronged_99 : decode cX7_wronged 99 = .ok (.lcmp, 1) := by decide +kernel
theorem dX7_wronged_100 : decode cX7_wronged 100 = .ok (.ifCond .lt 15, 3) := by decide +kernel
theorem dX7_wronged_103 : decode cX7_wronged 103 = .ok (.iload 7, 2) := by decide +kernel
theorem dX7_wronged_105 : decode cX7_wronged 105 = .ok (.ifCond .ge 14, 3) := by decide +kernel
theorem dX7_wronged_108 : decode cX7_wronged 108 = .ok (.lload 8, 2) := by decide +kernel
theorem dX7_wronged_110 : decode cX7_wronged 110 = .ok (.lconst 0, 1) := by decide +kernel
theorem dX7_wronged_111 : decode cX7_wronged 111 = .ok (.lcmp, 1) := by decide +kernel
theorem dX7_wronged_112 : decode cX7_wronged 112 = .ok (.ifCond .le 7, 3) := by decide +kernel
theorem dX7_wronged_115 : decode cX7_wronged 115 = .ok (.iconst 1, 1) := by decide +kernel
theorem dX7_wronged_116 : decode cX7_wronged 116 = .ok (.goto 4, 3) := by decide +kernel
theorem dX7_wronged_119 : decode cX7_wronged 119 = .ok (.iconst 0, 1) := by decide +kernel
theorem dX7_wronged_120 : decode cX7_wronged 120 = .ok (.iadd, 1) := by decide +kernel
theorem dX7_wronged_121 : decode cX7_wronged 121 = .ok (.istore_n 3, 1) := by decide +kernel
theorem dX7_wronged_122 : decode cX7_wronged 122 = .ok (.iinc 4 1, 3) := by decide +kernel
theorem dX7_wronged_125 : decode cX7_wronged 125 = .ok (.goto (-110), 3) := by decide +kernel
theorem dX7_wronged_128 : decode cX7_wronged 128 = .ok (.iload_n 3, 1) := by decide +kernel
theorem dX7_wronged_129 : decode cX7_wronged 129 = .ok (.ireturn, 1) := by decide +kernel
set_option maxHeartbeats 4000000 in
set_option maxRecDepth 100000 in
theorem c_X7_wronged (l : Launch) (D : va_G) (cy : Nat → ClassId) (ad adK adV : Nat → Nat) (M : Mm) (o0 : Nat) (res : Mm × Int32) (h : f_X7_wronged M o0 = some res) : Met l yX7_wronged (wU yX7_wronged cX7_wronged 10 (some .int)) rmX7_wronged (va_Pc [.ref (ad o0)] (Pre D cy shM ad nM adK adV M)) (va_Qi (fun r (M2 : Mm) => r = res.2 ∧ M2 = res.1) (Pre D cy shM ad nM adK adV) (Aw ad nM)) 0 0 (Aw ad nM) := by
  refine Met.ofW (cc := cX7_wronged) (maxL := 10) (ret := (some .int)) (by decide) rfl ?_
  intro p e s m args below meth c s₁ B hml hv
  obtain ⟨hargs, hPre⟩ := hv
  have hx := B.exec
  have hb := B.bytes
  have hr := B.returns
  have hts := atoms_spec (ws := wU yX7_wronged cX7_wronged 10 (some .int)) B.pre
  have hq : ∀ w ∈ gW, w.before args s = true := fun w hw => hts w (List.mem_cons_of_mem _ hw)
  have hcm : ∀ w ∈ gW, w ∈ wU yX7_wronged cX7_wronged 10 (some .int) := fun w hw => List.mem_cons_of_mem _ hw
  have hown : s.vm.findClass RX7 = some m.cls := findClass_of_methodNamed B.named
  have hlocks := B.notSynchronized
  have hF : CallFix p m c cX7_wronged 10 s args (wU yX7_wronged cX7_wronged 10 (some .int)) RX7 := ⟨hx, hb, hml, hown, hts⟩
  have hK := hPre.2.1
  have hZ := hPre.2.2.2
  have hw : Wd D cy shM ad nM (Aw ad nM) s.heap M s.heap [] := ⟨hPre.1, hPre.2.2.1, va_S.rf⟩
  have iw7 : ∀ w ∈ u_ws RX7 TX7 30, w ∈ wU yX7_wronged cX7_wronged 10 (some .int) := fun w hw => List.mem_cons_of_mem _ (iX7 w hw)
  rw [show entryFrame m args 10 = entryFrame m ([.ref (ad o0)] : List Value).toArray 10 from by rw [hargs]]
  have hl := lv_entry ([.ref (ad o0)]) (n := 10) (Nat.le_of_ble_eq_true rfl)
  rw [lg_entry_eq]
  generalize (lg_sl ([.ref (ad o0)]) ++ List.replicate (10 - (lg_sl ([.ref (ad o0)])).length) Slot.unset).toArray = ls at hl ⊢
  have hl : lv_has ls 10 [(0, .ref (ad o0))] := hl
  have hb120 : ∀ (k15 : Mm → Nat → Int32 → Int32 → Option (Mm × Int32)) (hk15 : ∀ (M : Mm) (x0 : Nat) (x3 : Int32) (x4 : Int32), k15 M x0 x3 x4 = some res → ∀ (H : Heap) (locs : List Loc) (ls : Array Slot), Wd D cy shM ad nM (Aw ad nM) s.heap M H locs → lv_has ls 10 [(0, .ref (ad x0)), (3, .int x3), (4, .int x4)] → W p l e (headSpec (wU yX7_wronged cX7_wronged 10 (some .int)) rmX7_wronged).room s m args below meth c H locs 0 0 (QI D cy shM ad nM adK adV below args s res) (F0 m 15 ls [])), ∀ (M : Mm) (x0 : Nat) (x4 : Int32) (t0 : Int32) (t1 : Int32), f_X7_wronged_b120 k15 M x0 x4 t0 t1 = some res → ∀ (H : Heap) (locs : List Loc) (ls : Array Slot), Wd D cy shM ad nM (Aw ad nM) s.heap M H locs → lv_has ls 10 [(0, .ref (ad x0)), (4, .int x4)] → W p l e (headSpec (wU yX7_wronged cX7_wronged 10 (some .int)) rmX7_wronged).room s m args below meth c H locs 0 0 (QI D cy shM ad nM adK adV below args s res) (F0 m 120 ls [.int t1, .int t0]) := by
    intro k15 hk15
    intro M x0 x4 t0 t1 h H locs ls hw hl
    unfold f_X7_wronged_b120 at h
    refine lv_iadd hx hb dX7_wronged_120 ?_
    refine lv_istore_n (lv' := [(3, .int (t0 + t1)), (0, .ref (ad x0)), (4, .int x4)]) hx hb dX7_wronged_121 rfl hl (by decide) rfl (fun ls hl => ?_)
    refine lv_iinc (v := x4 + (1 : Int32)) (lv' := [(4, .int (x4 + (1 : Int32))), (3, .int (t0 + t1)), (0, .ref (ad x0))]) hx hb dX7_wronged_122 hl (k := 2) rfl (congrArg (fun z => x4 + z) (by decide)) (by decide) rfl (fun ls hl => ?_)
    refine lv_goto (tgt := 15) hx hb dX7_wronged_125 (by decide) ?_
    exact hk15 _ _ _ _ h _ _ _ hw (lv_sub hl [2, 1, 0] rfl)
  have hb119 : ∀ (k15 : Mm → Nat → Int32 → Int32 → Option (Mm × Int32)) (hk15 : ∀ (M : Mm) (x0 : Nat) (x3 : Int32) (x4 : Int32), k15 M x0 x3 x4 = some res → ∀ (H : Heap) (locs : List Loc) (ls : Array Slot), Wd D cy shM ad nM (Aw ad nM) s.heap M H locs → lv_has ls 10 [(0, .ref (ad x0)), (3, .int x3), (4, .int x4)] → W p l e (headSpec (wU yX7_wronged cX7_wronged 10 (some .int)) rmX7_wronged).room s m args below meth c H locs 0 0 (QI D cy shM ad nM adK adV below args s res) (F0 m 15 ls [])), ∀ (M : Mm) (x0 : Nat) (x4 : Int32) (t0 : Int32), f_X7_wronged_b119 k15 M x0 x4 t0 = some res → ∀ (H : Heap) (locs : List Loc) (ls : Array Slot), Wd D cy shM ad nM (Aw ad nM) s.heap M H locs → lv_has ls 10 [(0, .ref (ad x0)), (4, .int x4)] → W p l e (headSpec (wU yX7_wronged cX7_wronged 10 (some .int)) rmX7_wronged).room s m args below meth c H locs 0 0 (QI D cy shM ad nM adK adV below args s res) (F0 m 119 ls [.int t0]) := by
    intro k15 hk15
    intro M x0 x4 t0 h H locs ls hw hl
    unfold f_X7_wronged_b119 at h
    refine lv_iconst (v := (0 : Int32)) hx hb dX7_wronged_119 (by decide) ?_
    exact hb120 _ hk15 _ _ _ _ _ h _ _ _ hw (lv_sub hl [0, 1] rfl)
  have hb115 : ∀ (k15 : Mm → Nat → Int32 → Int32 → Option (Mm × Int32)) (hk15 : ∀ (M : Mm) (x0 : Nat) (x3 : Int32) (x4 : Int32), k15 M x0 x3 x4 = some res → ∀ (H : Heap) (locs : List Loc) (ls : Array Slot), Wd D cy shM ad nM (Aw ad nM) s.heap M H locs → lv_has ls 10 [(0, .ref (ad x0)), (3, .int x3), (4, .int x4)] → W p l e (headSpec (wU yX7_wronged cX7_wronged 10 (some .int)) rmX7_wronged).room s m args below meth c H locs 0 0 (QI D cy shM ad nM adK adV below args s res) (F0 m 15 ls [])), ∀ (M : Mm) (x0 : Nat) (x4 : Int32) (t0 : Int32), f_X7_wronged_b115 k15 M x0 x4 t0 = some res → ∀ (H : Heap) (locs : List Loc) (ls : Array Slot), Wd D cy shM ad nM (Aw ad nM) s.heap M H locs → lv_has ls 10 [(0, .ref (ad x0)), (4, .int x4)] → W p l e (headSpec (wU yX7_wronged cX7_wronged 10 (some .int)) rmX7_wronged).room s m args below meth c H locs 0 0 (QI D cy shM ad nM adK adV below args s res) (F0 m 115 ls [.int t0]) := by
    intro k15 hk15
    intro M x0 x4 t0 h H locs ls hw hl
    unfold f_X7_wronged_b115 at h
    refine lv_iconst (v := (1 : Int32)) hx hb dX7_wronged_115 (by decide) ?_
    refine lv_goto (tgt := 120) hx hb dX7_wronged_116 (by decide) ?_
    exact hb120 _ hk15 _ _ _ _ _ h _ _ _ hw (lv_sub hl [0, 1] rfl)
  have hb103 : ∀ (k15 : Mm → Nat → Int32 → Int32 → Option (Mm × Int32)) (hk15 : ∀ (M : Mm) (x0 : Nat) (x3 : Int32) (x4 : Int32), k15 M x0 x3 x4 = some res → ∀ (H : Heap) (locs : List Loc) (ls : Array Slot), Wd D cy shM ad nM (Aw ad nM) s.heap M H locs → lv_has ls 10 [(0, .ref (ad x0)), (3, .int x3), (4, .int x4)] → W p l e (headSpec (wU yX7_wronged cX7_wronged 10 (some .int)) rmX7_wronged).room s m args below meth c H locs 0 0 (QI D cy shM ad nM adK adV below args s res) (F0 m 15 ls [])), ∀ (M : Mm) (x0 : Nat) (x4 : Int32) (x7 : Int32) (x8 : Int64) (t0 : Int32), f_X7_wronged_b103 k15 M x0 x4 x7 x8 t0 = some res → ∀ (H : Heap) (locs : List Loc) (ls : Array Slot), Wd D cy shM ad nM (Aw ad nM) s.heap M H locs → lv_has ls 10 [(0, .ref (ad x0)), (4, .int x4), (7, .int x7), (8, .long x8)] → W p l e (headSpec (wU yX7_wronged cX7_wronged 10 (some .int)) rmX7_wronged).room s m args below meth c H locs 0 0 (QI D cy shM ad nM adK adV below args s res) (F0 m 103 ls [.int t0]) := by
    intro k15 hk15
    intro M x0 x4 x7 x8 t0 h H locs ls hw hl
    unfold f_X7_wronged_b103 at h
    refine lv_iload hx hb dX7_wronged_103 (lv_at hl 2 rfl) ?_
    refine lv_if_ge (tgt := 119) hx hb dX7_wronged_105 (by decide) (fun c1 => ?_) (fun c1 => ?_)
    · replace h := if_some_t c1 h
      exact hb119 _ hk15 _ _ _ _ h _ _ _ hw (lv_sub hl [0, 1] rfl)
    · replace h := if_some_f c1 h
      refine lv_lload hx hb dX7_wronged_108 (lv_at hl 3 rfl) ?_
      refine lv_lconst (v := (0 : Int64)) hx hb dX7_wronged_110 (by decide) ?_
      refine W.lcmp hx hb dX7_wronged_111 ?_
      refine lv_if_le (tgt := 119) hx hb dX7_wronged_112 (by decide) (fun c2 => ?_) (fun c2 => ?_)
      · replace h := if_some_t c2 h
        exact hb119 _ hk15 _ _ _ _ h _ _ _ hw (lv_sub hl [0, 1] rfl)
      · replace h := if_some_f c2 h
        exact hb115 _ hk15 _ _ _ _ h _ _ _ hw (lv_sub hl [0, 1] rfl)
  have hb15 : ∀ (nn : Nat), ∀ (M : Mm) (x0 : Nat) (x3 : Int32) (x4 : Int32), f_X7_wronged_b15 nn M x0 x3 x4 = some res → ∀ (H : Heap) (locs : List Loc) (ls : Array Slot), Wd D cy shM ad nM (Aw ad nM) s.heap M H locs → lv_has ls 10 [(0, .ref (ad x0)), (3, .int x3), (4, .int x4)] → W p l e (headSpec (wU yX7_wronged cX7_wronged 10 (some .int)) rmX7_wronged).room s m args below meth c H locs 0 0 (QI D cy shM ad nM adK adV below args s res) (F0 m 15 ls []) := by
    intro nn
    induction nn with
    | zero => intro M x0 x3 x4 h; simp [f_X7_wronged_b15] at h
    | succ nn ih =>
      intro M x0 x3 x4 h H locs ls hw hl
      unfold f_X7_wronged_b15 at h
      refine lv_iload hx hb dX7_wronged_15 (lv_at hl 2 rfl) ?_
      refine lv_aload_n hx hb dX7_wronged_17 rfl (lv_at hl 0 rfl) ?_
      replace h := gd_some h
      obtain ⟨g3, h⟩ := h
      replace h := bd_some h
      obtain ⟨q4, eq4, h⟩ := h
      refine r_getR hx hb hts iw7 hown hK hw x0 0 g3 (by decide) rfl (by decide) rfl (hq _ qw890) (fun _ h9 => h9) dX7_wronged_18 eq4 ?_
      refine lv_iconst (v := (1 : Int32)) hx hb dX7_wronged_21 (by decide) ?_
      replace h := gd_some h
      obtain ⟨g5, h⟩ := h
      refine r_iald hx hb hK hw q4 g5 dX7_wronged_22 ?_
      refine lv_icmp_ge (tgt := 128) hx hb dX7_wronged_23 (by decide) (fun c6 => ?_) (fun c6 => ?_)
      · replace h := if_some_t c6 h
        refine lv_iload_n hx hb dX7_wronged_128 rfl (lv_at hl 1 rfl) ?_
        exact r_iret hx hb hr rfl hlocks hZ hK hw h dX7_wronged_129
      · replace h := if_some_f c6 h
        refine lv_aload_n hx hb dX7_wronged_26 rfl (lv_at hl 0 rfl) ?_
        refine lv_iload hx hb dX7_wronged_27 (lv_at hl 2 rfl) ?_
        refine lv_iconst (v := (0 : Int32)) hx hb dX7_wronged_29 (by decide) ?_
        replace h := bd_some h
        obtain ⟨r7, er7, h⟩ := h
        refine r_callVi (As := [.int x4, .int (0 : Int32)]) (rest := []) hF (c_X7_of l D cy ad adK adV M x0 x4 (0 : Int32) r7 er7) (gW_goodV hcm qw1012 qw1009 qw1011 qw23 qw68) hdX7_of rfl ⟨Nat.le_of_ble_eq_true rfl, Nat.le_of_ble_eq_true rfl⟩ rfl rfl hZ hK hw g3 (by decide) rfl rfl hl.1 rfl (Nat.le_of_ble_eq_true rfl) ⟨Nat.zero_le _, Nat.zero_le _⟩ dX7_wronged_30 (fun H locs hw => ?_)
        refine lv_istore (lv' := [(5, .int r7.2), (0, .ref (ad x0)), (3, .int x3), (4, .int x4)]) hx hb dX7_wronged_33 hl (by decide) rfl (fun ls hl => ?_)
        refine lv_aload_n hx hb dX7_wronged_35 rfl (lv_at hl 1 rfl) ?_
        refine lv_iload hx hb dX7_wronged_36 (lv_at hl 3 rfl) ?_
        refine lv_iconst (v := (1 : Int32)) hx hb dX7_wronged_38 (by decide) ?_
        replace h := bd_some h
        obtain ⟨r8, er8, h⟩ := h
        refine r_callVi (As := [.int x4, .int (1 : Int32)]) (rest := []) hF (c_X7_of l D cy ad adK adV r7.1 x0 x4 (1 : Int32) r8 er8) (gW_goodV hcm qw1012 qw1009 qw1011 qw23 qw68) hdX7_of rfl ⟨Nat.le_of_ble_eq_true rfl, Nat.le_of_ble_eq_true rfl⟩ rfl rfl hZ hK hw g3 (by decide) rfl rfl hl.1 rfl (Nat.le_of_ble_eq_true rfl) ⟨Nat.zero_le _, Nat.zero_le _⟩ dX7_wronged_39 (fun H locs hw => ?_)
        refine lv_istore (lv' := [(6, .int r8.2), (5, .int r7.2), (0, .ref (ad x0)), (3, .int x3), (4, .int x4)]) hx hb dX7_wronged_42 hl (by decide) rfl (fun ls hl => ?_)
        refine lv_aload_n hx hb dX7_wronged_44 rfl (lv_at hl 2 rfl) ?_
        refine lv_iload hx hb dX7_wronged_45 (lv_at hl 1 rfl) ?_
        refine lv_iconst (v := (1 : Int32)) hx hb dX7_wronged_47 (by decide) ?_
        replace h := bd_some h
        obtain ⟨r9, er9, h⟩ := h
        refine r_callVi (As := [.int r7.2, .int (1 : Int32)]) (rest := []) hF (c_X7_its l D cy ad adK adV r8.1 x0 r7.2 (1 : Int32) r9 er9) (gW_goodV hcm qw1032 qw1029 qw1031 qw28 qw68) hdX7_its rfl ⟨Nat.le_of_ble_eq_true rfl, Nat.le_of_ble_eq_true rfl⟩ rfl rfl hZ hK hw g3 (by decide) rfl rfl hl.1 rfl (Nat.le_of_ble_eq_true rfl) ⟨Nat.zero_le _, Nat.zero_le _⟩ dX7_wronged_48 (fun H locs hw => ?_)
        refine lv_aload_n hx hb dX7_wronged_51 rfl (lv_at hl 2 rfl) ?_
        refine lv_iload hx hb dX7_wronged_52 (lv_at hl 0 rfl) ?_
        refine lv_iconst (v := (1 : Int32)) hx hb dX7_wronged_54 (by decide) ?_
        replace h := bd_some h
        obtain ⟨r10, er10, h⟩ := h
        refine r_callVi (As := [.int r8.2, .int (1 : Int32)]) (rest := [.int r9.2]) hF (c_X7_its l D cy ad adK adV r9.1 x0 r8.2 (1 : Int32) r10 er10) (gW_goodV hcm qw1032 qw1029 qw1031 qw28 qw68) hdX7_its rfl ⟨Nat.le_of_ble_eq_true rfl, Nat.le_of_ble_eq_true rfl⟩ rfl rfl hZ hK hw g3 (by decide) rfl rfl hl.1 rfl (Nat.le_of_ble_eq_true rfl) ⟨Nat.zero_le _, Nat.zero_le _⟩ dX7_wronged_55 (fun H locs hw => ?_)
        refine lv_isub hx hb dX7_wronged_58 ?_
        refine lv_istore (lv' := [(7, .int (r9.2 - r10.2)), (6, .int r8.2), (5, .int r7.2), (0, .ref (ad x0)), (3, .int x3), (4, .int x4)]) hx hb dX7_wronged_59 hl (by decide) rfl (fun ls hl => ?_)
        refine lv_aload_n hx hb dX7_wronged_61 rfl (lv_at hl 3 rfl) ?_
        replace h := bd_some h
        obtain ⟨q11, eq11, h⟩ := h
        refine r_getR hx hb hts iw7 hown hK hw x0 16 g3 (by decide) rfl (by decide) rfl (hq _ qw906) (fun _ h9 => h9) dX7_wronged_62 eq11 ?_
        refine lv_bipush (v := (6 : Int32)) hx hb dX7_wronged_65 (by decide) ?_
        refine lv_iload hx hb dX7_wronged_67 (lv_at hl 5 rfl) ?_
        refine lv_imul hx hb dX7_wronged_69 ?_
        refine lv_iload hx hb dX7_wronged_70 (lv_at hl 2 rfl) ?_
        refine lv_iadd hx hb dX7_wronged_72 ?_
        replace h := gd_some h
        obtain ⟨g12, h⟩ := h
        refine r_lald hx hb hK hw q11 g12 dX7_wronged_73 ?_
        refine lv_aload_n hx hb dX7_wronged_74 rfl (lv_at hl 3 rfl) ?_
        replace h := bd_some h
        obtain ⟨q13, eq13, h⟩ := h
        refine r_getR hx hb hts iw7 hown hK hw x0 16 g3 (by decide) rfl (by decide) rfl (hq _ qw906) (fun _ h9 => h9) dX7_wronged_75 eq13 ?_
        refine lv_bipush (v := (6 : Int32)) hx hb dX7_wronged_78 (by decide) ?_
        refine lv_iload hx hb dX7_wronged_80 (lv_at hl 5 rfl) ?_
        refine lv_imul hx hb dX7_wronged_82 ?_
        refine lv_iload hx hb dX7_wronged_83 (lv_at hl 1 rfl) ?_
        refine lv_iadd hx hb dX7_wronged_85 ?_
        replace h := gd_some h
        obtain ⟨g14, h⟩ := h
        refine r_lald hx hb hK hw q13 g14 dX7_wronged_86 ?_
        refine lv_lsub hx hb dX7_wronged_87 ?_
        refine lv_topl (fun y15 ey15 => ?_)
        replace h := lt_at ey15 h
        refine lv_lstore (lv' := [(8, .long y15), (7, .int (r9.2 - r10.2)), (6, .int r8.2), (5, .int r7.2), (0, .ref (ad x0)), (3, .int x3), (4, .int x4)]) hx hb dX7_wronged_88 hl (by decide) rfl (fun ls hl => ?_)
        refine lv_iload_n hx hb dX7_wronged_90 rfl (lv_at hl 5 rfl) ?_
        refine lv_iload hx hb dX7_wronged_91 (lv_at hl 1 rfl) ?_
        refine lv_if_le (tgt := 103) hx hb dX7_wronged_93 (by decide) (fun c16 => ?_) (fun c16 => ?_)
        · replace h := if_some_t c16 h
          exact hb103 _ ih _ _ _ _ _ _ h _ _ _ hw (lv_sub hl [4, 6, 1, 0] rfl)
        · replace h := if_some_f c16 h
          refine lv_lload hx hb dX7_wronged_96 (lv_at hl 0 rfl) ?_
          refine lv_lconst (v := (0 : Int64)) hx hb dX7_wronged_98 (by decide) ?_
          refine W.lcmp hx hb dX7_wronged_99 ?_
          refine lv_if_lt (tgt := 115) hx hb dX7_wronged_100 (by decide) (fun c17 => ?_) (fun c17 => ?_)
          · replace h := if_some_t c17 h
            exact hb115 _ ih _ _ _ _ h _ _ _ hw (lv_sub hl [4, 6] rfl)
          · replace h := if_some_f c17 h
            exact hb103 _ ih _ _ _ _ _ _ h _ _ _ hw (lv_sub hl [4, 6, 1, 0] rfl)
  unfold f_X7_wronged at h
  refine lv_aload_n hx hb dX7_wronged_0 rfl (lv_at hl 0 rfl) ?_
  replace h := gd_some h
  obtain ⟨g19, h⟩ := h
  replace h := bd_some h
  obtain ⟨r18, er18, h⟩ := h
  refine r_callVl (As := []) (rest := []) hF (c_X7_findWays l D cy ad adK adV M o0 r18 er18) (gW_goodV hcm qw1212 qw1209 qw1211 qw53 qw68) hdX7_findWays rfl ⟨Nat.le_of_ble_eq_true rfl, Nat.le_of_ble_eq_true rfl⟩ rfl rfl hZ hK hw g19 (by decide) rfl rfl hl.1 rfl (Nat.le_of_ble_eq_true rfl) ⟨Nat.zero_le _, Nat.zero_le _⟩ dX7_wronged_1 (fun H locs hw => ?_)
  refine lv_lstore_n (lv' := [(1, .long r18.2), (0, .ref (ad o0))]) hx hb dX7_wronged_4 rfl hl (by decide) rfl (fun ls hl => ?_)
  refine lv_iconst (v := (0 : Int32)) hx hb dX7_wronged_5 (by decide) ?_
  refine lv_istore_n (lv' := [(3, .int (0 : Int32)), (1, .long r18.2), (0, .ref (ad o0))]) hx hb dX7_wronged_6 rfl hl (by decide) rfl (fun ls hl => ?_)
  refine lv_aload_n hx hb dX7_wronged_7 rfl (lv_at hl 2 rfl) ?_
  replace h := bd_some h
  obtain ⟨q20, eq20, h⟩ := h
  refine r_getR hx hb hts iw7 hown hK hw o0 0 g19 (by decide) rfl (by decide) rfl (hq _ qw890) (fun _ h9 => h9) dX7_wronged_8 eq20 ?_
  refine lv_iconst (v := (2 : Int32)) hx hb dX7_wronged_11 (by decide) ?_
  replace h := gd_some h
  obtain ⟨g21, h⟩ := h
  refine r_iald hx hb hK hw q20 g21 dX7_wronged_12 ?_
  refine lv_istore (lv' := [(4, .int (r18.1.1 q20 (2 : Int32).toNatClampNeg)), (3, .int (0 : Int32)), (1, .long r18.2), (0, .ref (ad o0))]) hx hb dX7_wronged_13 hl (by decide) rfl (fun ls hl => ?_)
  exact hb15 1000 _ _ _ _ h _ _ _ hw (lv_sub hl [3, 1, 0] rfl)
theorem dX7_tries_0 : decode cX7_tries 0 = .ok (.aload_n 0, 1) := by decide +kernel
theorem dX7_tries_1 : decode cX7_tries 1 = .ok (.iload_n 1, 1) := by decide +kernel
theorem dX7_tries_2 : decode cX7_tries 2 = .ok (.invokevirtual 121, 3) := by decide +kernel
theorem dX7_tries_5 : decode cX7_tries 5 = .ok (.ifCond .eq 13, 3) := by decide +kernel
theorem dX7_tries_8 : decode cX7_tries 8 = .ok (.iload_n 2, 1) := by decide +kernel
theorem dX7_tries_9 : decode cX7_tries 9 = .ok (.iconst 1, 1) := by decide +kernel
theorem dX7_tries_10 : decode cX7_tries 10 = .ok (.bipush 40, 2) := by decide +kernel
theorem dX7_tries_12 : decode cX7_tries 12 = .ok (.invokestatic 67, 3) := by decide +kernel
theorem dX7_tries_15 : decode cX7_tries 15 = .ok (.ifCond .ne 9, 3) := by decide +kernel
theorem dX7_tries_18 : decode cX7_tries 18 = .ok (.aload_n 0, 1) := by decide +kernel
theorem dX7_tries_19 : decode cX7_tries 19 = .ok (.iconst 0, 1) := by decide +kernel
theorem dX7_tries_20 : decode cX7_tries 20 = .ok (.invokevirtual 115, 3) := by decide +kernel
theorem dX7_tries_23 : decode cX7_tries 23 = .ok (.ireturn, 1) := by decide +kernel
theorem dX7_tries_24 : decode cX7_tries 24 = .ok (.aload_n 0, 1) := by decide +kernel
theorem dX7_tries_25 : decode cX7_tries 25 = .ok (.getfield 7, 3) := by decide +kernel
theorem dX7_tries_28 : decode cX7_tries 28 = .ok (.iconst 2, 1) := by decide +kernel
theorem dX7_tries_29 : decode cX7_tries 29 = .ok (.iaload, 1) := by decide +kernel
theorem dX7_tries_30 : decode cX7_tries 30 = .ok (.istore_n 3, 1) := by decide +kernel
theorem dX7_tries_31 : decode cX7_tries 31 = .ok (.iconst 0, 1) := by decide +kernel
theorem dX7_tries_32 : decode cX7_tries 32 = .ok (.istore 4, 2) := by decide +kernel
theorem dX7_tries_34 : decode cX7_tries 34 = .ok (.iconst 0, 1) := by decide +kernel
theorem dX7_tries_35 : decode cX7_tries 35 = .ok (.istore 5, 2) := by decide +kernel
theorem dX7_tries_37 : decode cX7_tries 37 = .ok (.iload 5, 2) := by decide +kernel
theorem dX7_tries_39 : decode cX7_tries 39 = .ok (.iload_n 2, 1) := by decide +kernel
theorem dX7_tries_40 : decode cX7_tries 40 = .ok (.if_icmp .ge 48, 3) := by decide +kernel
theorem dX7_tries_43 : decode cX7_tries 43 = .ok (.aload_n 0, 1) := by decide +kernel
theorem dX7_tries_44 : decode cX7_tries 44 = .ok (.invokevirtual 227, 3) := by decide +kernel
theorem dX7_tries_47 : decode cX7_tries 47 = .ok (.ifCond .ne 10, 3) := by decide +kernel
theorem dX7_tries_50 : decode cX7_tries 50 = .ok (.aload_n 0, 1) := by decide +kernel
theorem dX7_tries_51 : decode cX7_tries 51 = .ok (.invokevirtual 242, 3) := by decide +kernel
theorem dX7_tries_54 : decode cX7_tries 54 = .ok (.goto (-11), 3) := by decide +kernel
theorem dX7_tries_57 : decode cX7_tries 57 = .ok (.iload 4, 2) := by decide +kernel
theorem dX7_tries_59 : decode cX7_tries 59 = .ok (.aload_n 0, 1) := by decide +kernel
theorem dX7_tries_60 : decode cX7_tries 60 = .ok (.invokevirtual 245, 3) := by decide +kernel
theorem dX7_tries_63 : decode cX7_tries 63 = .ok (.iload_n 1, 1) := by decide +kernel
theorem dX7_tries_64 : decode cX7_tries 64 = .ok (.if_icmp .ne 7, 3) := by decide +kernel
theorem dX7_tries_67 : decode cX7_tries 67 = .ok (.iconst 1, 1) := by decide +kernel
theorem dX7_tries_68 : decode cX7_tries 68 = .ok (.goto 4, 3) := by decide +kernel
theorem dX7_tries_71 : decode cX7_tries 71 = .ok (.iconst 0, 1) := by decide +kernel
theorem dX7_tries_72 : decode cX7_tries 72 = .ok (.iadd, 1) := by decide +kernel
theorem dX7_tries_73 : decode cX7_tries 73 = .ok (.istore 4, 2) := by decide +kernel
theorem dX7_tries_75 : decode cX7_tries 75 = .ok (.aload_n 0, 1) := by decide +kernel
theorem dX7_tries_76 : decode cX7_tries 76 = .ok (.getfield 7, 3) := by decide +kernel
theorem dX7_tries_79 : decode cX7_tries 79 = .ok (.iconst 2, 1) := by decide +kernel
theorem dX7_tries_80 : decode cX7_tries 80 = .ok (.iload_n 3, 1) := by decide +kernel
theorem dX7_tries_81 : decode cX7_tries 81 = .ok (.iastore, 1) := by decide +kernel
theorem dX7_tries_82 : decode cX7_tries 82 = .ok (.iinc 5 1, 3) := by decide +kernel
theorem dX7_tries_85 : decode cX7_tries 85 = .ok (.goto (-48), 3) := by decide +kernel
theorem dX7_tries_88 : decode cX7_tries 88 = .ok (.iload 4, 2) := by decide +kernel
theorem dX7_tries_90 : decode cX7_tries 90 = .ok (.ireturn, 1) := by decide +kernel
set_option maxHeartbeats 4000000 in
set_option maxRecDepth 100000 in
theorem c_X7_tries (l : Launch) (D : va_G) (cy : Nat → ClassId) (ad adK adV : Nat → Nat) (M : Mm) (o0 : Nat) (a1 : Int32) (a2 : Int32) (res : Mm × Int32) (h : f_X7_tries M o0 a1 a2 = some res) : Met l yX7_tries (wU yX7_tries cX7_tries 6 (some .int)) rmX7_tries (va_Pc [.ref (ad o0), .int a1, .int a2] (Pre D cy shM ad nM adK adV M)) (va_Qi (fun r (M2 : Mm) => r = res.2 ∧ M2 = res.1) (Pre D cy shM ad nM adK adV) (Aw ad nM)) 0 0 (Aw ad nM) := by
  refine Met.ofW (cc := cX7_tries) (maxL := 6) (ret := (some .int)) (by decide) rfl ?_
  intro p e s m args below meth c s₁ B hml hv
  obtain ⟨hargs, hPre⟩ := hv
  have hx := B.exec
  have hb := B.bytes
  have hr := B.returns
  have hts := atoms_spec (ws := wU yX7_tries cX7_tries 6 (some .int)) B.pre
  have hq : ∀ w ∈ gW, w.before args s = true := fun w hw => hts w (List.mem_cons_of_mem _ hw)
  have hcm : ∀ w ∈ gW, w ∈ wU yX7_tries cX7_tries 6 (some .int) := fun w hw => List.mem_cons_of_mem _ hw
  have hown : s.vm.findClass RX7 = some m.cls := findClass_of_methodNamed B.named
  have hlocks := B.notSynchronized
  have hF : CallFix p m c cX7_tries 6 s args (wU yX7_tries cX7_tries 6 (some .int)) RX7 := ⟨hx, hb, hml, hown, hts⟩
  have hK := hPre.2.1
  have hZ := hPre.2.2.2
  have hw : Wd D cy shM ad nM (Aw ad nM) s.heap M s.heap [] := ⟨hPre.1, hPre.2.2.1, va_S.rf⟩
  have iw7 : ∀ w ∈ u_ws RX7 TX7 30, w ∈ wU yX7_tries cX7_tries 6 (some .int) := fun w hw => List.mem_cons_of_mem _ (iX7 w hw)
  rw [show entryFrame m args 6 = entryFrame m ([.ref (ad o0), .int a1, .int a2] : List Value).toArray 6 from by rw [hargs]]
  have hl := lv_entry ([.ref (ad o0), .int a1, .int a2]) (n := 6) (Nat.le_of_ble_eq_true rfl)
  rw [lg_entry_eq]
  generalize (lg_sl ([.ref (ad o0), .int a1, .int a2]) ++ List.replicate (6 - (lg_sl ([.ref (ad o0), .int a1, .int a2])).length) Slot.unset).toArray = ls at hl ⊢
  have hl : lv_has ls 6 [(0, .ref (ad o0)), (1, .int a1), (2, .int a2)] := hl
  have hb72 : ∀ (k37 : Mm → Nat → Int32 → Int32 → Int32 → Int32 → Int32 → Option (Mm × Int32)) (hk37 : ∀ (M : Mm) (x0 : Nat) (x1 : Int32) (x2 : Int32) (x3 : Int32) (x4 : Int32) (x5 : Int32), k37 M x0 x1 x2 x3 x4 x5 = some res → ∀ (H : Heap) (locs : List Loc) (ls : Array Slot), Wd D cy shM ad nM (Aw ad nM) s.heap M H locs → lv_has ls 6 [(0, .ref (ad x0)), (1, .int x1), (2, .int x2), (3, .int x3), (4, .int x4), (5, .int x5)] → W p l e (headSpec (wU yX7_tries cX7_tries 6 (some .int)) rmX7_tries).room s m args below meth c H locs 0 0 (QI D cy shM ad nM adK adV below args s res) (F0 m 37 ls [])), ∀ (M : Mm) (x0 : Nat) (x1 : Int32) (x2 : Int32) (x3 : Int32) (x5 : Int32) (t0 : Int32) (t1 : Int32), f_X7_tries_b72 k37 M x0 x1 x2 x3 x5 t0 t1 = some res → ∀ (H : Heap) (locs : List Loc) (ls : Array Slot), Wd D cy shM ad nM (Aw ad nM) s.heap M H locs → lv_has ls 6 [(0, .ref (ad x0)), (1, .int x1), (2, .int x2), (3, .int x3), (5, .int x5)] → W p l e (headSpec (wU yX7_tries cX7_tries 6 (some .int)) rmX7_tries).room s m args below meth c H locs 0 0 (QI D cy shM ad nM adK adV below args s res) (F0 m 72 ls [.int t1, .int t0]) := by
    intro k37 hk37
    intro M x0 x1 x2 x3 x5 t0 t1 h H locs ls hw hl
    unfold f_X7_tries_b72 at h
    refine lv_iadd hx hb dX7_tries_72 ?_
    refine lv_istore (lv' := [(4, .int (t0 + t1)), (0, .ref (ad x0)), (1, .int x1), (2, .int x2), (3, .int x3), (5, .int x5)]) hx hb dX7_tries_73 hl (by decide) rfl (fun ls hl => ?_)
    refine lv_aload_n hx hb dX7_tries_75 rfl (lv_at hl 1 rfl) ?_
    replace h := gd_some h
    obtain ⟨g1, h⟩ := h
    replace h := bd_some h
    obtain ⟨q2, eq2, h⟩ := h
    refine r_getR hx hb hts iw7 hown hK hw x0 0 g1 (by decide) rfl (by decide) rfl (hq _ qw890) (fun _ h9 => h9) dX7_tries_76 eq2 ?_
    refine lv_iconst (v := (2 : Int32)) hx hb dX7_tries_79 (by decide) ?_
    refine lv_iload_n hx hb dX7_tries_80 rfl (lv_at hl 4 rfl) ?_
    replace h := gd_some h
    obtain ⟨g3, h⟩ := h
    refine r_iast hx hb hK hw q2 g3 dX7_tries_81 (fun H locs hw => ?_)
    replace h := lt_some h
    obtain ⟨M4, eM4, h⟩ := h
    rw [← eM4] at hw
    refine lv_iinc (v := x5 + (1 : Int32)) (lv' := [(5, .int (x5 + (1 : Int32))), (4, .int (t0 + t1)), (0, .ref (ad x0)), (1, .int x1), (2, .int x2), (3, .int x3)]) hx hb dX7_tries_82 hl (k := 5) rfl (congrArg (fun z => x5 + z) (by decide)) (by decide) rfl (fun ls hl => ?_)
    refine lv_goto (tgt := 37) hx hb dX7_tries_85 (by decide) ?_
    exact hk37 _ _ _ _ _ _ _ h _ _ _ hw (lv_sub hl [2, 3, 4, 5, 1, 0] rfl)
  have hb43 : ∀ (k37 : Mm → Nat → Int32 → Int32 → Int32 → Int32 → Int32 → Option (Mm × Int32)) (hk37 : ∀ (M : Mm) (x0 : Nat) (x1 : Int32) (x2 : Int32) (x3 : Int32) (x4 : Int32) (x5 : Int32), k37 M x0 x1 x2 x3 x4 x5 = some res → ∀ (H : Heap) (locs : List Loc) (ls : Array Slot), Wd D cy shM ad nM (Aw ad nM) s.heap M H locs → lv_has ls 6 [(0, .ref (ad x0)), (1, .int x1), (2, .int x2), (3, .int x3), (4, .int x4), (5, .int x5)] → W p l e (headSpec (wU yX7_tries cX7_tries 6 (some .int)) rmX7_tries).room s m args below meth c H locs 0 0 (QI D cy shM ad nM adK adV below args s res) (F0 m 37 ls [])), ∀ (nn : Nat), ∀ (M : Mm) (x0 : Nat) (x1 : Int32) (x2 : Int32) (x3 : Int32) (x4 : Int32) (x5 : Int32), f_X7_tries_b43 k37 nn M x0 x1 x2 x3 x4 x5 = some res → ∀ (H : Heap) (locs : List Loc) (ls : Array Slot), Wd D cy shM ad nM (Aw ad nM) s.heap M H locs → lv_has ls 6 [(0, .ref (ad x0)), (1, .int x1), (2, .int x2), (3, .int x3), (4, .int x4), (5, .int x5)] → W p l e (headSpec (wU yX7_tries cX7_tries 6 (some .int)) rmX7_tries).room s m args below meth c H locs 0 0 (QI D cy shM ad nM adK adV below args s res) (F0 m 43 ls []) := by
    intro k37 hk37
    intro nn
    induction nn with
    | zero => intro M x0 x1 x2 x3 x4 x5 h; simp [f_X7_tries_b43] at h
    | succ nn ih =>
      intro M x0 x1 x2 x3 x4 x5 h H locs ls hw hl
      unfold f_X7_tries_b43 at h
      refine lv_aload_n hx hb dX7_tries_43 rfl (lv_at hl 0 rfl) ?_
      replace h := gd_some h
      obtain ⟨g6, h⟩ := h
      replace h := bd_some h
      obtain ⟨r5, er5, h⟩ := h
      refine r_callVi (As := []) (rest := []) hF (c_X7_isOver l D cy ad adK adV M x0 r5 er5) (gW_goodV hcm qw1140 qw1137 qw1139 qw42 qw68) hdX7_isOver rfl ⟨Nat.le_of_ble_eq_true rfl, Nat.le_of_ble_eq_true rfl⟩ rfl rfl hZ hK hw g6 (by decide) rfl rfl hl.1 rfl (Nat.le_of_ble_eq_true rfl) ⟨Nat.zero_le _, Nat.zero_le _⟩ dX7_tries_44 (fun H locs hw => ?_)
      refine lv_if_ne (tgt := 57) hx hb dX7_tries_47 (by decide) (fun c7 => ?_) (fun c7 => ?_)
      · replace h := if_some_f c7 h
        refine lv_iload hx hb dX7_tries_57 (lv_at hl 4 rfl) ?_
        refine lv_aload_n hx hb dX7_tries_59 rfl (lv_at hl 0 rfl) ?_
        replace h := bd_some h
        obtain ⟨r8, er8, h⟩ := h
        refine r_callVi (As := []) (rest := [.int x4]) hF (c_X7_leader l D cy ad adK adV r5.1 x0 r8 er8) (gW_goodV hcm qw1197 qw1194 qw1196 qw52 qw68) hdX7_leader rfl ⟨Nat.le_of_ble_eq_true rfl, Nat.le_of_ble_eq_true rfl⟩ rfl rfl hZ hK hw g6 (by decide) rfl rfl hl.1 rfl (Nat.le_of_ble_eq_true rfl) ⟨Nat.zero_le _, Nat.zero_le _⟩ dX7_tries_60 (fun H locs hw => ?_)
        refine lv_iload_n hx hb dX7_tries_63 rfl (lv_at hl 1 rfl) ?_
        refine lv_icmp_ne (tgt := 71) hx hb dX7_tries_64 (by decide) (fun c9 => ?_) (fun c9 => ?_)
        · replace h := if_some_f c9 h
          refine lv_iconst (v := (0 : Int32)) hx hb dX7_tries_71 (by decide) ?_
          exact hb72 _ hk37 _ _ _ _ _ _ _ _ h _ _ _ hw (lv_sub hl [0, 1, 2, 3, 5] rfl)
        · replace h := if_some_t c9 h
          refine lv_iconst (v := (1 : Int32)) hx hb dX7_tries_67 (by decide) ?_
          refine lv_goto (tgt := 72) hx hb dX7_tries_68 (by decide) ?_
          exact hb72 _ hk37 _ _ _ _ _ _ _ _ h _ _ _ hw (lv_sub hl [0, 1, 2, 3, 5] rfl)
      · replace h := if_some_t c7 h
        refine lv_aload_n hx hb dX7_tries_50 rfl (lv_at hl 0 rfl) ?_
        replace h := bd_some h
        obtain ⟨r10, er10, h⟩ := h
        refine r_callVv (As := []) (rest := []) hF (c_X7_drawsNext l D cy ad adK adV r5.1 x0 r10 er10) (gW_goodV hcm qw1180 qw1177 qw1179 qw50 qw68) hdX7_drawsNext rfl ⟨Nat.le_of_ble_eq_true rfl, Nat.le_of_ble_eq_true rfl⟩ rfl rfl hZ hK hw g6 (by decide) rfl rfl hl.1 rfl (Nat.le_of_ble_eq_true rfl) ⟨Nat.zero_le _, Nat.zero_le _⟩ dX7_tries_51 (fun H locs hw => ?_)
        refine lv_goto (tgt := 43) hx hb dX7_tries_54 (by decide) ?_
        exact ih _ _ _ _ _ _ _ h _ _ _ hw (lv_sub hl [0, 1, 2, 3, 4, 5] rfl)
  have hb37 : ∀ (nn : Nat), ∀ (M : Mm) (x0 : Nat) (x1 : Int32) (x2 : Int32) (x3 : Int32) (x4 : Int32) (x5 : Int32), f_X7_tries_b37 nn M x0 x1 x2 x3 x4 x5 = some res → ∀ (H : Heap) (locs : List Loc) (ls : Array Slot), Wd D cy shM ad nM (Aw ad nM) s.heap M H locs → lv_has ls 6 [(0, .ref (ad x0)), (1, .int x1), (2, .int x2), (3, .int x3), (4, .int x4), (5, .int x5)] → W p l e (headSpec (wU yX7_tries cX7_tries 6 (some .int)) rmX7_tries).room s m args below meth c H locs 0 0 (QI D cy shM ad nM adK adV below args s res) (F0 m 37 ls []) := by
    intro nn
    induction nn with
    | zero => intro M x0 x1 x2 x3 x4 x5 h; simp [f_X7_tries_b37] at h
    | succ nn ih =>
      intro M x0 x1 x2 x3 x4 x5 h H locs ls hw hl
      unfold f_X7_tries_b37 at h
      refine lv_iload hx hb dX7_tries_37 (lv_at hl 5 rfl) ?_
      refine lv_iload_n hx hb dX7_tries_39 rfl (lv_at hl 2 rfl) ?_
      refine lv_icmp_ge (tgt := 88) hx hb dX7_tries_40 (by decide) (fun c11 => ?_) (fun c11 => ?_)
      · replace h := if_some_t c11 h
        refine lv_iload hx hb dX7_tries_88 (lv_at hl 4 rfl) ?_
        exact r_iret hx hb hr rfl hlocks hZ hK hw h dX7_tries_90
      · replace h := if_some_f c11 h
        exact hb43 _ ih 1000 _ _ _ _ _ _ _ h _ _ _ hw (lv_sub hl [0, 1, 2, 3, 4, 5] rfl)
  have hb18 : ∀ (M : Mm) (x0 : Nat), f_X7_tries_b18 M x0 = some res → ∀ (H : Heap) (locs : List Loc) (ls : Array Slot), Wd D cy shM ad nM (Aw ad nM) s.heap M H locs → lv_has ls 6 [(0, .ref (ad x0))] → W p l e (headSpec (wU yX7_tries cX7_tries 6 (some .int)) rmX7_tries).room s m args below meth c H locs 0 0 (QI D cy shM ad nM adK adV below args s res) (F0 m 18 ls []) := by
    intro M x0 h H locs ls hw hl
    unfold f_X7_tries_b18 at h
    refine lv_aload_n hx hb dX7_tries_18 rfl (lv_at hl 0 rfl) ?_
    refine lv_iconst (v := (0 : Int32)) hx hb dX7_tries_19 (by decide) ?_
    replace h := gd_some h
    obtain ⟨g13, h⟩ := h
    replace h := bd_some h
    obtain ⟨r12, er12, h⟩ := h
    refine r_callVi (As := [.int (0 : Int32)]) (rest := []) hF (c_X7_finding l D cy ad adK adV M x0 (0 : Int32) r12 er12) (gW_goodV hcm qw991 qw988 qw990 qw19 qw68) hdX7_finding rfl ⟨Nat.le_of_ble_eq_true rfl, Nat.le_of_ble_eq_true rfl⟩ rfl rfl hZ hK hw g13 (by decide) rfl rfl hl.1 rfl (Nat.le_of_ble_eq_true rfl) ⟨Nat.zero_le _, Nat.zero_le _⟩ dX7_tries_20 (fun H locs hw => ?_)
    exact r_iret hx hb hr rfl hlocks hZ hK hw h dX7_tries_23
  unfold f_X7_tries at h
  refine lv_aload_n hx hb dX7_tries_0 rfl (lv_at hl 0 rfl) ?_
  refine lv_iload_n hx hb dX7_tries_1 rfl (lv_at hl 1 rfl) ?_
  replace h := gd_some h
  obtain ⟨g15, h⟩ := h
  replace h := bd_some h
  obtain ⟨r14, er14, h⟩ := h
  refine r_callVi (As := [.int a1]) (rest := []) hF (c_X7_isSide l D cy ad adK adV M o0 a1 r14 er14) (gW_goodV hcm qw1004 qw1001 qw1003 qw21 qw68) hdX7_isSide rfl ⟨Nat.le_of_ble_eq_true rfl, Nat.le_of_ble_eq_true rfl⟩ rfl rfl hZ hK hw g15 (by decide) rfl rfl hl.1 rfl (Nat.le_of_ble_eq_true rfl) ⟨Nat.zero_le _, Nat.zero_le _⟩ dX7_tries_2 (fun H locs hw => ?_)
  refine lv_if_eq (tgt := 18) hx hb dX7_tries_5 (by decide) (fun c16 => ?_) (fun c16 => ?_)
  · replace h := if_some_t c16 h
    exact hb18 _ _ h _ _ _ hw (lv_sub hl [0] rfl)
  · replace h := if_some_f c16 h
    refine lv_iload_n hx hb dX7_tries_8 rfl (lv_at hl 2 rfl) ?_
    refine lv_iconst (v := (1 : Int32)) hx hb dX7_tries_9 (by decide) ?_
    refine lv_bipush (v := (40 : Int32)) hx hb dX7_tries_10 (by decide) ?_
    replace h := bd_some h
    obtain ⟨r17, er17, h⟩ := h
    refine r_callSi (As := [.int a2, .int (1 : Int32), .int (40 : Int32)]) (rest := []) hF (c_X7_in l D cy ad adK adV r14.1 a2 (1 : Int32) (40 : Int32) r17 er17) (gW_goodS hcm qw987 qw985 qw986 qw68) hdX7_in ⟨Nat.le_of_ble_eq_true rfl, Nat.le_of_ble_eq_true rfl⟩ rfl rfl hZ hK hw rfl hl.1 rfl (Nat.le_of_ble_eq_true rfl) ⟨Nat.zero_le _, Nat.zero_le _⟩ dX7_tries_12 (fun H locs hw => ?_)
    refine lv_if_ne (tgt := 24) hx hb dX7_tries_15 (by decide) (fun c18 => ?_) (fun c18 => ?_)
    · replace h := if_some_f c18 h
      refine lv_aload_n hx hb dX7_tries_24 rfl (lv_at hl 0 rfl) ?_
      replace h := bd_some h
      obtain ⟨q19, eq19, h⟩ := h
      refine r_getR hx hb hts iw7 hown hK hw o0 0 g15 (by decide) rfl (by decide) rfl (hq _ qw890) (fun _ h9 => h9) dX7_tries_25 eq19 ?_
      refine lv_iconst (v := (2 : Int32)) hx hb dX7_tries_28 (by decide) ?_
      replace h := gd_some h
      obtain ⟨g20, h⟩ := h
      refine r_iald hx hb hK hw q19 g20 dX7_tries_29 ?_
      refine lv_istore_n (lv' := [(3, .int (r17.1.1 q19 (2 : Int32).toNatClampNeg)), (0, .ref (ad o0)), (1, .int a1), (2, .int a2)]) hx hb dX7_tries_30 rfl hl (by decide) rfl (fun ls hl => ?_)
      refine lv_iconst (v := (0 : Int32)) hx hb dX7_tries_31 (by decide) ?_
      refine lv_istore (lv' := [(4, .int (0 : Int32)), (3, .int (r17.1.1 q19 (2 : Int32).toNatClampNeg)), (0, .ref (ad o0)), (1, .int a1), (2, .int a2)]) hx hb dX7_tries_32 hl (by decide) rfl (fun ls hl => ?_)
      refine lv_iconst (v := (0 : Int32)) hx hb dX7_tries_34 (by decide) ?_
      refine lv_istore (lv' := [(5, .int (0 : Int32)), (4, .int (0 : Int32)), (3, .int (r17.1.1 q19 (2 : Int32).toNatClampNeg)), (0, .ref (ad o0)), (1, .int a1), (2, .int a2)]) hx hb dX7_tries_35 hl (by decide) rfl (fun ls hl => ?_)
      exact hb37 1000 _ _ _ _ _ _ _ h _ _ _ hw (lv_sub hl [3, 4, 5, 2, 1, 0] rfl)
    · replace h := if_some_t c18 h
      exact hb18 _ _ h _ _ _ hw (lv_sub hl [0] rfl)
theorem dX7_seed_0 : decode cX7_seed 0 = .ok (.aload_n 0, 1) := by decide +kernel
theorem dX7_seed_1 : decode cX7_seed 1 = .ok (.getfield 7, 3) := by decide +kernel
theorem dX7_seed_4 : decode cX7_seed 4 = .ok (.iconst 4, 1) := by decide +kernel
theorem dX7_seed_5 : decode cX7_seed 5 = .ok (.iaload, 1) := by decide +kernel
theorem dX7_seed_6 : decode cX7_seed 6 = .ok (.istore_n 2, 1) := by decide +kernel
theorem dX7_seed_7 : decode cX7_seed 7 = .ok (.aload_n 0, 1) := by decide +kernel
theorem dX7_seed_8 : decode cX7_seed 8 = .ok (.getfield 7, 3) := by decide +kernel
theorem dX7_seed_11 : decode cX7_seed 11 = .ok (.iconst 4, 1) := by decide +kernel
theorem dX7_seed_12 : decode cX7_seed 12 = .ok (.iload_n 1, 1) := by decide +kernel
theorem dX7_seed_13 : decode cX7_seed 13 = .ok (.iastore, 1) := by decide +kernel
theorem dX7_seed_14 : decode cX7_seed 14 = .ok (.iload_n 2, 1) := by decide +kernel
theorem dX7_seed_15 : decode cX7_seed 15 = .ok (.ireturn, 1) := by decide +kernel
set_option maxHeartbeats 4000000 in
set_option maxRecDepth 100000 in
theorem c_X7_seed (l : Launch) (D : va_G) (cy : Nat → ClassId) (ad adK adV : Nat → Nat) (M : Mm) (o0 : Nat) (a1 : Int32) (res : Mm × Int32) (h : f_X7_seed M o0 a1 = some res) : Met l yX7_seed (wU yX7_seed cX7_seed 3 (some .int)) rmX7_seed (va_Pc [.ref (ad o0), .int a1] (Pre D cy shM ad nM adK adV M)) (va_Qi (fun r (M2 : Mm) => r = res.2 ∧ M2 = res.1) (Pre D cy shM ad nM adK adV) (Aw ad nM)) 0 0 (Aw ad nM) := by
  refine Met.ofW (cc := cX7_seed) (maxL := 3) (ret := (some .int)) (by decide) rfl ?_
  intro p e s m args below meth c s₁ B hml hv
  obtain ⟨hargs, hPre⟩ := hv
  have hx := B.exec
  have hb := B.bytes
  have hr := B.returns
  have hts := atoms_spec (ws := wU yX7_seed cX7_seed 3 (some .int)) B.pre
  have hq : ∀ w ∈ gW, w.before args s = true := fun w hw => hts w (List.mem_cons_of_mem _ hw)
  have hcm : ∀ w ∈ gW, w ∈ wU yX7_seed cX7_seed 3 (some .int) := fun w hw => List.mem_cons_of_mem _ hw
  have hown : s.vm.findClass RX7 = some m.cls := findClass_of_methodNamed B.named
  have hlocks := B.notSynchronized
  have hF : CallFix p m c cX7_seed 3 s args (wU yX7_seed cX7_seed 3 (some .int)) RX7 := ⟨hx, hb, hml, hown, hts⟩
  have hK := hPre.2.1
  have hZ := hPre.2.2.2
  have hw : Wd D cy shM ad nM (Aw ad nM) s.heap M s.heap [] := ⟨hPre.1, hPre.2.2.1, va_S.rf⟩
  have iw7 : ∀ w ∈ u_ws RX7 TX7 30, w ∈ wU yX7_seed cX7_seed 3 (some .int) := fun w hw => List.mem_cons_of_mem _ (iX7 w hw)
  rw [show entryFrame m args 3 = entryFrame m ([.ref (ad o0), .int a1] : List Value).toArray 3 from by rw [hargs]]
  have hl := lv_entry ([.ref (ad o0), .int a1]) (n := 3) (Nat.le_of_ble_eq_true rfl)
  rw [lg_entry_eq]
  generalize (lg_sl ([.ref (ad o0), .int a1]) ++ List.replicate (3 - (lg_sl ([.ref (ad o0), .int a1])).length) Slot.unset).toArray = ls at hl ⊢
  have hl : lv_has ls 3 [(0, .ref (ad o0)), (1, .int a1)] := hl
  unfold f_X7_seed at h
  refine lv_aload_n hx hb dX7_seed_0 rfl (lv_at hl 0 rfl) ?_
  replace h := gd_some h
  obtain ⟨g1, h⟩ := h
  replace h := bd_some h
  obtain ⟨q2, eq2, h⟩ := h
  refine r_getR hx hb hts iw7 hown hK hw o0 0 g1 (by decide) rfl (by decide) rfl (hq _ qw890) (fun _ h9 => h9) dX7_seed_1 eq2 ?_
  refine lv_iconst (v := (4 : Int32)) hx hb dX7_seed_4 (by decide) ?_
  replace h := gd_some h
  obtain ⟨g3, h⟩ := h
  refine r_iald hx hb hK hw q2 g3 dX7_seed_5 ?_
  refine lv_istore_n (lv' := [(2, .int (M.1 q2 (4 : Int32).toNatClampNeg)), (0, .ref (ad o0)), (1, .int a1)]) hx hb dX7_seed_6 rfl hl (by decide) rfl (fun ls hl => ?_)
  refine lv_aload_n hx hb dX7_seed_7 rfl (lv_at hl 1 rfl) ?_
  replace h := bd_some h
  obtain ⟨q4, eq4, h⟩ := h
  refine r_getR hx hb hts iw7 hown hK hw o0 0 g1 (by decide) rfl (by decide) rfl (hq _ qw890) (fun _ h9 => h9) dX7_seed_8 eq4 ?_
  refine lv_iconst (v := (4 : Int32)) hx hb dX7_seed_11 (by decide) ?_
  refine lv_iload_n hx hb dX7_seed_12 rfl (lv_at hl 2 rfl) ?_
  replace h := gd_some h
  obtain ⟨g5, h⟩ := h
  refine r_iast hx hb hK hw q4 g5 dX7_seed_13 (fun H locs hw => ?_)
  replace h := lt_some h
  obtain ⟨M6, eM6, h⟩ := h
  rw [← eM6] at hw
  refine lv_iload_n hx hb dX7_seed_14 rfl (lv_at hl 0 rfl) ?_
  exact r_iret hx hb hr rfl hlocks hZ hK hw h dX7_seed_15
theorem dX7_hold_0 : decode cX7_hold 0 = .ok (.iload_n 1, 1) := by decide +kernel
theorem dX7_hold_1 : decode cX7_hold 1 = .ok (.iconst 0, 1) := by decide +kernel
theorem dX7_hold_2 : decode cX7_hold 2 = .ok (.bipush 9, 2) := by decide +kernel
theorem dX7_hold_4 : decode cX7_hold 4 = .ok (.invokestatic 67, 3) := by decide +kernel
theorem dX7_hold_7 : decode cX7_hold 7 = .ok (.ifCond .eq 16, 3) := by decide +kernel
theorem dX7_hold_10 : decode cX7_hold 10 = .ok (.iload_n 2, 1) := by decide +kernel
theorem dX7_hold_11 : decode cX7_hold 11 = .ok (.iconst (-1), 1) := by decide +kernel
theorem dX7_hold_12 : decode cX7_hold 12 = .ok (.if_icmp .eq 17, 3) := by decide +kernel
theorem dX7_hold_15 : decode cX7_hold 15 = .ok (.aload_n 0, 1) := by decide +kernel
theorem dX7_hold_16 : decode cX7_hold 16 = .ok (.iload_n 2, 1) := by decide +kernel
theorem dX7_hold_17 : decode cX7_hold 17 = .ok (.invokevirtual 121, 3) := by decide +kernel
theorem dX7_hold_20 : decode cX7_hold 20 = .ok (.ifCond .ne 9, 3) := by decide +kernel
theorem dX7_hold_23 : decode cX7_hold 23 = .ok (.aload_n 0, 1) := by decide +kernel
theorem dX7_hold_24 : decode cX7_hold 24 = .ok (.iconst 0, 1) := by decide +kernel
theorem dX7_hold_25 : decode cX7_hold 25 = .ok (.invokevirtual 115, 3) := by decide +kernel
theorem dX7_hold_28 : decode cX7_hold 28 = .ok (.ireturn, 1) := by decide +kernel
theorem dX7_hold_29 : decode cX7_hold 29 = .ok (.aload_n 0, 1) := by decide +kernel
theorem dX7_hold_30 : decode cX7_hold 30 = .ok (.getfield 7, 3) := by decide +kernel
theorem dX7_hold_33 : decode cX7_hold 33 = .ok (.bipush 79, 2) := by decide +kernel
theorem dX7_hold_35 : decode cX7_hold 35 = .ok (.iload_n 1, 1) := by decide +kernel
theorem dX7_hold_36 : decode cX7_hold 36 = .ok (.iadd, 1) := by decide +kernel
theorem dX7_hold_37 : decode cX7_hold 37 = .ok (.iload_n 2, 1) := by decide +kernel
theorem dX7_hold_38 : decode cX7_hold 38 = .ok (.iastore, 1) := by decide +kernel
theorem dX7_hold_39 : decode cX7_hold 39 = .ok (.iconst 1, 1) := by decide +kernel
theorem dX7_hold_40 : decode cX7_hold 40 = .ok (.ireturn, 1) := by decide +kernel
set_option maxHeartbeats 4000000 in
set_option maxRecDepth 100000 in
theorem c_X7_hold (l : Launch) (D : va_G) (cy : Nat → ClassId) (ad adK adV : Nat → Nat) (M : Mm) (o0 : Nat) (a1 : Int32) (a2 : Int32) (res : Mm × Int32) (h : f_X7_hold M o0 a1 a2 = some res) : Met l yX7_hold (wU yX7_hold cX7_hold 3 (some .int)) rmX7_hold (va_Pc [.ref (ad o0), .int a1, .int a2] (Pre D cy shM ad nM adK adV M)) (va_Qi (fun r (M2 : Mm) => r = res.2 ∧ M2 = res.1) (Pre D cy shM ad nM adK adV) (Aw ad nM)) 0 0 (Aw ad nM) := by
  refine Met.ofW (cc := cX7_hold) (maxL := 3) (ret := (some .int)) (by decide) rfl ?_
  intro p e s m args below meth c s₁ B hml hv
  obtain ⟨hargs, hPre⟩ := hv
  have hx := B.exec
  have hb := B.bytes
  have hr := B.returns
  have hts := atoms_spec (ws := wU yX7_hold cX7_hold 3 (some .int)) B.pre
  have hq : ∀ w ∈ gW, w.before args s = true := fun w hw => hts w (List.mem_cons_of_mem _ hw)
  have hcm : ∀ w ∈ gW, w ∈ wU yX7_hold cX7_hold 3 (some .int) := fun w hw => List.mem_cons_of_mem _ hw
  have hown : s.vm.findClass RX7 = some m.cls := findClass_of_methodNamed B.named
  have hlocks := B.notSynchronized
  have hF : CallFix p m c cX7_hold 3 s args (wU yX7_hold cX7_hold 3 (some .int)) RX7 := ⟨hx, hb, hml, hown, hts⟩
  have hK := hPre.2.1
  have hZ := hPre.2.2.2
  have hw : Wd D cy shM ad nM (Aw ad nM) s.heap M s.heap [] := ⟨hPre.1, hPre.2.2.1, va_S.rf⟩
  have iw7 : ∀ w ∈ u_ws RX7 TX7 30, w ∈ wU yX7_hold cX7_hold 3 (some .int) := fun w hw => List.mem_cons_of_mem _ (iX7 w hw)
  rw [show entryFrame m args 3 = entryFrame m ([.ref (ad o0), .int a1, .int a2] : List Value).toArray 3 from by rw [hargs]]
  have hl := lv_entry ([.ref (ad o0), .int a1, .int a2]) (n := 3) (Nat.le_of_ble_eq_true rfl)
  rw [lg_entry_eq]
  generalize (lg_sl ([.ref (ad o0), .int a1, .int a2]) ++ List.replicate (3 - (lg_sl ([.ref (ad o0), .int a1, .int a2])).length) Slot.unset).toArray = ls at hl ⊢
  have hl : lv_has ls 3 [(0, .ref (ad o0)), (1, .int a1), (2, .int a2)] := hl
  have hb29 : ∀ (M : Mm) (x0 : Nat) (x1 : Int32) (x2 : Int32), f_X7_hold_b29 M x0 x1 x2 = some res → ∀ (H : Heap) (locs : List Loc) (ls : Array Slot), Wd D cy shM ad nM (Aw ad nM) s.heap M H locs → lv_has ls 3 [(0, .ref (ad x0)), (1, .int x1), (2, .int x2)] → W p l e (headSpec (wU yX7_hold cX7_hold 3 (some .int)) rmX7_hold).room s m args below meth c H locs 0 0 (QI D cy shM ad nM adK adV below args s res) (F0 m 29 ls []) := by
    intro M x0 x1 x2 h H locs ls hw hl
    unfold f_X7_hold_b29 at h
    refine lv_aload_n hx hb dX7_hold_29 rfl (lv_at hl 0 rfl) ?_
    replace h := gd_some h
    obtain ⟨g1, h⟩ := h
    replace h := bd_some h
    obtain ⟨q2, eq2, h⟩ := h
    refine r_getR hx hb hts iw7 hown hK hw x0 0 g1 (by decide) rfl (by decide) rfl (hq _ qw890) (fun _ h9 => h9) dX7_hold_30 eq2 ?_
    refine lv_bipush (v := (79 : Int32)) hx hb dX7_hold_33 (by decide) ?_
    refine lv_iload_n hx hb dX7_hold_35 rfl (lv_at hl 1 rfl) ?_
    refine lv_iadd hx hb dX7_hold_36 ?_
    refine lv_iload_n hx hb dX7_hold_37 rfl (lv_at hl 2 rfl) ?_
    replace h := gd_some h
    obtain ⟨g3, h⟩ := h
    refine r_iast hx hb hK hw q2 g3 dX7_hold_38 (fun H locs hw => ?_)
    replace h := lt_some h
    obtain ⟨M4, eM4, h⟩ := h
    rw [← eM4] at hw
    refine lv_iconst (v := (1 : Int32)) hx hb dX7_hold_39 (by decide) ?_
    exact r_iret hx hb hr rfl hlocks hZ hK hw h dX7_hold_40
  have hb23 : ∀ (M : Mm) (x0 : Nat), f_X7_hold_b23 M x0 = some res → ∀ (H : Heap) (locs : List Loc) (ls : Array Slot), Wd D cy shM ad nM (Aw ad nM) s.heap M H locs → lv_has ls 3 [(0, .ref (ad x0))] → W p l e (headSpec (wU yX7_hold cX7_hold 3 (some .int)) rmX7_hold).room s m args below meth c H locs 0 0 (QI D cy shM ad nM adK adV below args s res) (F0 m 23 ls []) := by
    intro M x0 h H locs ls hw hl
    unfold f_X7_hold_b23 at h
    refine lv_aload_n hx hb dX7_hold_23 rfl (lv_at hl 0 rfl) ?_
    refine lv_iconst (v := (0 : Int32)) hx hb dX7_hold_24 (by decide) ?_
    replace h := gd_some h
    obtain ⟨g6, h⟩ := h
    replace h := bd_some h
    obtain ⟨r5, er5, h⟩ := h
    refine r_callVi (As := [.int (0 : Int32)]) (rest := []) hF (c_X7_finding l D cy ad adK adV M x0 (0 : Int32) r5 er5) (gW_goodV hcm qw991 qw988 qw990 qw19 qw68) hdX7_finding rfl ⟨Nat.le_of_ble_eq_true rfl, Nat.le_of_ble_eq_true rfl⟩ rfl rfl hZ hK hw g6 (by decide) rfl rfl hl.1 rfl (Nat.le_of_ble_eq_true rfl) ⟨Nat.zero_le _, Nat.zero_le _⟩ dX7_hold_25 (fun H locs hw => ?_)
    exact r_iret hx hb hr rfl hlocks hZ hK hw h dX7_hold_28
  unfold f_X7_hold at h
  refine lv_iload_n hx hb dX7_hold_0 rfl (lv_at hl 1 rfl) ?_
  refine lv_iconst (v := (0 : Int32)) hx hb dX7_hold_1 (by decide) ?_
  refine lv_bipush (v := (9 : Int32)) hx hb dX7_hold_2 (by decide) ?_
  replace h := bd_some h
  obtain ⟨r7, er7, h⟩ := h
  refine r_callSi (As := [.int a1, .int (0 : Int32), .int (9 : Int32)]) (rest := []) hF (c_X7_in l D cy ad adK adV M a1 (0 : Int32) (9 : Int32) r7 er7) (gW_goodS hcm qw987 qw985 qw986 qw68) hdX7_in ⟨Nat.le_of_ble_eq_true rfl, Nat.le_of_ble_eq_true rfl⟩ rfl rfl hZ hK hw rfl hl.1 rfl (Nat.le_of_ble_eq_true rfl) ⟨Nat.zero_le _, Nat.zero_le _⟩ dX7_hold_4 (fun H locs hw => ?_)
  refine lv_if_eq (tgt := 23) hx hb dX7_hold_7 (by decide) (fun c8 => ?_) (fun c8 => ?_)
  · replace h := if_some_t c8 h
    exact hb23 _ _ h _ _ _ hw (lv_sub hl [0] rfl)
  · replace h := if_some_f c8 h
    refine lv_iload_n hx hb dX7_hold_10 rfl (lv_at hl 2 rfl) ?_
    refine lv_iconst (v := (-1 : Int32)) hx hb dX7_hold_11 (by decide) ?_
    refine lv_icmp_eq (tgt := 29) hx hb dX7_hold_12 (by decide) (fun c9 => ?_) (fun c9 => ?_)
    · replace h := if_some_t c9 h
      exact hb29 _ _ _ _ h _ _ _ hw (lv_sub hl [0, 1, 2] rfl)
    · replace h := if_some_f c9 h
      refine lv_aload_n hx hb dX7_hold_15 rfl (lv_at hl 0 rfl) ?_
      refine lv_iload_n hx hb dX7_hold_16 rfl (lv_at hl 2 rfl) ?_
      replace h := gd_some h
      obtain ⟨g11, h⟩ := h
      replace h := bd_some h
      obtain ⟨r10, er10, h⟩ := h
      refine r_callVi (As := [.int a2]) (rest := []) hF (c_X7_isSide l D cy ad adK adV r7.1 o0 a2 r10 er10) (gW_goodV hcm qw1004 qw1001 qw1003 qw21 qw68) hdX7_isSide rfl ⟨Nat.le_of_ble_eq_true rfl, Nat.le_of_ble_eq_true rfl⟩ rfl rfl hZ hK hw g11 (by decide) rfl rfl hl.1 rfl (Nat.le_of_ble_eq_true rfl) ⟨Nat.zero_le _, Nat.zero_le _⟩ dX7_hold_17 (fun H locs hw => ?_)
      refine lv_if_ne (tgt := 29) hx hb dX7_hold_20 (by decide) (fun c12 => ?_) (fun c12 => ?_)
      · replace h := if_some_f c12 h
        exact hb29 _ _ _ _ h _ _ _ hw (lv_sub hl [0, 1, 2] rfl)
      · replace h := if_some_t c12 h
        exact hb23 _ _ h _ _ _ hw (lv_sub hl [0] rfl)
theorem dX7_isUnder_0 : decode cX7_isUnder 0 = .ok (.iload_n 1, 1) := by decide +kernel
theorem dX7_isUnder_1 : decode cX7_isUnder 1 = .ok (.ifCond .eq 33, 3) := by decide +kernel
theorem dX7_isUnder_4 : decode cX7_isUnder 4 = .ok (.iload_n 0, 1) := by decide +kernel
theorem dX7_isUnder_5 : decode cX7_isUnder 5 = .ok (.iload_n 1, 1) := by decide +kernel
theorem dX7_isUnder_6 : decode cX7_isUnder 6 = .ok (.if_icmp .eq 28, 3) := by decide +kernel
theorem dX7_isUnder_9 : decode cX7_isUnder 9 = .ok (.iload_n 1, 1) := by decide +kernel
theorem dX7_isUnder_10 : decode cX7_isUnder 10 = .ok (.iconst 2, 1) := by decide +kernel
theorem dX7_isUnder_11 : decode cX7_isUnder 11 = .ok (.if_icmp .ne 13, 3) := by decide +kernel
theorem dX7_isUnder_14 : decode cX7_isUnder 14 = .ok (.iload_n 0, 1) := by decide +kernel
theorem dX7_isUnder_15 : decode cX7_isUnder 15 = .ok (.iconst 3, 1) := by decide +kernel
theorem dX7_isUnder_16 : decode cX7_isUnder 16 = .ok (.if_icmp .eq 18, 3) := by decide +kernel
theorem dX7_isUnder_19 : decode cX7_isUnder 19 = .ok (.iload_n 0, 1) := by decide +kernel
theorem dX7_isUnder_20 : decode cX7_isUnder 20 = .ok (.iconst 4, 1) := by decide +kernel
theorem dX7_isUnder_21 : decode cX7_isUnder 21 = .ok (.if_icmp .eq 13, 3) := by decide +kernel
theorem dX7_isUnder_24 : decode cX7_isUnder 24 = .ok (.iload_n 1, 1) := by decide +kernel
theorem dX7_isUnder_25 : decode cX7_isUnder 25 = .ok (.iconst 1, 1) := by decide +kernel
theorem dX7_isUnder_26 : decode cX7_isUnder 26 = .ok (.if_icmp .ne 12, 3) := by decide +kernel
theorem dX7_isUnder_29 : decode cX7_isUnder 29 = .ok (.iload_n 0, 1) := by decide +kernel
theorem dX7_isUnder_30 : decode cX7_isUnder 30 = .ok (.iconst 5, 1) := by decide +kernel
theorem dX7_isUnder_31 : decode cX7_isUnder 31 = .ok (.if_icmp .ne 7, 3) := by decide +kernel
theorem dX7_isUnder_34 : decode cX7_isUnder 34 = .ok (.iconst 1, 1) := by decide +kernel
theorem dX7_isUnder_35 : decode cX7_isUnder 35 = .ok (.goto 4, 3) := by decide +kernel
theorem dX7_isUnder_38 : decode cX7_isUnder 38 = .ok (.iconst 0, 1) := by decide +kernel
theorem dX7_isUnder_39 : decode cX7_isUnder 39 = .ok (.ireturn, 1) := by decide +kernel
set_option maxHeartbeats 4000000 in
set_option maxRecDepth 100000 in
theorem c_X7_isUnder (l : Launch) (D : va_G) (cy : Nat → ClassId) (ad adK adV : Nat → Nat) (M : Mm) (a0 : Int32) (a1 : Int32) (res : Mm × Int32) (h : f_X7_isUnder M a0 a1 = some res) : Met l yX7_isUnder (wU yX7_isUnder cX7_isUnder 2 (some .boolean)) rmX7_isUnder (va_Pc [.int a0, .int a1] (Pre D cy shM ad nM adK adV M)) (va_Qi (fun r (M2 : Mm) => r = res.2 ∧ M2 = res.1) (Pre D cy shM ad nM adK adV) (Aw ad nM)) 0 0 (Aw ad nM) := by
  refine Met.ofW (cc := cX7_isUnder) (maxL := 2) (ret := (some .boolean)) (by decide) rfl ?_
  intro p e s m args below meth c s₁ B hml hv
  obtain ⟨hargs, hPre⟩ := hv
  have hx := B.exec
  have hb := B.bytes
  have hr := B.returns
  have hts := atoms_spec (ws := wU yX7_isUnder cX7_isUnder 2 (some .boolean)) B.pre
  have hq : ∀ w ∈ gW, w.before args s = true := fun w hw => hts w (List.mem_cons_of_mem _ hw)
  have hcm : ∀ w ∈ gW, w ∈ wU yX7_isUnder cX7_isUnder 2 (some .boolean) := fun w hw => List.mem_cons_of_mem _ hw
  have hown : s.vm.findClass RX7 = some m.cls := findClass_of_methodNamed B.named
  have hlocks := B.notSynchronized
  have hF : CallFix p m c cX7_isUnder 2 s args (wU yX7_isUnder cX7_isUnder 2 (some .boolean)) RX7 := ⟨hx, hb, hml, hown, hts⟩
  have hK := hPre.2.1
  have hZ := hPre.2.2.2
  have hw : Wd D cy shM ad nM (Aw ad nM) s.heap M s.heap [] := ⟨hPre.1, hPre.2.2.1, va_S.rf⟩
  rw [show entryFrame m args 2 = entryFrame m ([.int a0, .int a1] : List Value).toArray 2 from by rw [hargs]]
  have hl := lv_entry ([.int a0, .int a1]) (n := 2) (Nat.le_of_ble_eq_true rfl)
  rw [lg_entry_eq]
  generalize (lg_sl ([.int a0, .int a1]) ++ List.replicate (2 - (lg_sl ([.int a0, .int a1])).length) Slot.unset).toArray = ls at hl ⊢
  have hl : lv_has ls 2 [(0, .int a0), (1, .int a1)] := hl
  have hb34 : ∀ (M : Mm) , f_X7_isUnder_b34 M  = some res → ∀ (H : Heap) (locs : List Loc) (ls : Array Slot), Wd D cy shM ad nM (Aw ad nM) s.heap M H locs → lv_has ls 2 [] → W p l e (headSpec (wU yX7_isUnder cX7_isUnder 2 (some .boolean)) rmX7_isUnder).room s m args below meth c H locs 0 0 (QI D cy shM ad nM adK adV below args s res) (F0 m 34 ls []) := by
    intro M h H locs ls hw hl
    unfold f_X7_isUnder_b34 at h
    refine lv_iconst (v := (1 : Int32)) hx hb dX7_isUnder_34 (by decide) ?_
    refine lv_goto (tgt := 39) hx hb dX7_isUnder_35 (by decide) ?_
    exact r_iret hx hb hr rfl hlocks hZ hK hw h dX7_isUnder_39
  have hb24 : ∀ (M : Mm) (x0 : Int32) (x1 : Int32), f_X7_isUnder_b24 M x0 x1 = some res → ∀ (H : Heap) (locs : List Loc) (ls : Array Slot), Wd D cy shM ad nM (Aw ad nM) s.heap M H locs → lv_has ls 2 [(0, .int x0), (1, .int x1)] → W p l e (headSpec (wU yX7_isUnder cX7_isUnder 2 (some .boolean)) rmX7_isUnder).room s m args below meth c H locs 0 0 (QI D cy shM ad nM adK adV below args s res) (F0 m 24 ls []) := by
    intro M x0 x1 h H locs ls hw hl
    unfold f_X7_isUnder_b24 at h
    refine lv_iload_n hx hb dX7_isUnder_24 rfl (lv_at hl 1 rfl) ?_
    refine lv_iconst (v := (1 : Int32)) hx hb dX7_isUnder_25 (by decide) ?_
    refine lv_icmp_ne (tgt := 38) hx hb dX7_isUnder_26 (by decide) (fun c1 => ?_) (fun c1 => ?_)
    · replace h := if_some_f c1 h
      refine lv_iconst (v := (0 : Int32)) hx hb dX7_isUnder_38 (by decide) ?_
      exact r_iret hx hb hr rfl hlocks hZ hK hw h dX7_isUnder_39
    · replace h := if_some_t c1 h
      refine lv_iload_n hx hb dX7_isUnder_29 rfl (lv_at hl 0 rfl) ?_
      refine lv_iconst (v := (5 : Int32)) hx hb dX7_isUnder_30 (by decide) ?_
      refine lv_icmp_ne (tgt := 38) hx hb dX7_isUnder_31 (by decide) (fun c2 => ?_) (fun c2 => ?_)
      · replace h := if_some_f c2 h
        refine lv_iconst (v := (0 : Int32)) hx hb dX7_isUnder_38 (by decide) ?_
        exact r_iret hx hb hr rfl hlocks hZ hK hw h dX7_isUnder_39
      · replace h := if_some_t c2 h
        exact hb34 _ h _ _ _ hw (lv_sub hl [] rfl)
  unfold f_X7_isUnder at h
  refine lv_iload_n hx hb dX7_isUnder_0 rfl (lv_at hl 1 rfl) ?_
  refine lv_if_eq (tgt := 34) hx hb dX7_isUnder_1 (by decide) (fun c3 => ?_) (fun c3 => ?_)
  · replace h := if_some_t c3 h
    exact hb34 _ h _ _ _ hw (lv_sub hl [] rfl)
  · replace h := if_some_f c3 h
    refine lv_iload_n hx hb dX7_isUnder_4 rfl (lv_at hl 0 rfl) ?_
    refine lv_iload_n hx hb dX7_isUnder_5 rfl (lv_at hl 1 rfl) ?_
    refine lv_icmp_eq (tgt := 34) hx hb dX7_isUnder_6 (by decide) (fun c4 => ?_) (fun c4 => ?_)
    · replace h := if_some_t c4 h
      exact hb34 _ h _ _ _ hw (lv_sub hl [] rfl)
    · replace h := if_some_f c4 h
      refine lv_iload_n hx hb dX7_isUnder_9 rfl (lv_at hl 1 rfl) ?_
      refine lv_iconst (v := (2 : Int32)) hx hb dX7_isUnder_10 (by decide) ?_
      refine lv_icmp_ne (tgt := 24) hx hb dX7_isUnder_11 (by decide) (fun c5 => ?_) (fun c5 => ?_)
      · replace h := if_some_f c5 h
        exact hb24 _ _ _ h _ _ _ hw (lv_sub hl [0, 1] rfl)
      · replace h := if_some_t c5 h
        refine lv_iload_n hx hb dX7_isUnder_14 rfl (lv_at hl 0 rfl) ?_
        refine lv_iconst (v := (3 : Int32)) hx hb dX7_isUnder_15 (by decide) ?_
        refine lv_icmp_eq (tgt := 34) hx hb dX7_isUnder_16 (by decide) (fun c6 => ?_) (fun c6 => ?_)
        · replace h := if_some_t c6 h
          exact hb34 _ h _ _ _ hw (lv_sub hl [] rfl)
        · replace h := if_some_f c6 h
          refine lv_iload_n hx hb dX7_isUnder_19 rfl (lv_at hl 0 rfl) ?_
          refine lv_iconst (v := (4 : Int32)) hx hb dX7_isUnder_20 (by decide) ?_
          refine lv_icmp_eq (tgt := 34) hx hb dX7_isUnder_21 (by decide) (fun c7 => ?_) (fun c7 => ?_)
          · replace h := if_some_t c7 h
            exact hb34 _ h _ _ _ hw (lv_sub hl [] rfl)
          · replace h := if_some_f c7 h
            exact hb24 _ _ _ h _ _ _ hw (lv_sub hl [0, 1] rfl)
theorem dX7_as_0 : decode cX7_as 0 = .ok (.iload_n 1, 1) := by decide +kernel
theorem dX7_as_1 : decode cX7_as 1 = .ok (.iconst 0, 1) := by decide +kernel
theorem dX7_as_2 : decode cX7_as 2 = .ok (.bipush 9, 2) := by decide +kernel
theorem dX7_as_4 : decode cX7_as 4 = .ok (.invokestatic 67, 3) := by decide +kernel
theorem dX7_as_7 : decode cX7_as 7 = .ok (.ifCond .eq 13, 3) := by decide +kernel
theorem dX7_as_10 : decode cX7_as 10 = .ok (.iload_n 2, 1) := by decide +kernel
theorem dX7_as_11 : decode cX7_as 11 = .ok (.iconst 0, 1) := by decide +kernel
theorem dX7_as_12 : decode cX7_as 12 = .ok (.bipush 6, 2) := by decide +kernel
theorem dX7_as_14 : decode cX7_as 14 = .ok (.invokestatic 67, 3) := by decide +kernel
theorem dX7_as_17 : decode cX7_as 17 = .ok (.ifCond .ne 9, 3) := by decide +kernel
theorem dX7_as_20 : decode cX7_as 20 = .ok (.aload_n 0, 1) := by decide +kernel
theorem dX7_as_21 : decode cX7_as 21 = .ok (.iconst 0, 1) := by decide +kernel
theorem dX7_as_22 : decode cX7_as 22 = .ok (.invokevirtual 115, 3) := by decide +kernel
theorem dX7_as_25 : decode cX7_as 25 = .ok (.ireturn, 1) := by decide +kernel
theorem dX7_as_26 : decode cX7_as 26 = .ok (.aload_n 0, 1) := by decide +kernel
theorem dX7_as_27 : decode cX7_as 27 = .ok (.getfield 7, 3) := by decide +kernel
theorem dX7_as_30 : decode cX7_as 30 = .ok (.bipush 79, 2) := by decide +kernel
theorem dX7_as_32 : decode cX7_as 32 = .ok (.iload_n 1, 1) := by decide +kernel
theorem dX7_as_33 : decode cX7_as 33 = .ok (.iadd, 1) := by decide +kernel
theorem dX7_as_34 : decode cX7_as 34 = .ok (.iaload, 1) := by decide +kernel
theorem dX7_as_35 : decode cX7_as 35 = .ok (.istore_n 3, 1) := by decide +kernel
theorem dX7_as_36 : decode cX7_as 36 = .ok (.iload_n 3, 1) := by decide +kernel
theorem dX7_as_37 : decode cX7_as 37 = .ok (.iconst (-1), 1) := by decide +kernel
theorem dX7_as_38 : decode cX7_as 38 = .ok (.if_icmp .ne 9, 3) := by decide +kernel
theorem dX7_as_41 : decode cX7_as 41 = .ok (.aload_n 0, 1) := by decide +kernel
theorem dX7_as_42 : decode cX7_as 42 = .ok (.iconst 5, 1) := by decide +kernel
theorem dX7_as_43 : decode cX7_as 43 = .ok (.invokevirtual 115, 3) := by decide +kernel
theorem dX7_as_46 : decode cX7_as 46 = .ok (.ireturn, 1) := by decide +kernel
theorem dX7_as_47 : decode cX7_as 47 = .ok (.aload_n 0, 1) := by decide +kernel
theorem dX7_as_48 : decode cX7_as 48 = .ok (.iload_n 3, 1) := by decide +kernel
theorem dX7_as_49 : decode cX7_as 49 = .ok (.iconst 0, 1) := by decide +kernel
theorem dX7_as_50 : decode cX7_as 50 = .ok (.invokevirtual 89, 3) := by decide +kernel
theorem dX7_as_53 : decode cX7_as 53 = .ok (.iload_n 2, 1) := by decide +kernel
theorem dX7_as_54 : decode cX7_as 54 = .ok (.invokestatic 284, 3) := by decide +kernel
theorem dX7_as_57 : decode cX7_as 57 = .ok (.ifCond .eq 7, 3) := by decide +kernel
theorem dX7_as_60 : decode cX7_as 60 = .ok (.iload_n 3, 1) := by decide +kernel
theorem dX7_as_61 : decode cX7_as 61 = .ok (.goto 8, 3) := by decide +kernel
theorem dX7_as_64 : decode cX7_as 64 = .ok (.aload_n 0, 1) := by decide +kernel
theorem dX7_as_65 : decode cX7_as 65 = .ok (.iconst 2, 1) := by decide +kernel
theorem dX7_as_66 : decode cX7_as 66 = .ok (.invokevirtual 115, 3) := by decide +kernel
theorem dX7_as_69 : decode cX7_as 69 = .ok (.ireturn, 1) := by decide +kernel
set_option maxHeartbeats 4000000 in
set_option maxRecDepth 100000 in
theorem c_X7_as (l : Launch) (D : va_G) (cy : Nat → ClassId) (ad adK adV : Nat → Nat) (M : Mm) (o0 : Nat) (a1 : Int32) (a2 : Int32) (res : Mm × Int32) (h : f_X7_as M o0 a1 a2 = some res) : Met l yX7_as (wU yX7_as cX7_as 4 (some .int)) rmX7_as (va_Pc [.ref (ad o0), .int a1, .int a2] (Pre D cy shM ad nM adK adV M)) (va_Qi (fun r (M2 : Mm) => r = res.2 ∧ M2 = res.1) (Pre D cy shM ad nM adK adV) (Aw ad nM)) 0 0 (Aw ad nM) := by
  refine Met.ofW (cc := cX7_as) (maxL := 4) (ret := (some .int)) (by decide) rfl ?_
  intro p e s m args below meth c s₁ B hml hv
  obtain ⟨hargs, hPre⟩ := hv
  have hx := B.exec
  have hb := B.bytes
  have hr := B.returns
  have hts := atoms_spec (ws := wU yX7_as cX7_as 4 (some .int)) B.pre
  have hq : ∀ w ∈ gW, w.before args s = true := fun w hw => hts w (List.mem_cons_of_mem _ hw)
  have hcm : ∀ w ∈ gW, w ∈ wU yX7_as cX7_as 4 (some .int) := fun w hw => List.mem_cons_of_mem _ hw
  have hown : s.vm.findClass RX7 = some m.cls := findClass_of_methodNamed B.named
  have hlocks := B.notSynchronized
  have hF : CallFix p m c cX7_as 4 s args (wU yX7_as cX7_as 4 (some .int)) RX7 := ⟨hx, hb, hml, hown, hts⟩
  have hK := hPre.2.1
  have hZ := hPre.2.2.2
  have hw : Wd D cy shM ad nM (Aw ad nM) s.heap M s.heap [] := ⟨hPre.1, hPre.2.2.1, va_S.rf⟩
  have iw7 : ∀ w ∈ u_ws RX7 TX7 30, w ∈ wU yX7_as cX7_as 4 (some .int) := fun w hw => List.mem_cons_of_mem _ (iX7 w hw)
  rw [show entryFrame m args 4 = entryFrame m ([.ref (ad o0), .int a1, .int a2] : List Value).toArray 4 from by rw [hargs]]
  have hl := lv_entry ([.ref (ad o0), .int a1, .int a2]) (n := 4) (Nat.le_of_ble_eq_true rfl)
  rw [lg_entry_eq]
  generalize (lg_sl ([.ref (ad o0), .int a1, .int a2]) ++ List.replicate (4 - (lg_sl ([.ref (ad o0), .int a1, .int a2])).length) Slot.unset).toArray = ls at hl ⊢
  have hl : lv_has ls 4 [(0, .ref (ad o0)), (1, .int a1), (2, .int a2)] := hl
  have hb20 : ∀ (M : Mm) (x0 : Nat), f_X7_as_b20 M x0 = some res → ∀ (H : Heap) (locs : List Loc) (ls : Array Slot), Wd D cy shM ad nM (Aw ad nM) s.heap M H locs → lv_has ls 4 [(0, .ref (ad x0))] → W p l e (headSpec (wU yX7_as cX7_as 4 (some .int)) rmX7_as).room s m args below meth c H locs 0 0 (QI D cy shM ad nM adK adV below args s res) (F0 m 20 ls []) := by
    intro M x0 h H locs ls hw hl
    unfold f_X7_as_b20 at h
    refine lv_aload_n hx hb dX7_as_20 rfl (lv_at hl 0 rfl) ?_
    refine lv_iconst (v := (0 : Int32)) hx hb dX7_as_21 (by decide) ?_
    replace h := gd_some h
    obtain ⟨g2, h⟩ := h
    replace h := bd_some h
    obtain ⟨r1, er1, h⟩ := h
    refine r_callVi (As := [.int (0 : Int32)]) (rest := []) hF (c_X7_finding l D cy ad adK adV M x0 (0 : Int32) r1 er1) (gW_goodV hcm qw991 qw988 qw990 qw19 qw68) hdX7_finding rfl ⟨Nat.le_of_ble_eq_true rfl, Nat.le_of_ble_eq_true rfl⟩ rfl rfl hZ hK hw g2 (by decide) rfl rfl hl.1 rfl (Nat.le_of_ble_eq_true rfl) ⟨Nat.zero_le _, Nat.zero_le _⟩ dX7_as_22 (fun H locs hw => ?_)
    exact r_iret hx hb hr rfl hlocks hZ hK hw h dX7_as_25
  unfold f_X7_as at h
  refine lv_iload_n hx hb dX7_as_0 rfl (lv_at hl 1 rfl) ?_
  refine lv_iconst (v := (0 : Int32)) hx hb dX7_as_1 (by decide) ?_
  refine lv_bipush (v := (9 : Int32)) hx hb dX7_as_2 (by decide) ?_
  replace h := bd_some h
  obtain ⟨r3, er3, h⟩ := h
  refine r_callSi (As := [.int a1, .int (0 : Int32), .int (9 : Int32)]) (rest := []) hF (c_X7_in l D cy ad adK adV M a1 (0 : Int32) (9 : Int32) r3 er3) (gW_goodS hcm qw987 qw985 qw986 qw68) hdX7_in ⟨Nat.le_of_ble_eq_true rfl, Nat.le_of_ble_eq_true rfl⟩ rfl rfl hZ hK hw rfl hl.1 rfl (Nat.le_of_ble_eq_true rfl) ⟨Nat.zero_le _, Nat.zero_le _⟩ dX7_as_4 (fun H locs hw => ?_)
  refine lv_if_eq (tgt := 20) hx hb dX7_as_7 (by decide) (fun c4 => ?_) (fun c4 => ?_)
  · replace h := if_some_t c4 h
    exact hb20 _ _ h _ _ _ hw (lv_sub hl [0] rfl)
  · replace h := if_some_f c4 h
    refine lv_iload_n hx hb dX7_as_10 rfl (lv_at hl 2 rfl) ?_
    refine lv_iconst (v := (0 : Int32)) hx hb dX7_as_11 (by decide) ?_
    refine lv_bipush (v := (6 : Int32)) hx hb dX7_as_12 (by decide) ?_
    replace h := bd_some h
    obtain ⟨r5, er5, h⟩ := h
    refine r_callSi (As := [.int a2, .int (0 : Int32), .int (6 : Int32)]) (rest := []) hF (c_X7_in l D cy ad adK adV r3.1 a2 (0 : Int32) (6 : Int32) r5 er5) (gW_goodS hcm qw987 qw985 qw986 qw68) hdX7_in ⟨Nat.le_of_ble_eq_true rfl, Nat.le_of_ble_eq_true rfl⟩ rfl rfl hZ hK hw rfl hl.1 rfl (Nat.le_of_ble_eq_true rfl) ⟨Nat.zero_le _, Nat.zero_le _⟩ dX7_as_14 (fun H locs hw => ?_)
    refine lv_if_ne (tgt := 26) hx hb dX7_as_17 (by decide) (fun c6 => ?_) (fun c6 => ?_)
    · replace h := if_some_f c6 h
      refine lv_aload_n hx hb dX7_as_26 rfl (lv_at hl 0 rfl) ?_
      replace h := gd_some h
      obtain ⟨g7, h⟩ := h
      replace h := bd_some h
      obtain ⟨q8, eq8, h⟩ := h
      refine r_getR hx hb hts iw7 hown hK hw o0 0 g7 (by decide) rfl (by decide) rfl (hq _ qw890) (fun _ h9 => h9) dX7_as_27 eq8 ?_
      refine lv_bipush (v := (79 : Int32)) hx hb dX7_as_30 (by decide) ?_
      refine lv_iload_n hx hb dX7_as_32 rfl (lv_at hl 1 rfl) ?_
      refine lv_iadd hx hb dX7_as_33 ?_
      replace h := gd_some h
      obtain ⟨g9, h⟩ := h
      refine r_iald hx hb hK hw q8 g9 dX7_as_34 ?_
      refine lv_topi (fun y10 ey10 => ?_)
      replace h := lt_at ey10 h
      refine lv_istore_n (lv' := [(3, .int y10), (0, .ref (ad o0)), (1, .int a1), (2, .int a2)]) hx hb dX7_as_35 rfl hl (by decide) rfl (fun ls hl => ?_)
      refine lv_iload_n hx hb dX7_as_36 rfl (lv_at hl 0 rfl) ?_
      refine lv_iconst (v := (-1 : Int32)) hx hb dX7_as_37 (by decide) ?_
      refine lv_icmp_ne (tgt := 47) hx hb dX7_as_38 (by decide) (fun c11 => ?_) (fun c11 => ?_)
      · replace h := if_some_f c11 h
        refine lv_aload_n hx hb dX7_as_47 rfl (lv_at hl 1 rfl) ?_
        refine lv_iload_n hx hb dX7_as_48 rfl (lv_at hl 0 rfl) ?_
        refine lv_iconst (v := (0 : Int32)) hx hb dX7_as_49 (by decide) ?_
        replace h := bd_some h
        obtain ⟨r12, er12, h⟩ := h
        refine r_callVi (As := [.int y10, .int (0 : Int32)]) (rest := []) hF (c_X7_its l D cy ad adK adV r5.1 o0 y10 (0 : Int32) r12 er12) (gW_goodV hcm qw1032 qw1029 qw1031 qw28 qw68) hdX7_its rfl ⟨Nat.le_of_ble_eq_true rfl, Nat.le_of_ble_eq_true rfl⟩ rfl rfl hZ hK hw g7 (by decide) rfl rfl hl.1 rfl (Nat.le_of_ble_eq_true rfl) ⟨Nat.zero_le _, Nat.zero_le _⟩ dX7_as_50 (fun H locs hw => ?_)
        refine lv_iload_n hx hb dX7_as_53 rfl (lv_at hl 3 rfl) ?_
        replace h := bd_some h
        obtain ⟨r13, er13, h⟩ := h
        refine r_callSi (As := [.int r12.2, .int a2]) (rest := []) hF (c_X7_isUnder l D cy ad adK adV r12.1 r12.2 a2 r13 er13) (gW_goodS hcm qw1307 qw1305 qw1306 qw68) hdX7_isUnder ⟨Nat.le_of_ble_eq_true rfl, Nat.le_of_ble_eq_true rfl⟩ rfl rfl hZ hK hw rfl hl.1 rfl (Nat.le_of_ble_eq_true rfl) ⟨Nat.zero_le _, Nat.zero_le _⟩ dX7_as_54 (fun H locs hw => ?_)
        refine lv_if_eq (tgt := 64) hx hb dX7_as_57 (by decide) (fun c14 => ?_) (fun c14 => ?_)
        · replace h := if_some_t c14 h
          refine lv_aload_n hx hb dX7_as_64 rfl (lv_at hl 1 rfl) ?_
          refine lv_iconst (v := (2 : Int32)) hx hb dX7_as_65 (by decide) ?_
          replace h := bd_some h
          obtain ⟨r15, er15, h⟩ := h
          refine r_callVi (As := [.int (2 : Int32)]) (rest := []) hF (c_X7_finding l D cy ad adK adV r13.1 o0 (2 : Int32) r15 er15) (gW_goodV hcm qw991 qw988 qw990 qw19 qw68) hdX7_finding rfl ⟨Nat.le_of_ble_eq_true rfl, Nat.le_of_ble_eq_true rfl⟩ rfl rfl hZ hK hw g7 (by decide) rfl rfl hl.1 rfl (Nat.le_of_ble_eq_true rfl) ⟨Nat.zero_le _, Nat.zero_le _⟩ dX7_as_66 (fun H locs hw => ?_)
          exact r_iret hx hb hr rfl hlocks hZ hK hw h dX7_as_69
        · replace h := if_some_f c14 h
          refine lv_iload_n hx hb dX7_as_60 rfl (lv_at hl 0 rfl) ?_
          refine lv_goto (tgt := 69) hx hb dX7_as_61 (by decide) ?_
          exact r_iret hx hb hr rfl hlocks hZ hK hw h dX7_as_69
      · replace h := if_some_t c11 h
        refine lv_aload_n hx hb dX7_as_41 rfl (lv_at hl 1 rfl) ?_
        refine lv_iconst (v := (5 : Int32)) hx hb dX7_as_42 (by decide) ?_
        replace h := bd_some h
        obtain ⟨r16, er16, h⟩ := h
        refine r_callVi (As := [.int (5 : Int32)]) (rest := []) hF (c_X7_finding l D cy ad adK adV r5.1 o0 (5 : Int32) r16 er16) (gW_goodV hcm qw991 qw988 qw990 qw19 qw68) hdX7_finding rfl ⟨Nat.le_of_ble_eq_true rfl, Nat.le_of_ble_eq_true rfl⟩ rfl rfl hZ hK hw g7 (by decide) rfl rfl hl.1 rfl (Nat.le_of_ble_eq_true rfl) ⟨Nat.zero_le _, Nat.zero_le _⟩ dX7_as_43 (fun H locs hw => ?_)
        exact r_iret hx hb hr rfl hlocks hZ hK hw h dX7_as_46
    · replace h := if_some_t c6 h
      exact hb20 _ _ h _ _ _ hw (lv_sub hl [0] rfl)
theorem dX7_isSheet_0 : decode cX7_isSheet 0 = .ok (.iload_n 0, 1) := by decide +kernel
theorem dX7_isSheet_1 : decode cX7_isSheet 1 = .ok (.iconst 0, 1) := by decide +kernel
theorem dX7_isSheet_2 : decode cX7_isSheet 2 = .ok (.iconst 3, 1) := by decide +kernel
theorem dX7_isSheet_3 : decode cX7_isSheet 3 = .ok (.invokestatic 67, 3) := by decide +kernel
theorem dX7_isSheet_6 : decode cX7_isSheet 6 = .ok (.ireturn, 1) := by decide +kernel
set_option maxHeartbeats 4000000 in
set_option maxRecDepth 100000 in
theorem c_X7_isSheet (l : Launch) (D : va_G) (cy : Nat → ClassId) (ad adK adV : Nat → Nat) (M : Mm) (a0 : Int32) (res : Mm × Int32) (h : f_X7_isSheet M a0 = some res) : Met l yX7_isSheet (wU yX7_isSheet cX7_isSheet 1 (some .boolean)) rmX7_isSheet (va_Pc [.int a0] (Pre D cy shM ad nM adK adV M)) (va_Qi (fun r (M2 : Mm) => r = res.2 ∧ M2 = res.1) (Pre D cy shM ad nM adK adV) (Aw ad nM)) 0 0 (Aw ad nM) := by
  refine Met.ofW (cc := cX7_isSheet) (maxL := 1) (ret := (some .boolean)) (by decide) rfl ?_
  intro p e s m args below meth c s₁ B hml hv
  obtain ⟨hargs, hPre⟩ := hv
  have hx := B.exec
  have hb := B.bytes
  have hr := B.returns
  have hts := atoms_spec (ws := wU yX7_isSheet cX7_isSheet 1 (some .boolean)) B.pre
  have hq : ∀ w ∈ gW, w.before args s = true := fun w hw => hts w (List.mem_cons_of_mem _ hw)
  have hcm : ∀ w ∈ gW, w ∈ wU yX7_isSheet cX7_isSheet 1 (some .boolean) := fun w hw => List.mem_cons_of_mem _ hw
  have hown : s.vm.findClass RX7 = some m.cls := findClass_of_methodNamed B.named
  have hlocks := B.notSynchronized
  have hF : CallFix p m c cX7_isSheet 1 s args (wU yX7_isSheet cX7_isSheet 1 (some .boolean)) RX7 := ⟨hx, hb, hml, hown, hts⟩
  have hK := hPre.2.1
  have hZ := hPre.2.2.2
  have hw : Wd D cy shM ad nM (Aw ad nM) s.heap M s.heap [] := ⟨hPre.1, hPre.2.2.1, va_S.rf⟩
  rw [show entryFrame m args 1 = entryFrame m ([.int a0] : List Value).toArray 1 from by rw [hargs]]
  have hl := lv_entry ([.int a0]) (n := 1) (Nat.le_of_ble_eq_true rfl)
  rw [lg_entry_eq]
  generalize (lg_sl ([.int a0]) ++ List.replicate (1 - (lg_sl ([.int a0])).length) Slot.unset).toArray = ls at hl ⊢
  have hl : lv_has ls 1 [(0, .int a0)] := hl
  unfold f_X7_isSheet at h
  refine lv_iload_n hx hb dX7_isSheet_0 rfl (lv_at hl 0 rfl) ?_
  refine lv_iconst (v := (0 : Int32)) hx hb dX7_isSheet_1 (by decide) ?_
  refine lv_iconst (v := (3 : Int32)) hx hb dX7_isSheet_2 (by decide) ?_
  replace h := bd_some h
  obtain ⟨r1, er1, h⟩ := h
  refine r_callSi (As := [.int a0, .int (0 : Int32), .int (3 : Int32)]) (rest := []) hF (c_X7_in l D cy ad adK adV M a0 (0 : Int32) (3 : Int32) r1 er1) (gW_goodS hcm qw987 qw985 qw986 qw68) hdX7_in ⟨Nat.le_of_ble_eq_true rfl, Nat.le_of_ble_eq_true rfl⟩ rfl rfl hZ hK hw rfl hl.1 rfl (Nat.le_of_ble_eq_true rfl) ⟨Nat.zero_le _, Nat.zero_le _⟩ dX7_isSheet_3 (fun H locs hw => ?_)
  replace h := gd_some h
  obtain ⟨z2, h⟩ := h
  exact r_iret hx hb hr (nar_bz z2) hlocks hZ hK hw h dX7_isSheet_6
theorem dX7_sheet_0 : decode cX7_sheet 0 = .ok (.iload_n 1, 1) := by decide +kernel
theorem dX7_sheet_1 : decode cX7_sheet 1 = .ok (.invokestatic 287, 3) := by decide +kernel
theorem dX7_sheet_4 : decode cX7_sheet 4 = .ok (.ifCond .eq 25, 3) := by decide +kernel
theorem dX7_sheet_7 : decode cX7_sheet 7 = .ok (.iload_n 2, 1) := by decide +kernel
theorem dX7_sheet_8 : decode cX7_sheet 8 = .ok (.ifCond .eq 27, 3) := by decide +kernel
theorem dX7_sheet_11 : decode cX7_sheet 11 = .ok (.iload_n 2, 1) := by decide +kernel
theorem dX7_sheet_12 : decode cX7_sheet 12 = .ok (.bipush 8, 2) := by decide +kernel
theorem dX7_sheet_14 : decode cX7_sheet 14 = .ok (.if_icmp .eq 21, 3) := by decide +kernel
theorem dX7_sheet_17 : decode cX7_sheet 17 = .ok (.iload_n 2, 1) := by decide +kernel
theorem dX7_sheet_18 : decode cX7_sheet 18 = .ok (.bipush 16, 2) := by decide +kernel
theorem dX7_sheet_20 : decode cX7_sheet 20 = .ok (.if_icmp .eq 15, 3) := by decide +kernel
theorem dX7_sheet_23 : decode cX7_sheet 23 = .ok (.iload_n 2, 1) := by decide +kernel
theorem dX7_sheet_24 : decode cX7_sheet 24 = .ok (.bipush 32, 2) := by decide +kernel
theorem dX7_sheet_26 : decode cX7_sheet 26 = .ok (.if_icmp .eq 9, 3) := by decide +kernel
theorem dX7_sheet_29 : decode cX7_sheet 29 = .ok (.aload_n 0, 1) := by decide +kernel
theorem dX7_sheet_30 : decode cX7_sheet 30 = .ok (.iconst 0, 1) := by decide +kernel
theorem dX7_sheet_31 : decode cX7_sheet 31 = .ok (.invokevirtual 115, 3) := by decide +kernel
theorem dX7_sheet_34 : decode cX7_sheet 34 = .ok (.ireturn, 1) := by decide +kernel
theorem dX7_sheet_35 : decode cX7_sheet 35 = .ok (.iload_n 3, 1) := by decide +kernel
theorem dX7_sheet_36 : decode cX7_sheet 36 = .ok (.ifCond .ge 10, 3) := by decide +kernel
theorem dX7_sheet_39 : decode cX7_sheet 39 = .ok (.aload_n 0, 1) := by decide +kernel
theorem dX7_sheet_40 : decode cX7_sheet 40 = .ok (.bipush 6, 2) := by decide +kernel
theorem dX7_sheet_42 : decode cX7_sheet 42 = .ok (.invokevirtual 115, 3) := by decide +kernel
theorem dX7_sheet_45 : decode cX7_sheet 45 = .ok (.ireturn, 1) := by decide +kernel
theorem dX7_sheet_46 : decode cX7_sheet 46 = .ok (.iload_n 3, 1) := by decide +kernel
theorem dX7_sheet_47 : decode cX7_sheet 47 = .ok (.bipush 40, 2) := by decide +kernel
theorem dX7_sheet_49 : decode cX7_sheet 49 = .ok (.if_icmp .le 9, 3) := by decide +kernel
theorem dX7_sheet_52 : decode cX7_sheet 52 = .ok (.aload_n 0, 1) := by decide +kernel
theorem dX7_sheet_53 : decode cX7_sheet 53 = .ok (.iconst 0, 1) := by decide +kernel
theorem dX7_sheet_54 : decode cX7_sheet 54 = .ok (.invokevirtual 115, 3) := by decide +kernel
theorem dX7_sheet_57 : decode cX7_sheet 57 = .ok (.ireturn, 1) := by decide +kernel
theorem dX7_sheet_58 : decode cX7_sheet 58 = .ok (.aload_n 0, 1) := by decide +kernel
theorem dX7_sheet_59 : decode cX7_sheet 59 = .ok (.getfield 54, 3) := by decide +kernel
theorem dX7_sheet_62 : decode cX7_sheet 62 = .ok (.iload_n 1, 1) := by decide +kernel
theorem dX7_sheet_63 : decode cX7_sheet 63 = .ok (.iload_n 2, 1) := by decide +kernel
theorem dX7_sheet_64 : decode cX7_sheet 64 = .ok (.iastore, 1) := by decide +kernel
theorem dX7_sheet_65 : decode cX7_sheet 65 = .ok (.aload_n 0, 1) := by decide +kernel
theorem dX7_sheet_66 : decode cX7_sheet 66 = .ok (.getfield 57, 3) := by decide +kernel
theorem dX7_sheet_69 : decode cX7_sheet 69 = .ok (.iload_n 1, 1) := by decide +kernel
theorem dX7_sheet_70 : decode cX7_sheet 70 = .ok (.iload_n 2, 1) := by decide +kernel
theorem dX7_sheet_71 : decode cX7_sheet 71 = .ok (.ifCond .ne 7, 3) := by decide +kernel
theorem dX7_sheet_74 : decode cX7_sheet 74 = .ok (.iconst 0, 1) := by decide +kernel
theorem dX7_sheet_75 : decode cX7_sheet 75 = .ok (.goto 4, 3) := by decide +kernel
theorem dX7_sheet_78 : decode cX7_sheet 78 = .ok (.iload_n 3, 1) := by decide +kernel
theorem dX7_sheet_79 : decode cX7_sheet 79 = .ok (.iastore, 1) := by decide +kernel
theorem dX7_sheet_80 : decode cX7_sheet 80 = .ok (.iconst 0, 1) := by decide +kernel
theorem dX7_sheet_81 : decode cX7_sheet 81 = .ok (.istore 4, 2) := by decide +kernel
theorem dX7_sheet_83 : decode cX7_sheet 83 = .ok (.iload 4, 2) := by decide +kernel
theorem dX7_sheet_85 : decode cX7_sheet 85 = .ok (.bipush 40, 2) := by decide +kernel
theorem dX7_sheet_87 : decode cX7_sheet 87 = .ok (.if_icmp .ge 22, 3) := by decide +kernel
theorem dX7_sheet_90 : decode cX7_sheet 90 = .ok (.aload_n 0, 1) := by decide +kernel
theorem dX7_sheet_91 : decode cX7_sheet 91 = .ok (.getfield 60, 3) := by decide +kernel
theorem dX7_sheet_94 : decode cX7_sheet 94 = .ok (.bipush 40, 2) := by decide +kernel
theorem dX7_sheet_96 : decode cX7_sheet 96 = .ok (.iload_n 1, 1) := by decide +kernel
theorem dX7_sheet_97 : decode cX7_sheet 97 = .ok (.imul, 1) := by decide +kernel
theorem dX7_sheet_98 : decode cX7_sheet 98 = .ok (.iload 4, 2) := by decide +kernel
theorem dX7_sheet_100 : decode cX7_sheet 100 = .ok (.iadd, 1) := by decide +kernel
theorem dX7_sheet_101 : decode cX7_sheet 101 = .ok (.iconst 0, 1) := by decide +kernel
theorem dX7_sheet_102 : decode cX7_sheet 102 = .ok (.iastore, 1) := by decide +kernel
theorem dX7_sheet_103 : decode cX7_sheet 103 = .ok (.iinc 4 1, 3) := by decide +kernel
theorem dX7_sheet_106 : decode cX7_sheet 106 = .ok (.goto (-23), 3) := by decide +kernel
theorem dX7_sheet_109 : decode cX7_sheet 109 = .ok (.aload_n 0, 1) := by decide +kernel
theorem dX7_sheet_110 : decode cX7_sheet 110 = .ok (.getfield 57, 3) := by decide +kernel
theorem dX7_sheet_113 : decode cX7_sheet 113 = .ok (.iload_n 1, 1) := by decide +kernel
theorem dX7_sheet_114 : decode cX7_sheet 114 = .ok (.iaload, 1) := by decide +kernel
theorem dX7_sheet_115 : decode cX7_sheet 115 = .ok (.ireturn, 1) := by decide +kernel
set_option maxHeartbeats 4000000 in
set_option maxRecDepth 100000 in
theorem c_X7_sheet (l : Launch) (D : va_G) (cy : Nat → ClassId) (ad adK adV : Nat → Nat) (M : Mm) (o0 : Nat) (a1 : Int32) (a2 : Int32) (a3 : Int32) (res : Mm × Int32) (h : f_X7_sheet M o0 a1 a2 a3 = some res) : Met l yX7_sheet (wU yX7_sheet cX7_sheet 5 (some .int)) rmX7_sheet (va_Pc [.ref (ad o0), .int a1, .int a2, .int a3] (Pre D cy shM ad nM adK adV M)) (va_Qi (fun r (M2 : Mm) => r = res.2 ∧ M2 = res.1) (Pre D cy shM ad nM adK adV) (Aw ad nM)) 0 0 (Aw ad nM) := by
  refine Met.ofW (cc := cX7_sheet) (maxL := 5) (ret := (some .int)) (by decide) rfl ?_
  intro p e s m args below meth c s₁ B hml hv
  obtain ⟨hargs, hPre⟩ := hv
  have hx := B.exec
  have hb := B.bytes
  have hr := B.returns
  have hts := atoms_spec (ws := wU yX7_sheet cX7_sheet 5 (some .int)) B.pre
  have hq : ∀ w ∈ gW, w.before args s = true := fun w hw => hts w (List.mem_cons_of_mem _ hw)
  have hcm : ∀ w ∈ gW, w ∈ wU yX7_sheet cX7_sheet 5 (some .int) := fun w hw => List.mem_cons_of_mem _ hw
  have hown : s.vm.findClass RX7 = some m.cls := findClass_of_methodNamed B.named
  have hlocks := B.notSynchronized
  have hF : CallFix p m c cX7_sheet 5 s args (wU yX7_sheet cX7_sheet 5 (some .int)) RX7 := ⟨hx, hb, hml, hown, hts⟩
  have hK := hPre.2.1
  have hZ := hPre.2.2.2
  have hw : Wd D cy shM ad nM (Aw ad nM) s.heap M s.heap [] := ⟨hPre.1, hPre.2.2.1, va_S.rf⟩
  have iw7 : ∀ w ∈ u_ws RX7 TX7 30, w ∈ wU yX7_sheet cX7_sheet 5 (some .int) := fun w hw => List.mem_cons_of_mem _ (iX7 w hw)
  rw [show entryFrame m args 5 = entryFrame m ([.ref (ad o0), .int a1, .int a2, .int a3] : List Value).toArray 5 from by rw [hargs]]
  have hl := lv_entry ([.ref (ad o0), .int a1, .int a2, .int a3]) (n := 5) (Nat.le_of_ble_eq_true rfl)
  rw [lg_entry_eq]
  generalize (lg_sl ([.ref (ad o0), .int a1, .int a2, .int a3]) ++ List.replicate (5 - (lg_sl ([.ref (ad o0), .int a1, .int a2, .int a3])).length) Slot.unset).toArray = ls at hl ⊢
  have hl : lv_has ls 5 [(0, .ref (ad o0)), (1, .int a1), (2, .int a2), (3, .int a3)] := hl
  have hb83 : ∀ (nn : Nat), ∀ (M : Mm) (x0 : Nat) (x1 : Int32) (x4 : Int32), f_X7_sheet_b83 nn M x0 x1 x4 = some res → ∀ (H : Heap) (locs : List Loc) (ls : Array Slot), Wd D cy shM ad nM (Aw ad nM) s.heap M H locs → lv_has ls 5 [(0, .ref (ad x0)), (1, .int x1), (4, .int x4)] → W p l e (headSpec (wU yX7_sheet cX7_sheet 5 (some .int)) rmX7_sheet).room s m args below meth c H locs 0 0 (QI D cy shM ad nM adK adV below args s res) (F0 m 83 ls []) := by
    intro nn
    induction nn with
    | zero => intro M x0 x1 x4 h; simp [f_X7_sheet_b83] at h
    | succ nn ih =>
      intro M x0 x1 x4 h H locs ls hw hl
      unfold f_X7_sheet_b83 at h
      refine lv_iload hx hb dX7_sheet_83 (lv_at hl 2 rfl) ?_
      refine lv_bipush (v := (40 : Int32)) hx hb dX7_sheet_85 (by decide) ?_
      refine lv_icmp_ge (tgt := 109) hx hb dX7_sheet_87 (by decide) (fun c1 => ?_) (fun c1 => ?_)
      · replace h := if_some_t c1 h
        refine lv_aload_n hx hb dX7_sheet_109 rfl (lv_at hl 0 rfl) ?_
        replace h := gd_some h
        obtain ⟨g2, h⟩ := h
        replace h := bd_some h
        obtain ⟨q3, eq3, h⟩ := h
        refine r_getR hx hb hts iw7 hown hK hw x0 27 g2 (by decide) rfl (by decide) rfl (hq _ qw917) (fun _ h9 => h9) dX7_sheet_110 eq3 ?_
        refine lv_iload_n hx hb dX7_sheet_113 rfl (lv_at hl 1 rfl) ?_
        replace h := gd_some h
        obtain ⟨g4, h⟩ := h
        refine r_iald hx hb hK hw q3 g4 dX7_sheet_114 ?_
        exact r_iret hx hb hr rfl hlocks hZ hK hw h dX7_sheet_115
      · replace h := if_some_f c1 h
        refine lv_aload_n hx hb dX7_sheet_90 rfl (lv_at hl 0 rfl) ?_
        replace h := gd_some h
        obtain ⟨g5, h⟩ := h
        replace h := bd_some h
        obtain ⟨q6, eq6, h⟩ := h
        refine r_getR hx hb hts iw7 hown hK hw x0 28 g5 (by decide) rfl (by decide) rfl (hq _ qw918) (fun _ h9 => h9) dX7_sheet_91 eq6 ?_
        refine lv_bipush (v := (40 : Int32)) hx hb dX7_sheet_94 (by decide) ?_
        refine lv_iload_n hx hb dX7_sheet_96 rfl (lv_at hl 1 rfl) ?_
        refine lv_imul hx hb dX7_sheet_97 ?_
        refine lv_iload hx hb dX7_sheet_98 (lv_at hl 2 rfl) ?_
        refine lv_iadd hx hb dX7_sheet_100 ?_
        refine lv_iconst (v := (0 : Int32)) hx hb dX7_sheet_101 (by decide) ?_
        replace h := gd_some h
        obtain ⟨g7, h⟩ := h
        refine r_iast hx hb hK hw q6 g7 dX7_sheet_102 (fun H locs hw => ?_)
        replace h := lt_some h
        obtain ⟨M8, eM8, h⟩ := h
        rw [← eM8] at hw
        refine lv_iinc (v := x4 + (1 : Int32)) (lv' := [(4, .int (x4 + (1 : Int32))), (0, .ref (ad x0)), (1, .int x1)]) hx hb dX7_sheet_103 hl (k := 2) rfl (congrArg (fun z => x4 + z) (by decide)) (by decide) rfl (fun ls hl => ?_)
        refine lv_goto (tgt := 83) hx hb dX7_sheet_106 (by decide) ?_
        exact ih _ _ _ _ h _ _ _ hw (lv_sub hl [1, 2, 0] rfl)
  have hb79 : ∀ (M : Mm) (x0 : Nat) (x1 : Int32) (t0 : Nat) (t1 : Int32) (t2 : Int32), f_X7_sheet_b79 M x0 x1 t0 t1 t2 = some res → ∀ (H : Heap) (locs : List Loc) (ls : Array Slot), Wd D cy shM ad nM (Aw ad nM) s.heap M H locs → lv_has ls 5 [(0, .ref (ad x0)), (1, .int x1)] → W p l e (headSpec (wU yX7_sheet cX7_sheet 5 (some .int)) rmX7_sheet).room s m args below meth c H locs 0 0 (QI D cy shM ad nM adK adV below args s res) (F0 m 79 ls [.int t2, .int t1, .ref (ad t0)]) := by
    intro M x0 x1 t0 t1 t2 h H locs ls hw hl
    unfold f_X7_sheet_b79 at h
    replace h := gd_some h
    obtain ⟨g9, h⟩ := h
    refine r_iast hx hb hK hw t0 g9 dX7_sheet_79 (fun H locs hw => ?_)
    replace h := lt_some h
    obtain ⟨M10, eM10, h⟩ := h
    rw [← eM10] at hw
    refine lv_iconst (v := (0 : Int32)) hx hb dX7_sheet_80 (by decide) ?_
    refine lv_istore (lv' := [(4, .int (0 : Int32)), (0, .ref (ad x0)), (1, .int x1)]) hx hb dX7_sheet_81 hl (by decide) rfl (fun ls hl => ?_)
    exact hb83 1000 _ _ _ _ h _ _ _ hw (lv_sub hl [1, 2, 0] rfl)
  have hb35 : ∀ (M : Mm) (x0 : Nat) (x1 : Int32) (x2 : Int32) (x3 : Int32), f_X7_sheet_b35 M x0 x1 x2 x3 = some res → ∀ (H : Heap) (locs : List Loc) (ls : Array Slot), Wd D cy shM ad nM (Aw ad nM) s.heap M H locs → lv_has ls 5 [(0, .ref (ad x0)), (1, .int x1), (2, .int x2), (3, .int x3)] → W p l e (headSpec (wU yX7_sheet cX7_sheet 5 (some .int)) rmX7_sheet).room s m args below meth c H locs 0 0 (QI D cy shM ad nM adK adV below args s res) (F0 m 35 ls []) := by
    intro M x0 x1 x2 x3 h H locs ls hw hl
    unfold f_X7_sheet_b35 at h
    refine lv_iload_n hx hb dX7_sheet_35 rfl (lv_at hl 3 rfl) ?_
    refine lv_if_ge (tgt := 46) hx hb dX7_sheet_36 (by decide) (fun c11 => ?_) (fun c11 => ?_)
    · replace h := if_some_t c11 h
      refine lv_iload_n hx hb dX7_sheet_46 rfl (lv_at hl 3 rfl) ?_
      refine lv_bipush (v := (40 : Int32)) hx hb dX7_sheet_47 (by decide) ?_
      refine lv_icmp_le (tgt := 58) hx hb dX7_sheet_49 (by decide) (fun c12 => ?_) (fun c12 => ?_)
      · replace h := if_some_t c12 h
        refine lv_aload_n hx hb dX7_sheet_58 rfl (lv_at hl 0 rfl) ?_
        replace h := gd_some h
        obtain ⟨g13, h⟩ := h
        replace h := bd_some h
        obtain ⟨q14, eq14, h⟩ := h
        refine r_getR hx hb hts iw7 hown hK hw x0 26 g13 (by decide) rfl (by decide) rfl (hq _ qw916) (fun _ h9 => h9) dX7_sheet_59 eq14 ?_
        refine lv_iload_n hx hb dX7_sheet_62 rfl (lv_at hl 1 rfl) ?_
        refine lv_iload_n hx hb dX7_sheet_63 rfl (lv_at hl 2 rfl) ?_
        replace h := gd_some h
        obtain ⟨g15, h⟩ := h
        refine r_iast hx hb hK hw q14 g15 dX7_sheet_64 (fun H locs hw => ?_)
        replace h := lt_some h
        obtain ⟨M16, eM16, h⟩ := h
        rw [← eM16] at hw
        refine lv_aload_n hx hb dX7_sheet_65 rfl (lv_at hl 0 rfl) ?_
        replace h := bd_some h
        obtain ⟨q17, eq17, h⟩ := h
        refine r_getR hx hb hts iw7 hown hK hw x0 27 g13 (by decide) rfl (by decide) rfl (hq _ qw917) (fun _ h9 => h9) dX7_sheet_66 eq17 ?_
        refine lv_iload_n hx hb dX7_sheet_69 rfl (lv_at hl 1 rfl) ?_
        refine lv_iload_n hx hb dX7_sheet_70 rfl (lv_at hl 2 rfl) ?_
        refine lv_if_ne (tgt := 78) hx hb dX7_sheet_71 (by decide) (fun c18 => ?_) (fun c18 => ?_)
        · replace h := if_some_f c18 h
          refine lv_iload_n hx hb dX7_sheet_78 rfl (lv_at hl 3 rfl) ?_
          exact hb79 _ _ _ _ _ _ h _ _ _ hw (lv_sub hl [0, 1] rfl)
        · replace h := if_some_t c18 h
          refine lv_iconst (v := (0 : Int32)) hx hb dX7_sheet_74 (by decide) ?_
          refine lv_goto (tgt := 79) hx hb dX7_sheet_75 (by decide) ?_
          exact hb79 _ _ _ _ _ _ h _ _ _ hw (lv_sub hl [0, 1] rfl)
      · replace h := if_some_f c12 h
        refine lv_aload_n hx hb dX7_sheet_52 rfl (lv_at hl 0 rfl) ?_
        refine lv_iconst (v := (0 : Int32)) hx hb dX7_sheet_53 (by decide) ?_
        replace h := gd_some h
        obtain ⟨g20, h⟩ := h
        replace h := bd_some h
        obtain ⟨r19, er19, h⟩ := h
        refine r_callVi (As := [.int (0 : Int32)]) (rest := []) hF (c_X7_finding l D cy ad adK adV M x0 (0 : Int32) r19 er19) (gW_goodV hcm qw991 qw988 qw990 qw19 qw68) hdX7_finding rfl ⟨Nat.le_of_ble_eq_true rfl, Nat.le_of_ble_eq_true rfl⟩ rfl rfl hZ hK hw g20 (by decide) rfl rfl hl.1 rfl (Nat.le_of_ble_eq_true rfl) ⟨Nat.zero_le _, Nat.zero_le _⟩ dX7_sheet_54 (fun H locs hw => ?_)
        exact r_iret hx hb hr rfl hlocks hZ hK hw h dX7_sheet_57
    · replace h := if_some_f c11 h
      refine lv_aload_n hx hb dX7_sheet_39 rfl (lv_at hl 0 rfl) ?_
      refine lv_bipush (v := (6 : Int32)) hx hb dX7_sheet_40 (by decide) ?_
      replace h := gd_some h
      obtain ⟨g22, h⟩ := h
      replace h := bd_some h
      obtain ⟨r21, er21, h⟩ := h
      refine r_callVi (As := [.int (6 : Int32)]) (rest := []) hF (c_X7_finding l D cy ad adK adV M x0 (6 : Int32) r21 er21) (gW_goodV hcm qw991 qw988 qw990 qw19 qw68) hdX7_finding rfl ⟨Nat.le_of_ble_eq_true rfl, Nat.le_of_ble_eq_true rfl⟩ rfl rfl hZ hK hw g22 (by decide) rfl rfl hl.1 rfl (Nat.le_of_ble_eq_true rfl) ⟨Nat.zero_le _, Nat.zero_le _⟩ dX7_sheet_42 (fun H locs hw => ?_)
      exact r_iret hx hb hr rfl hlocks hZ hK hw h dX7_sheet_45
  have hb29 : ∀ (M : Mm) (x0 : Nat), f_X7_sheet_b29 M x0 = some res → ∀ (H : Heap) (locs : List Loc) (ls : Array Slot), Wd D cy shM ad nM (Aw ad nM) s.heap M H locs → lv_has ls 5 [(0, .ref (ad x0))] → W p l e (headSpec (wU yX7_sheet cX7_sheet 5 (some .int)) rmX7_sheet).room s m args below meth c H locs 0 0 (QI D cy shM ad nM adK adV below args s res) (F0 m 29 ls []) := by
    intro M x0 h H locs ls hw hl
    unfold f_X7_sheet_b29 at h
    refine lv_aload_n hx hb dX7_sheet_29 rfl (lv_at hl 0 rfl) ?_
    refine lv_iconst (v := (0 : Int32)) hx hb dX7_sheet_30 (by decide) ?_
    replace h := gd_some h
    obtain ⟨g24, h⟩ := h
    replace h := bd_some h
    obtain ⟨r23, er23, h⟩ := h
    refine r_callVi (As := [.int (0 : Int32)]) (rest := []) hF (c_X7_finding l D cy ad adK adV M x0 (0 : Int32) r23 er23) (gW_goodV hcm qw991 qw988 qw990 qw19 qw68) hdX7_finding rfl ⟨Nat.le_of_ble_eq_true rfl, Nat.le_of_ble_eq_true rfl⟩ rfl rfl hZ hK hw g24 (by decide) rfl rfl hl.1 rfl (Nat.le_of_ble_eq_true rfl) ⟨Nat.zero_le _, Nat.zero_le _⟩ dX7_sheet_31 (fun H locs hw => ?_)
    exact r_iret hx hb hr rfl hlocks hZ hK hw h dX7_sheet_34
  unfold f_X7_sheet at h
  refine lv_iload_n hx hb dX7_sheet_0 rfl (lv_at hl 1 rfl) ?_
  replace h := bd_some h
  obtain ⟨r25, er25, h⟩ := h
  refine r_callSi (As := [.int a1]) (rest := []) hF (c_X7_isSheet l D cy ad adK adV M a1 r25 er25) (gW_goodS hcm qw1314 qw1312 qw1313 qw68) hdX7_isSheet ⟨Nat.le_of_ble_eq_true rfl, Nat.le_of_ble_eq_true rfl⟩ rfl rfl hZ hK hw rfl hl.1 rfl (Nat.le_of_ble_eq_true rfl) ⟨Nat.zero_le _, Nat.zero_le _⟩ dX7_sheet_1 (fun H locs hw => ?_)
  refine lv_if_eq (tgt := 29) hx hb dX7_sheet_4 (by decide) (fun c26 => ?_) (fun c26 => ?_)
  · replace h := if_some_t c26 h
    exact hb29 _ _ h _ _ _ hw (lv_sub hl [0] rfl)
  · replace h := if_some_f c26 h
    refine lv_iload_n hx hb dX7_sheet_7 rfl (lv_at hl 2 rfl) ?_
    refine lv_if_eq (tgt := 35) hx hb dX7_sheet_8 (by decide) (fun c27 => ?_) (fun c27 => ?_)
    · replace h := if_some_t c27 h
      exact hb35 _ _ _ _ _ h _ _ _ hw (lv_sub hl [0, 1, 2, 3] rfl)
    · replace h := if_some_f c27 h
      refine lv_iload_n hx hb dX7_sheet_11 rfl (lv_at hl 2 rfl) ?_
      refine lv_bipush (v := (8 : Int32)) hx hb dX7_sheet_12 (by decide) ?_
      refine lv_icmp_eq (tgt := 35) hx hb dX7_sheet_14 (by decide) (fun c28 => ?_) (fun c28 => ?_)
      · replace h := if_some_t c28 h
        exact hb35 _ _ _ _ _ h _ _ _ hw (lv_sub hl [0, 1, 2, 3] rfl)
      · replace h := if_some_f c28 h
        refine lv_iload_n hx hb dX7_sheet_17 rfl (lv_at hl 2 rfl) ?_
        refine lv_bipush (v := (16 : Int32)) hx hb dX7_sheet_18 (by decide) ?_
        refine lv_icmp_eq (tgt := 35) hx hb dX7_sheet_20 (by decide) (fun c29 => ?_) (fun c29 => ?_)
        · replace h := if_some_t c29 h
          exact hb35 _ _ _ _ _ h _ _ _ hw (lv_sub hl [0, 1, 2, 3] rfl)
        · replace h := if_some_f c29 h
          refine lv_iload_n hx hb dX7_sheet_23 rfl (lv_at hl 2 rfl) ?_
          refine lv_bipush (v := (32 : Int32)) hx hb dX7_sheet_24 (by decide) ?_
          refine lv_icmp_eq (tgt := 35) hx hb dX7_sheet_26 (by decide) (fun c30 => ?_) (fun c30 => ?_)
          · replace h := if_some_t c30 h
            exact hb35 _ _ _ _ _ h _ _ _ hw (lv_sub hl [0, 1, 2, 3] rfl)
          · replace h := if_some_f c30 h
            exact hb29 _ _ h _ _ _ hw (lv_sub hl [0] rfl)
theorem dX7_write_0 : decode cX7_write 0 = .ok (.iload_n 1, 1) := by decide +kernel
theorem dX7_write_1 : decode cX7_write 1 = .ok (.invokestatic 287, 3) := by decide +kernel
theorem dX7_write_4 : decode cX7_write 4 = .ok (.ifCond .ne 9, 3) := by decide +kernel
theorem dX7_write_7 : decode cX7_write 7 = .ok (.aload_n 0, 1) := by decide +kernel
theorem dX7_write_8 : decode cX7_write 8 = .ok (.iconst 0, 1) := by decide +kernel
theorem dX7_write_9 : decode cX7_write 9 = .ok (.invokevirtual 115, 3) := by decide +kernel
theorem dX7_write_12 : decode cX7_write 12 = .ok (.ireturn, 1) := by decide +kernel
theorem dX7_write_13 : decode cX7_write 13 = .ok (.aload_n 0, 1) := by decide +kernel
theorem dX7_write_14 : decode cX7_write 14 = .ok (.getfield 54, 3) := by decide +kernel
theorem dX7_write_17 : decode cX7_write 17 = .ok (.iload_n 1, 1) := by decide +kernel
theorem dX7_write_18 : decode cX7_write 18 = .ok (.iaload, 1) := by decide +kernel
theorem dX7_write_19 : decode cX7_write 19 = .ok (.ifCond .ne 9, 3) := by decide +kernel
theorem dX7_write_22 : decode cX7_write 22 = .ok (.aload_n 0, 1) := by decide +kernel
theorem dX7_write_23 : decode cX7_write 23 = .ok (.iconst 5, 1) := by decide +kernel
theorem dX7_write_24 : decode cX7_write 24 = .ok (.invokevirtual 115, 3) := by decide +kernel
theorem dX7_write_27 : decode cX7_write 27 = .ok (.ireturn, 1) := by decide +kernel
theorem dX7_write_28 : decode cX7_write 28 = .ok (.iload_n 2, 1) := by decide +kernel
theorem dX7_write_29 : decode cX7_write 29 = .ok (.iconst 0, 1) := by decide +kernel
theorem dX7_write_30 : decode cX7_write 30 = .ok (.aload_n 0, 1) := by decide +kernel
theorem dX7_write_31 : decode cX7_write 31 = .ok (.getfield 57, 3) := by decide +kernel
theorem dX7_write_34 : decode cX7_write 34 = .ok (.iload_n 1, 1) := by decide +kernel
theorem dX7_write_35 : decode cX7_write 35 = .ok (.iaload, 1) := by decide +kernel
theorem dX7_write_36 : decode cX7_write 36 = .ok (.iconst 1, 1) := by decide +kernel
theorem dX7_write_37 : decode cX7_write 37 = .ok (.isub, 1) := by decide +kernel
theorem dX7_write_38 : decode cX7_write 38 = .ok (.invokestatic 67, 3) := by decide +kernel
theorem dX7_write_41 : decode cX7_write 41 = .ok (.ifCond .ne 9, 3) := by decide +kernel
theorem dX7_write_44 : decode cX7_write 44 = .ok (.aload_n 0, 1) := by decide +kernel
theorem dX7_write_45 : decode cX7_write 45 = .ok (.iconst 0, 1) := by decide +kernel
theorem dX7_write_46 : decode cX7_write 46 = .ok (.invokevirtual 115, 3) := by decide +kernel
theorem dX7_write_49 : decode cX7_write 49 = .ok (.ireturn, 1) := by decide +kernel
theorem dX7_write_50 : decode cX7_write 50 = .ok (.bipush 32, 2) := by decide +kernel
theorem dX7_write_52 : decode cX7_write 52 = .ok (.aload_n 0, 1) := by decide +kernel
theorem dX7_write_53 : decode cX7_write 53 = .ok (.getfield 54, 3) := by decide +kernel
theorem dX7_write_56 : decode cX7_write 56 = .ok (.iload_n 1, 1) := by decide +kernel
theorem dX7_write_57 : decode cX7_write 57 = .ok (.iaload, 1) := by decide +kernel
theorem dX7_write_58 : decode cX7_write 58 = .ok (.isub, 1) := by decide +kernel
theorem dX7_write_59 : decode cX7_write 59 = .ok (.istore 4, 2) := by decide +kernel
theorem dX7_write_61 : decode cX7_write 61 = .ok (.aload_n 0, 1) := by decide +kernel
theorem dX7_write_62 : decode cX7_write 62 = .ok (.getfield 60, 3) := by decide +kernel
theorem dX7_write_65 : decode cX7_write 65 = .ok (.bipush 40, 2) := by decide +kernel
theorem dX7_write_67 : decode cX7_write 67 = .ok (.iload_n 1, 1) := by decide +kernel
theorem dX7_write_68 : decode cX7_write 68 = .ok (.imul, 1) := by decide +kernel
theorem dX7_write_69 : decode cX7_write 69 = .ok (.iload_n 2, 1) := by decide +kernel
theorem dX7_write_70 : decode cX7_write 70 = .ok (.iadd, 1) := by decide +kernel
theorem dX7_write_71 : decode cX7_write 71 = .ok (.iload_n 3, 1) := by decide +kernel
theorem dX7_write_72 : decode cX7_write 72 = .ok (.iload 4, 2) := by decide +kernel
theorem dX7_write_74 : decode cX7_write 74 = .ok (.ishl, 1) := by decide +kernel
theorem dX7_write_75 : decode cX7_write 75 = .ok (.iload 4, 2) := by decide +kernel
theorem dX7_write_77 : decode cX7_write 77 = .ok (.ishr, 1) := by decide +kernel
theorem dX7_write_78 : decode cX7_write 78 = .ok (.iastore, 1) := by decide +kernel
theorem dX7_write_79 : decode cX7_write 79 = .ok (.iconst 1, 1) := by decide +kernel
theorem dX7_write_80 : decode cX7_write 80 = .ok (.ireturn, 1) := by decide +kernel
set_option maxHeartbeats 4000000 in
set_option maxRecDepth 100000 in
theorem c_X7_write (l : Launch) (D : va_G) (cy : Nat → ClassId) (ad adK adV : Nat → Nat) (M : Mm) (o0 : Nat) (a1 : Int32) (a2 : Int32) (a3 : Int32) (res : Mm × Int32) (h : f_X7_write M o0 a1 a2 a3 = some res) : Met l yX7_write (wU yX7_write cX7_write 5 (some .int)) rmX7_write (va_Pc [.ref (ad o0), .int a1, .int a2, .int a3] (Pre D cy shM ad nM adK adV M)) (va_Qi (fun r (M2 : Mm) => r = res.2 ∧ M2 = res.1) (Pre D cy shM ad nM adK adV) (Aw ad nM)) 0 0 (Aw ad nM) := by
  refine Met.ofW (cc := cX7_write) (maxL := 5) (ret := (some .int)) (by decide) rfl ?_
  intro p e s m args below meth c s₁ B hml hv
  obtain ⟨hargs, hPre⟩ := hv
  have hx := B.exec
  have hb := B.bytes
  have hr := B.returns
  have hts := atoms_spec (ws := wU yX7_write cX7_write 5 (some .int)) B.pre
  have hq : ∀ w ∈ gW, w.before args s = true := fun w hw => hts w (List.mem_cons_of_mem _ hw)
  have hcm : ∀ w ∈ gW, w ∈ wU yX7_write cX7_write 5 (some .int) := fun w hw => List.mem_cons_of_mem _ hw
  have hown : s.vm.findClass RX7 = some m.cls := findClass_of_methodNamed B.named
  have hlocks := B.notSynchronized
  have hF : CallFix p m c cX7_write 5 s args (wU yX7_write cX7_write 5 (some .int)) RX7 := ⟨hx, hb, hml, hown, hts⟩
  have hK := hPre.2.1
  have hZ := hPre.2.2.2
  have hw : Wd D cy shM ad nM (Aw ad nM) s.heap M s.heap [] := ⟨hPre.1, hPre.2.2.1, va_S.rf⟩
  have iw7 : ∀ w ∈ u_ws RX7 TX7 30, w ∈ wU yX7_write cX7_write 5 (some .int) := fun w hw => List.mem_cons_of_mem _ (iX7 w hw)
  rw [show entryFrame m args 5 = entryFrame m ([.ref (ad o0), .int a1, .int a2, .int a3] : List Value).toArray 5 from by rw [hargs]]
  have hl := lv_entry ([.ref (ad o0), .int a1, .int a2, .int a3]) (n := 5) (Nat.le_of_ble_eq_true rfl)
  rw [lg_entry_eq]
  generalize (lg_sl ([.ref (ad o0), .int a1, .int a2, .int a3]) ++ List.replicate (5 - (lg_sl ([.ref (ad o0), .int a1, .int a2, .int a3])).length) Slot.unset).toArray = ls at hl ⊢
  have hl : lv_has ls 5 [(0, .ref (ad o0)), (1, .int a1), (2, .int a2), (3, .int a3)] := hl
  unfold f_X7_write at h
  refine lv_iload_n hx hb dX7_write_0 rfl (lv_at hl 1 rfl) ?_
  replace h := bd_some h
  obtain ⟨r1, er1, h⟩ := h
  refine r_callSi (As := [.int a1]) (rest := []) hF (c_X7_isSheet l D cy ad adK adV M a1 r1 er1) (gW_goodS hcm qw1314 qw1312 qw1313 qw68) hdX7_isSheet ⟨Nat.le_of_ble_eq_true rfl, Nat.le_of_ble_eq_true rfl⟩ rfl rfl hZ hK hw rfl hl.1 rfl (Nat.le_of_ble_eq_true rfl) ⟨Nat.zero_le _, Nat.zero_le _⟩ dX7_write_1 (fun H locs hw => ?_)
  refine lv_if_ne (tgt := 13) hx hb dX7_write_4 (by decide) (fun c2 => ?_) (fun c2 => ?_)
  · replace h := if_some_f c2 h
    refine lv_aload_n hx hb dX7_write_13 rfl (lv_at hl 0 rfl) ?_
    replace h := gd_some h
    obtain ⟨g3, h⟩ := h
    replace h := bd_some h
    obtain ⟨q4, eq4, h⟩ := h
    refine r_getR hx hb hts iw7 hown hK hw o0 26 g3 (by decide) rfl (by decide) rfl (hq _ qw916) (fun _ h9 => h9) dX7_write_14 eq4 ?_
    refine lv_iload_n hx hb dX7_write_17 rfl (lv_at hl 1 rfl) ?_
    replace h := gd_some h
    obtain ⟨g5, h⟩ := h
    refine r_iald hx hb hK hw q4 g5 dX7_write_18 ?_
    refine lv_if_ne (tgt := 28) hx hb dX7_write_19 (by decide) (fun c6 => ?_) (fun c6 => ?_)
    · replace h := if_some_f c6 h
      refine lv_iload_n hx hb dX7_write_28 rfl (lv_at hl 2 rfl) ?_
      refine lv_iconst (v := (0 : Int32)) hx hb dX7_write_29 (by decide) ?_
      refine lv_aload_n hx hb dX7_write_30 rfl (lv_at hl 0 rfl) ?_
      replace h := bd_some h
      obtain ⟨q7, eq7, h⟩ := h
      refine r_getR hx hb hts iw7 hown hK hw o0 27 g3 (by decide) rfl (by decide) rfl (hq _ qw917) (fun _ h9 => h9) dX7_write_31 eq7 ?_
      refine lv_iload_n hx hb dX7_write_34 rfl (lv_at hl 1 rfl) ?_
      replace h := gd_some h
      obtain ⟨g8, h⟩ := h
      refine r_iald hx hb hK hw q7 g8 dX7_write_35 ?_
      refine lv_iconst (v := (1 : Int32)) hx hb dX7_write_36 (by decide) ?_
      refine lv_isub hx hb dX7_write_37 ?_
      replace h := bd_some h
      obtain ⟨r9, er9, h⟩ := h
      refine r_callSi (As := [.int a2, .int (0 : Int32), .int ((r1.1.1 q7 a1.toNatClampNeg) - (1 : Int32))]) (rest := []) hF (c_X7_in l D cy ad adK adV r1.1 a2 (0 : Int32) ((r1.1.1 q7 a1.toNatClampNeg) - (1 : Int32)) r9 er9) (gW_goodS hcm qw987 qw985 qw986 qw68) hdX7_in ⟨Nat.le_of_ble_eq_true rfl, Nat.le_of_ble_eq_true rfl⟩ rfl rfl hZ hK hw rfl hl.1 rfl (Nat.le_of_ble_eq_true rfl) ⟨Nat.zero_le _, Nat.zero_le _⟩ dX7_write_38 (fun H locs hw => ?_)
      refine lv_if_ne (tgt := 50) hx hb dX7_write_41 (by decide) (fun c10 => ?_) (fun c10 => ?_)
      · replace h := if_some_f c10 h
        refine lv_bipush (v := (32 : Int32)) hx hb dX7_write_50 (by decide) ?_
        refine lv_aload_n hx hb dX7_write_52 rfl (lv_at hl 0 rfl) ?_
        replace h := bd_some h
        obtain ⟨q11, eq11, h⟩ := h
        refine r_getR hx hb hts iw7 hown hK hw o0 26 g3 (by decide) rfl (by decide) rfl (hq _ qw916) (fun _ h9 => h9) dX7_write_53 eq11 ?_
        refine lv_iload_n hx hb dX7_write_56 rfl (lv_at hl 1 rfl) ?_
        replace h := gd_some h
        obtain ⟨g12, h⟩ := h
        refine r_iald hx hb hK hw q11 g12 dX7_write_57 ?_
        refine lv_isub hx hb dX7_write_58 ?_
        refine lv_topi (fun y13 ey13 => ?_)
        replace h := lt_at ey13 h
        refine lv_istore (lv' := [(4, .int y13), (0, .ref (ad o0)), (1, .int a1), (2, .int a2), (3, .int a3)]) hx hb dX7_write_59 hl (by decide) rfl (fun ls hl => ?_)
        refine lv_aload_n hx hb dX7_write_61 rfl (lv_at hl 1 rfl) ?_
        replace h := bd_some h
        obtain ⟨q14, eq14, h⟩ := h
        refine r_getR hx hb hts iw7 hown hK hw o0 28 g3 (by decide) rfl (by decide) rfl (hq _ qw918) (fun _ h9 => h9) dX7_write_62 eq14 ?_
        refine lv_bipush (v := (40 : Int32)) hx hb dX7_write_65 (by decide) ?_
        refine lv_iload_n hx hb dX7_write_67 rfl (lv_at hl 2 rfl) ?_
        refine lv_imul hx hb dX7_write_68 ?_
        refine lv_iload_n hx hb dX7_write_69 rfl (lv_at hl 3 rfl) ?_
        refine lv_iadd hx hb dX7_write_70 ?_
        refine lv_iload_n hx hb dX7_write_71 rfl (lv_at hl 4 rfl) ?_
        refine lv_iload hx hb dX7_write_72 (lv_at hl 0 rfl) ?_
        refine lv_ishl hx hb dX7_write_74 ?_
        refine lv_iload hx hb dX7_write_75 (lv_at hl 0 rfl) ?_
        refine lv_ishr hx hb dX7_write_77 ?_
        replace h := gd_some h
        obtain ⟨g15, h⟩ := h
        refine r_iast hx hb hK hw q14 g15 dX7_write_78 (fun H locs hw => ?_)
        replace h := lt_some h
        obtain ⟨M16, eM16, h⟩ := h
        rw [← eM16] at hw
        refine lv_iconst (v := (1 : Int32)) hx hb dX7_write_79 (by decide) ?_
        exact r_iret hx hb hr rfl hlocks hZ hK hw h dX7_write_80
      · replace h := if_some_t c10 h
        refine lv_aload_n hx hb dX7_write_44 rfl (lv_at hl 0 rfl) ?_
        refine lv_iconst (v := (0 : Int32)) hx hb dX7_write_45 (by decide) ?_
        replace h := bd_some h
        obtain ⟨r17, er17, h⟩ := h
        refine r_callVi (As := [.int (0 : Int32)]) (rest := []) hF (c_X7_finding l D cy ad adK adV r9.1 o0 (0 : Int32) r17 er17) (gW_goodV hcm qw991 qw988 qw990 qw19 qw68) hdX7_finding rfl ⟨Nat.le_of_ble_eq_true rfl, Nat.le_of_ble_eq_true rfl⟩ rfl rfl hZ hK hw g3 (by decide) rfl rfl hl.1 rfl (Nat.le_of_ble_eq_true rfl) ⟨Nat.zero_le _, Nat.zero_le _⟩ dX7_write_46 (fun H locs hw => ?_)
        exact r_iret hx hb hr rfl hlocks hZ hK hw h dX7_write_49
    · replace h := if_some_t c6 h
      refine lv_aload_n hx hb dX7_write_22 rfl (lv_at hl 0 rfl) ?_
      refine lv_iconst (v := (5 : Int32)) hx hb dX7_write_23 (by decide) ?_
      replace h := bd_some h
      obtain ⟨r18, er18, h⟩ := h
      refine r_callVi (As := [.int (5 : Int32)]) (rest := []) hF (c_X7_finding l D cy ad adK adV r1.1 o0 (5 : Int32) r18 er18) (gW_goodV hcm qw991 qw988 qw990 qw19 qw68) hdX7_finding rfl ⟨Nat.le_of_ble_eq_true rfl, Nat.le_of_ble_eq_true rfl⟩ rfl rfl hZ hK hw g3 (by decide) rfl rfl hl.1 rfl (Nat.le_of_ble_eq_true rfl) ⟨Nat.zero_le _, Nat.zero_le _⟩ dX7_write_24 (fun H locs hw => ?_)
      exact r_iret hx hb hr rfl hlocks hZ hK hw h dX7_write_27
  · replace h := if_some_t c2 h
    refine lv_aload_n hx hb dX7_write_7 rfl (lv_at hl 0 rfl) ?_
    refine lv_iconst (v := (0 : Int32)) hx hb dX7_write_8 (by decide) ?_
    replace h := gd_some h
    obtain ⟨g20, h⟩ := h
    replace h := bd_some h
    obtain ⟨r19, er19, h⟩ := h
    refine r_callVi (As := [.int (0 : Int32)]) (rest := []) hF (c_X7_finding l D cy ad adK adV r1.1 o0 (0 : Int32) r19 er19) (gW_goodV hcm qw991 qw988 qw990 qw19 qw68) hdX7_finding rfl ⟨Nat.le_of_ble_eq_true rfl, Nat.le_of_ble_eq_true rfl⟩ rfl rfl hZ hK hw g20 (by decide) rfl rfl hl.1 rfl (Nat.le_of_ble_eq_true rfl) ⟨Nat.zero_le _, Nat.zero_le _⟩ dX7_write_9 (fun H locs hw => ?_)
    exact r_iret hx hb hr rfl hlocks hZ hK hw h dX7_write_12

theorem dX7_tries_0 : decode cX7_tries 0 = .ok (.aload_n 0, 1) := by decide +kernel
theorem dX7_tries_1 : decode cX7_tries 1 = .ok (.iload_n 1, 1) := by decide +kernel
theorem dX7_tries_2 : decode cX7_tries 2 = .ok (.invokevirtual 121, 3) := by decide +kernel
theorem dX7_tries_5 : decode cX7_tries 5 = .ok (.ifCond .eq 13, 3) := by decide +kernel
theorem dX7_tries_8 : decode cX7_tries 8 = .ok (.iload_n 2, 1) := by decide +kernel
theorem dX7_tries_9 : decode cX7_tries 9 = .ok (.iconst 1, 1) := by decide +kernel
theorem dX7_tries_10 : decode cX7_tries 10 = .ok (.bipush 40, 2) := by decide +kernel
theorem dX7_tries_12 : decode cX7_tries 12 = .ok (.invokestatic 67, 3) := by decide +kernel
theorem dX7_tries_15 : decode cX7_tries 15 = .ok (.ifCond .ne 9, 3) := by decide +kernel
theorem dX7_tries_18 : decode cX7_tries 18 = .ok (.aload_n 0, 1) := by decide +kernel
theorem dX7_tries_19 : decode cX7_tries 19 = .ok (.iconst 0, 1) := by decide +kernel
theorem dX7_tries_20 : decode cX7_tries 20 = .ok (.invokevirtual 115, 3) := by decide +kernel
theorem dX7_tries_23 : decode cX7_tries 23 = .ok (.ireturn, 1) := by decide +kernel
theorem dX7_tries_24 : decode cX7_tries 24 = .ok (.aload_n 0, 1) := by decide +kernel
theorem dX7_tries_25 : decode cX7_tries 25 = .ok (.getfield 7, 3) := by decide +kernel
theorem dX7_tries_28 : decode cX7_tries 28 = .ok (.iconst 2, 1) := by decide +kernel
theorem dX7_tries_29 : decode cX7_tries 29 = .ok (.iaload, 1) := by decide +kernel
theorem dX7_tries_30 : decode cX7_tries 30 = .ok (.istore_n 3, 1) := by decide +kernel
theorem dX7_tries_31 : decode cX7_tries 31 = .ok (.iconst 0, 1) := by decide +kernel
theorem dX7_tries_32 : decode cX7_tries 32 = .ok (.istore 4, 2) := by decide +kernel
theorem dX7_tries_34 : decode cX7_tries 34 = .ok (.iconst 0, 1) := by decide +kernel
theorem dX7_tries_35 : decode cX7_tries 35 = .ok (.istore 5, 2) := by decide +kernel
theorem dX7_tries_37 : decode cX7_tries 37 = .ok (.iload 5, 2) := by decide +kernel
theorem dX7_tries_39 : decode cX7_tries 39 = .ok (.iload_n 2, 1) := by decide +kernel
theorem dX7_tries_40 : decode cX7_tries 40 = .ok (.if_icmp .ge 48, 3) := by decide +kernel
theorem dX7_tries_43 : decode cX7_tries 43 = .ok (.aload_n 0, 1) := by decide +kernel
theorem dX7_tries_44 : decode cX7_tries 44 = .ok (.invokevirtual 227, 3) := by decide +kernel
theorem dX7_tries_47 : decode cX7_tries 47 = .ok (.ifCond .ne 10, 3) := by decide +kernel
theorem dX7_tries_50 : decode cX7_tries 50 = .ok (.aload_n 0, 1) := by decide +kernel
theorem dX7_tries_51 : decode cX7_tries 51 = .ok (.invokevirtual 242, 3) := by decide +kernel
theorem dX7_tries_54 : decode cX7_tries 54 = .ok (.goto (-11), 3) := by decide +kernel
theorem dX7_tries_57 : decode cX7_tries 57 = .ok (.iload 4, 2) := by decide +kernel
theorem dX7_tries_59 : decode cX7_tries 59 = .ok (.aload_n 0, 1) := by decide +kernel
theorem dX7_tries_60 : decode cX7_tries 60 = .ok (.invokevirtual 245, 3) := by decide +kernel
theorem dX7_tries_63 : decode cX7_tries 63 = .ok (.iload_n 1, 1) := by decide +kernel
theorem dX7_tries_64 : decode cX7_tries 64 = .ok (.if_icmp .ne 7, 3) := by decide +kernel
theorem dX7_tries_67 : decode cX7_tries 67 = .ok (.iconst 1, 1) := by decide +kernel
theorem dX7_tries_68 : decode cX7_tries 68 = .ok (.goto 4, 3) := by decide +kernel
theorem dX7_tries_71 : decode cX7_tries 71 = .ok (.iconst 0, 1) := by decide +kernel
theorem dX7_tries_72 : decode cX7_tries 72 = .ok (.iadd, 1) := by decide +kernel
theorem dX7_tries_73 : decode cX7_tries 73 = .ok (.istore 4, 2) := by decide +kernel
theorem dX7_tries_75 : decode cX7_tries 75 = .ok (.aload_n 0, 1) := by decide +kernel
theorem dX7_tries_76 : decode cX7_tries 76 = .ok (.getfield 7, 3) := by decide +kernel
theorem dX7_tries_79 : decode cX7_tries 79 = .ok (.iconst 2, 1) := by decide +kernel
theorem dX7_tries_80 : decode cX7_tries 80 = .ok (.iload_n 3, 1) := by decide +kernel
theorem dX7_tries_81 : decode cX7_tries 81 = .ok (.iastore, 1) := by decide +kernel
theorem dX7_tries_82 : decode cX7_tries 82 = .ok (.iinc 5 1, 3) := by decide +kernel
theorem dX7_tries_85 : decode cX7_tries 85 = .ok (.goto (-48), 3) := by decide +kernel
theorem dX7_tries_88 : decode cX7_tries 88 = .ok (.iload 4, 2) := by decide +kernel
theorem dX7_tries_90 : decode cX7_tries 90 = .ok (.ireturn, 1) := by decide +kernel
set_option maxHeartbeats 4000000 in
set_option maxRecDepth 100000 in
theorem c_X7_tries (l : Launch) (D : va_G) (cy : Nat → ClassId) (ad adK adV : Nat → Nat) (M : Mm) (o0 : Nat) (a1 : Int32) (a2 : Int32) (res : Mm × Int32) (h : f_X7_tries M o0 a1 a2 = some res) : Met l yX7_tries (wU yX7_tries cX7_tries 6 (some .int)) rmX7_tries (va_Pc [.ref (ad o0), .int a1, .int a2] (Pre D cy shM ad nM adK adV M)) (va_Qi (fun r (M2 : Mm) => r = res.2 ∧ M2 = res.1) (Pre D cy shM ad nM adK adV) (Aw ad nM)) 0 0 (Aw ad nM) := by
  refine Met.ofW (cc := cX7_tries) (maxL := 6) (ret := (some .int)) (by decide) rfl ?_
  intro p e s m args below meth c s₁ B hml hv
  obtain ⟨hargs, hPre⟩ := hv
  have hx := B.exec
  have hb := B.bytes
  have hr := B.returns
  have hts := atoms_spec (ws := wU yX7_tries cX7_tries 6 (some .int)) B.pre
  have hq : ∀ w ∈ gW, w.before args s = true := fun w hw => hts w (List.mem_cons_of_mem _ hw)
  have hcm : ∀ w ∈ gW, w ∈ wU yX7_tries cX7_tries 6 (some .int) := fun w hw => List.mem_cons_of_mem _ hw
  have hown : s.vm.findClass RX7 = some m.cls := findClass_of_methodNamed B.named
  have hlocks := B.notSynchronized
  have hF : CallFix p m c cX7_tries 6 s args (wU yX7_tries cX7_tries 6 (some .int)) RX7 := ⟨hx, hb, hml, hown, hts⟩
  have hK := hPre.2.1
  have hZ := hPre.2.2.2
  have hw : Wd D cy shM ad nM (Aw ad nM) s.heap M s.heap [] := ⟨hPre.1, hPre.2.2.1, va_S.rf⟩
  have iw7 : ∀ w ∈ u_ws RX7 TX7 30, w ∈ wU yX7_tries cX7_tries 6 (some .int) := fun w hw => List.mem_cons_of_mem _ (iX7 w hw)
  rw [show entryFrame m args 6 = entryFrame m ([.ref (ad o0), .int a1, .int a2] : List Value).toArray 6 from by rw [hargs]]
  have hl := lv_entry ([.ref (ad o0), .int a1, .int a2]) (n := 6) (Nat.le_of_ble_eq_true rfl)
  rw [lg_entry_eq]
  generalize (lg_sl ([.ref (ad o0), .int a1, .int a2]) ++ List.replicate (6 - (lg_sl ([.ref (ad o0), .int a1, .int a2])).length) Slot.unset).toArray = ls at hl ⊢
  have hl : lv_has ls 6 [(0, .ref (ad o0)), (1, .int a1), (2, .int a2)] := hl
  have hb72 : ∀ (k37 : Mm → Nat → Int32 → Int32 → Int32 → Int32 → Int32 → Option (Mm × Int32)) (hk37 : ∀ (M : Mm) (x0 : Nat) (x1 : Int32) (x2 : Int32) (x3 : Int32) (x4 : Int32) (x5 : Int32), k37 M x0 x1 x2 x3 x4 x5 = some res → ∀ (H : Heap) (locs : List Loc) (ls : Array Slot), Wd D cy shM ad nM (Aw ad nM) s.heap M H locs → lv_has ls 6 [(0, .ref (ad x0)), (1, .int x1), (2, .int x2), (3, .int x3), (4, .int x4), (5, .int x5)] → W p l e (headSpec (wU yX7_tries cX7_tries 6 (some .int)) rmX7_tries).room s m args below meth c H locs 0 0 (QI D cy shM ad nM adK adV below args s res) (F0 m 37 ls [])), ∀ (M : Mm) (x0 : Nat) (x1 : Int32) (x2 : Int32) (x3 : Int32) (x5 : Int32) (t0 : Int32) (t1 : Int32), f_X7_tries_b72 k37 M x0 x1 x2 x3 x5 t0 t1 = some res → ∀ (H : Heap) (locs : List Loc) (ls : Array Slot), Wd D cy shM ad nM (Aw ad nM) s.heap M H locs → lv_has ls 6 [(0, .ref (ad x0)), (1, .int x1), (2, .int x2), (3, .int x3), (5, .int x5)] → W p l e (headSpec (wU yX7_tries cX7_tries 6 (some .int)) rmX7_tries).room s m args below meth c H locs 0 0 (QI D cy shM ad nM adK adV below args s res) (F0 m 72 ls [.int t1, .int t0]) := by
    intro k37 hk37
    intro M x0 x1 x2 x3 x5 t0 t1 h H locs ls hw hl
    unfold f_X7_tries_b72 at h
    refine lv_iadd hx hb dX7_tries_72 ?_
    refine lv_istore (lv' := [(4, .int (t0 + t1)), (0, .ref (ad x0)), (1, .int x1), (2, .int x2), (3, .int x3), (5, .int x5)]) hx hb dX7_tries_73 hl (by decide) rfl (fun ls hl => ?_)
    refine lv_aload_n hx hb dX7_tries_75 rfl (lv_at hl 1 rfl) ?_
    replace h := gd_some h
    obtain ⟨g1, h⟩ := h
    replace h := bd_some h
    obtain ⟨q2, eq2, h⟩ := h
    refine r_getR hx hb hts iw7 hown hK hw x0 0 g1 (by decide) rfl (by decide) rfl (hq _ qw888) (fun _ h9 => h9) dX7_tries_76 eq2 ?_
    refine lv_iconst (v := (2 : Int32)) hx hb dX7_tries_79 (by decide) ?_
    refine lv_iload_n hx hb dX7_tries_80 rfl (lv_at hl 4 rfl) ?_
    replace h := gd_some h
    obtain ⟨g3, h⟩ := h
    refine r_iast hx hb hK hw q2 g3 dX7_tries_81 (fun H locs hw => ?_)
    replace h := lt_some h
    obtain ⟨M4, eM4, h⟩ := h
    rw [← eM4] at hw
    refine lv_iinc (v := x5 + (1 : Int32)) (lv' := [(5, .int (x5 + (1 : Int32))), (4, .int (t0 + t1)), (0, .ref (ad x0)), (1, .int x1), (2, .int x2), (3, .int x3)]) hx hb dX7_tries_82 hl (k := 5) rfl (congrArg (fun z => x5 + z) (by decide)) (by decide) rfl (fun ls hl => ?_)
    refine lv_goto (tgt := 37) hx hb dX7_tries_85 (by decide) ?_
    exact hk37 _ _ _ _ _ _ _ h _ _ _ hw (lv_sub hl [2, 3, 4, 5, 1, 0] rfl)
  have hb43 : ∀ (k37 : Mm → Nat → Int32 → Int32 → Int32 → Int32 → Int32 → Option (Mm × Int32)) (hk37 : ∀ (M : Mm) (x0 : Nat) (x1 : Int32) (x2 : Int32) (x3 : Int32) (x4 : Int32) (x5 : Int32), k37 M x0 x1 x2 x3 x4 x5 = some res → ∀ (H : Heap) (locs : List Loc) (ls : Array Slot), Wd D cy shM ad nM (Aw ad nM) s.heap M H locs → lv_has ls 6 [(0, .ref (ad x0)), (1, .int x1), (2, .int x2), (3, .int x3), (4, .int x4), (5, .int x5)] → W p l e (headSpec (wU yX7_tries cX7_tries 6 (some .int)) rmX7_tries).room s m args below meth c H locs 0 0 (QI D cy shM ad nM adK adV below args s res) (F0 m 37 ls [])), ∀ (nn : Nat), ∀ (M : Mm) (x0 : Nat) (x1 : Int32) (x2 : Int32) (x3 : Int32) (x4 : Int32) (x5 : Int32), f_X7_tries_b43 k37 nn M x0 x1 x2 x3 x4 x5 = some res → ∀ (H : Heap) (locs : List Loc) (ls : Array Slot), Wd D cy shM ad nM (Aw ad nM) s.heap M H locs → lv_has ls 6 [(0, .ref (ad x0)), (1, .int x1), (2, .int x2), (3, .int x3), (4, .int x4), (5, .int x5)] → W p l e (headSpec (wU yX7_tries cX7_tries 6 (some .int)) rmX7_tries).room s m args below meth c H locs 0 0 (QI D cy shM ad nM adK adV below args s res) (F0 m 43 ls []) := by
    intro k37 hk37
    intro nn
    induction nn with
    | zero => intro M x0 x1 x2 x3 x4 x5 h; simp [f_X7_tries_b43] at h
    | succ nn ih =>
      intro M x0 x1 x2 x3 x4 x5 h H locs ls hw hl
      unfold f_X7_tries_b43 at h
      refine lv_aload_n hx hb dX7_tries_43 rfl (lv_at hl 0 rfl) ?_
      replace h := gd_some h
      obtain ⟨g6, h⟩ := h
      replace h := bd_some h
      obtain ⟨r5, er5, h⟩ := h
      refine r_callVi (As := []) (rest := []) hF (c_X7_isOver l D cy ad adK adV M x0 r5 er5) (gW_goodV hcm qw1138 qw1135 qw1137 qw41 qw67) hdX7_isOver rfl ⟨Nat.le_of_ble_eq_true rfl, Nat.le_of_ble_eq_true rfl⟩ rfl rfl hZ hK hw g6 (by decide) rfl rfl hl.1 rfl (Nat.le_of_ble_eq_true rfl) ⟨Nat.zero_le _, Nat.zero_le _⟩ dX7_tries_44 (fun H locs hw => ?_)
      refine lv_if_ne (tgt := 57) hx hb dX7_tries_47 (by decide) (fun c7 => ?_) (fun c7 => ?_)
      · replace h := if_some_f c7 h
        refine lv_iload hx hb dX7_tries_57 (lv_at hl 4 rfl) ?_
        refine lv_aload_n hx hb dX7_tries_59 rfl (lv_at hl 0 rfl) ?_
        replace h := bd_some h
        obtain ⟨r8, er8, h⟩ := h
        refine r_callVi (As := []) (rest := [.int x4]) hF (c_X7_leader l D cy ad adK adV r5.1 x0 r8 er8) (gW_goodV hcm qw1195 qw1192 qw1194 qw51 qw67) hdX7_leader rfl ⟨Nat.le_of_ble_eq_true rfl, Nat.le_of_ble_eq_true rfl⟩ rfl rfl hZ hK hw g6 (by decide) rfl rfl hl.1 rfl (Nat.le_of_ble_eq_true rfl) ⟨Nat.zero_le _, Nat.zero_le _⟩ dX7_tries_60 (fun H locs hw => ?_)
        refine lv_iload_n hx hb dX7_tries_63 rfl (lv_at hl 1 rfl) ?_
        refine lv_icmp_ne (tgt := 71) hx hb dX7_tries_64 (by decide) (fun c9 => ?_) (fun c9 => ?_)
        · replace h := if_some_f c9 h
          refine lv_iconst (v := (0 : Int32)) hx hb dX7_tries_71 (by decide) ?_
          exact hb72 _ hk37 _ _ _ _ _ _ _ _ h _ _ _ hw (lv_sub hl [0, 1, 2, 3, 5] rfl)
        · replace h := if_some_t c9 h
          refine lv_iconst (v := (1 : Int32)) hx hb dX7_tries_67 (by decide) ?_
          refine lv_goto (tgt := 72) hx hb dX7_tries_68 (by decide) ?_
          exact hb72 _ hk37 _ _ _ _ _ _ _ _ h _ _ _ hw (lv_sub hl [0, 1, 2, 3, 5] rfl)
      · replace h := if_some_t c7 h
        refine lv_aload_n hx hb dX7_tries_50 rfl (lv_at hl 0 rfl) ?_
        replace h := bd_some h
        obtain ⟨r10, er10, h⟩ := h
        refine r_callVv (As := []) (rest := []) hF (c_X7_drawsNext l D cy ad adK adV r5.1 x0 r10 er10) (gW_goodV hcm qw1178 qw1175 qw1177 qw49 qw67) hdX7_drawsNext rfl ⟨Nat.le_of_ble_eq_true rfl, Nat.le_of_ble_eq_true rfl⟩ rfl rfl hZ hK hw g6 (by decide) rfl rfl hl.1 rfl (Nat.le_of_ble_eq_true rfl) ⟨Nat.zero_le _, Nat.zero_le _⟩ dX7_tries_51 (fun H locs hw => ?_)
        refine lv_goto (tgt := 43) hx hb dX7_tries_54 (by decide) ?_
        exact ih _ _ _ _ _ _ _ h _ _ _ hw (lv_sub hl [0, 1, 2, 3, 4, 5] rfl)
  have hb37 : ∀ (nn : Nat), ∀ (M : Mm) (x0 : Nat) (x1 : Int32) (x2 : Int32) (x3 : Int32) (x4 : Int32) (x5 : Int32), f_X7_tries_b37 nn M x0 x1 x2 x3 x4 x5 = some res → ∀ (H : Heap) (locs : List Loc) (ls : Array Slot), Wd D cy shM ad nM (Aw ad nM) s.heap M H locs → lv_has ls 6 [(0, .ref (ad x0)), (1, .int x1), (2, .int x2), (3, .int x3), (4, .int x4), (5, .int x5)] → W p l e (headSpec (wU yX7_tries cX7_tries 6 (some .int)) rmX7_tries).room s m args below meth c H locs 0 0 (QI D cy shM ad nM adK adV below args s res) (F0 m 37 ls []) := by
    intro nn
    induction nn with
    | zero => intro M x0 x1 x2 x3 x4 x5 h; simp [f_X7_tries_b37] at h
    | succ nn ih =>
      intro M x0 x1 x2 x3 x4 x5 h H locs ls hw hl
      unfold f_X7_tries_b37 at h
      refine lv_iload hx hb dX7_tries_37 (lv_at hl 5 rfl) ?_
      refine lv_iload_n hx hb dX7_tries_39 rfl (lv_at hl 2 rfl) ?_
      refine lv_icmp_ge (tgt := 88) hx hb dX7_tries_40 (by decide) (fun c11 => ?_) (fun c11 => ?_)
      · replace h := if_some_t c11 h
        refine lv_iload hx hb dX7_tries_88 (lv_at hl 4 rfl) ?_
        exact r_iret hx hb hr rfl hlocks hZ hK hw h dX7_tries_90
      · replace h := if_some_f c11 h
        exact hb43 _ ih 1000 _ _ _ _ _ _ _ h _ _ _ hw (lv_sub hl [0, 1, 2, 3, 4, 5] rfl)
  have hb18 : ∀ (M : Mm) (x0 : Nat), f_X7_tries_b18 M x0 = some res → ∀ (H : Heap) (locs : List Loc) (ls : Array Slot), Wd D cy shM ad nM (Aw ad nM) s.heap M H locs → lv_has ls 6 [(0, .ref (ad x0))] → W p l e (headSpec (wU yX7_tries cX7_tries 6 (some .int)) rmX7_tries).room s m args below meth c H locs 0 0 (QI D cy shM ad nM adK adV below args s res) (F0 m 18 ls []) := by
    intro M x0 h H locs ls hw hl
    unfold f_X7_tries_b18 at h
    refine lv_aload_n hx hb dX7_tries_18 rfl (lv_at hl 0 rfl) ?_
    refine lv_iconst (v := (0 : Int32)) hx hb dX7_tries_19 (by decide) ?_
    replace h := gd_some h
    obtain ⟨g13, h⟩ := h
    replace h := bd_some h
    obtain ⟨r12, er12, h⟩ := h
    refine r_callVi (As := [.int (0 : Int32)]) (rest := []) hF (c_X7_finding l D cy ad adK adV M x0 (0 : Int32) r12 er12) (gW_goodV hcm qw989 qw986 qw988 qw18 qw67) hdX7_finding rfl ⟨Nat.le_of_ble_eq_true rfl, Nat.le_of_ble_eq_true rfl⟩ rfl rfl hZ hK hw g13 (by decide) rfl rfl hl.1 rfl (Nat.le_of_ble_eq_true rfl) ⟨Nat.zero_le _, Nat.zero_le _⟩ dX7_tries_20 (fun H locs hw => ?_)
    exact r_iret hx hb hr rfl hlocks hZ hK hw h dX7_tries_23
  unfold f_X7_tries at h
  refine lv_aload_n hx hb dX7_tries_0 rfl (lv_at hl 0 rfl) ?_
  refine lv_iload_n hx hb dX7_tries_1 rfl (lv_at hl 1 rfl) ?_
  replace h := gd_some h
  obtain ⟨g15, h⟩ := h
  replace h := bd_some h
  obtain ⟨r14, er14, h⟩ := h
  refine r_callVi (As := [.int a1]) (rest := []) hF (c_X7_isSide l D cy ad adK adV M o0 a1 r14 er14) (gW_goodV hcm qw1002 qw999 qw1001 qw20 qw67) hdX7_isSide rfl ⟨Nat.le_of_ble_eq_true rfl, Nat.le_of_ble_eq_true rfl⟩ rfl rfl hZ hK hw g15 (by decide) rfl rfl hl.1 rfl (Nat.le_of_ble_eq_true rfl) ⟨Nat.zero_le _, Nat.zero_le _⟩ dX7_tries_2 (fun H locs hw => ?_)
  refine lv_if_eq (tgt := 18) hx hb dX7_tries_5 (by decide) (fun c16 => ?_) (fun c16 => ?_)
  · replace h := if_some_t c16 h
    exact hb18 _ _ h _ _ _ hw (lv_sub hl [0] rfl)
  · replace h := if_some_f c16 h
    refine lv_iload_n hx hb dX7_tries_8 rfl (lv_at hl 2 rfl) ?_
    refine lv_iconst (v := (1 : Int32)) hx hb dX7_tries_9 (by decide) ?_
    refine lv_bipush (v := (40 : Int32)) hx hb dX7_tries_10 (by decide) ?_
    replace h := bd_some h
    obtain ⟨r17, er17, h⟩ := h
    refine r_callSi (As := [.int a2, .int (1 : Int32), .int (40 : Int32)]) (rest := []) hF (c_X7_in l D cy ad adK adV r14.1 a2 (1 : Int32) (40 : Int32) r17 er17) (gW_goodS hcm qw985 qw983 qw984 qw67) hdX7_in ⟨Nat.le_of_ble_eq_true rfl, Nat.le_of_ble_eq_true rfl⟩ rfl rfl hZ hK hw rfl hl.1 rfl (Nat.le_of_ble_eq_true rfl) ⟨Nat.zero_le _, Nat.zero_le _⟩ dX7_tries_12 (fun H locs hw => ?_)
    refine lv_if_ne (tgt := 24) hx hb dX7_tries_15 (by decide) (fun c18 => ?_) (fun c18 => ?_)
    · replace h := if_some_f c18 h
      refine lv_aload_n hx hb dX7_tries_24 rfl (lv_at hl 0 rfl) ?_
      replace h := bd_some h
      obtain ⟨q19, eq19, h⟩ := h
      refine r_getR hx hb hts iw7 hown hK hw o0 0 g15 (by decide) rfl (by decide) rfl (hq _ qw888) (fun _ h9 => h9) dX7_tries_25 eq19 ?_
      refine lv_iconst (v := (2 : Int32)) hx hb dX7_tries_28 (by decide) ?_
      replace h := gd_some h
      obtain ⟨g20, h⟩ := h
      refine r_iald hx hb hK hw q19 g20 dX7_tries_29 ?_
      refine lv_istore_n (lv' := [(3, .int (r17.1.1 q19 (2 : Int32).toNatClampNeg)), (0, .ref (ad o0)), (1, .int a1), (2, .int a2)]) hx hb dX7_tries_30 rfl hl (by decide) rfl (fun ls hl => ?_)
      refine lv_iconst (v := (0 : Int32)) hx hb dX7_tries_31 (by decide) ?_
      refine lv_istore (lv' := [(4, .int (0 : Int32)), (3, .int (r17.1.1 q19 (2 : Int32).toNatClampNeg)), (0, .ref (ad o0)), (1, .int a1), (2, .int a2)]) hx hb dX7_tries_32 hl (by decide) rfl (fun ls hl => ?_)
      refine lv_iconst (v := (0 : Int32)) hx hb dX7_tries_34 (by decide) ?_
      refine lv_istore (lv' := [(5, .int (0 : Int32)), (4, .int (0 : Int32)), (3, .int (r17.1.1 q19 (2 : Int32).toNatClampNeg)), (0, .ref (ad o0)), (1, .int a1), (2, .int a2)]) hx hb dX7_tries_35 hl (by decide) rfl (fun ls hl => ?_)
      exact hb37 1000 _ _ _ _ _ _ _ h _ _ _ hw (lv_sub hl [3, 4, 5, 2, 1, 0] rfl)
    · replace h := if_some_t c18 h
      exact hb18 _ _ h _ _ _ hw (lv_sub hl [0] rfl)
theorem dX7_seed_0 : decode cX7_seed 0 = .ok (.aload_n 0, 1) := by decide +kernel
theorem dX7_seed_1 : decode cX7_seed 1 = .ok (.getfield 7, 3) := by decide +kernel
theorem dX7_seed_4 : decode cX7_seed 4 = .ok (.iconst 4, 1) := by decide +kernel
theorem dX7_seed_5 : decode cX7_seed 5 = .ok (.iaload, 1) := by decide +kernel
theorem dX7_seed_6 : decode cX7_seed 6 = .ok (.istore_n 2, 1) := by decide +kernel
theorem dX7_seed_7 : decode cX7_seed 7 = .ok (.aload_n 0, 1) := by decide +kernel
theorem dX7_seed_8 : decode cX7_seed 8 = .ok (.getfield 7, 3) := by decide +kernel
theorem dX7_seed_11 : decode cX7_seed 11 = .ok (.iconst 4, 1) := by decide +kernel
theorem dX7_seed_12 : decode cX7_seed 12 = .ok (.iload_n 1, 1) := by decide +kernel
theorem dX7_seed_13 : decode cX7_seed 13 = .ok (.iastore, 1) := by decide +kernel
theorem dX7_seed_14 : decode cX7_seed 14 = .ok (.iload_n 2, 1) := by decide +kernel
theorem dX7_seed_15 : decode cX7_seed 15 = .ok (.ireturn, 1) := by decide +kernel
set_option maxHeartbeats 4000000 in
set_option maxRecDepth 100000 in
theorem c_X7_seed (l : Launch) (D : va_G) (cy : Nat → ClassId) (ad adK adV : Nat → Nat) (M : Mm) (o0 : Nat) (a1 : Int32) (res : Mm × Int32) (h : f_X7_seed M o0 a1 = some res) : Met l yX7_seed (wU yX7_seed cX7_seed 3 (some .int)) rmX7_seed (va_Pc [.ref (ad o0), .int a1] (Pre D cy shM ad nM adK adV M)) (va_Qi (fun r (M2 : Mm) => r = res.2 ∧ M2 = res.1) (Pre D cy shM ad nM adK adV) (Aw ad nM)) 0 0 (Aw ad nM) := by
  refine Met.ofW (cc := cX7_seed) (maxL := 3) (ret := (some .int)) (by decide) rfl ?_
  intro p e s m args below meth c s₁ B hml hv
  obtain ⟨hargs, hPre⟩ := hv
  have hx := B.exec
  have hb := B.bytes
  have hr := B.returns
  have hts := atoms_spec (ws := wU yX7_seed cX7_seed 3 (some .int)) B.pre
  have hq : ∀ w ∈ gW, w.before args s = true := fun w hw => hts w (List.mem_cons_of_mem _ hw)
  have hcm : ∀ w ∈ gW, w ∈ wU yX7_seed cX7_seed 3 (some .int) := fun w hw => List.mem_cons_of_mem _ hw
  have hown : s.vm.findClass RX7 = some m.cls := findClass_of_methodNamed B.named
  have hlocks := B.notSynchronized
  have hF : CallFix p m c cX7_seed 3 s args (wU yX7_seed cX7_seed 3 (some .int)) RX7 := ⟨hx, hb, hml, hown, hts⟩
  have hK := hPre.2.1
  have hZ := hPre.2.2.2
  have hw : Wd D cy shM ad nM (Aw ad nM) s.heap M s.heap [] := ⟨hPre.1, hPre.2.2.1, va_S.rf⟩
  have iw7 : ∀ w ∈ u_ws RX7 TX7 30, w ∈ wU yX7_seed cX7_seed 3 (some .int) := fun w hw => List.mem_cons_of_mem _ (iX7 w hw)
  rw [show entryFrame m args 3 = entryFrame m ([.ref (ad o0), .int a1] : List Value).toArray 3 from by rw [hargs]]
  have hl := lv_entry ([.ref (ad o0), .int a1]) (n := 3) (Nat.le_of_ble_eq_true rfl)
  rw [lg_entry_eq]
  generalize (lg_sl ([.ref (ad o0), .int a1]) ++ List.replicate (3 - (lg_sl ([.ref (ad o0), .int a1])).length) Slot.unset).toArray = ls at hl ⊢
  have hl : lv_has ls 3 [(0, .ref (ad o0)), (1, .int a1)] := hl
  unfold f_X7_seed at h
  refine lv_aload_n hx hb dX7_seed_0 rfl (lv_at hl 0 rfl) ?_
  replace h := gd_some h
  obtain ⟨g1, h⟩ := h
  replace h := bd_some h
  obtain ⟨q2, eq2, h⟩ := h
  refine r_getR hx hb hts iw7 hown hK hw o0 0 g1 (by decide) rfl (by decide) rfl (hq _ qw888) (fun _ h9 => h9) dX7_seed_1 eq2 ?_
  refine lv_iconst (v := (4 : Int32)) hx hb dX7_seed_4 (by decide) ?_
  replace h := gd_some h
  obtain ⟨g3, h⟩ := h
  refine r_iald hx hb hK hw q2 g3 dX7_seed_5 ?_
  refine lv_istore_n (lv' := [(2, .int (M.1 q2 (4 : Int32).toNatClampNeg)), (0, .ref (ad o0)), (1, .int a1)]) hx hb dX7_seed_6 rfl hl (by decide) rfl (fun ls hl => ?_)
  refine lv_aload_n hx hb dX7_seed_7 rfl (lv_at hl 1 rfl) ?_
  replace h := bd_some h
  obtain ⟨q4, eq4, h⟩ := h
  refine r_getR hx hb hts iw7 hown hK hw o0 0 g1 (by decide) rfl (by decide) rfl (hq _ qw888) (fun _ h9 => h9) dX7_seed_8 eq4 ?_
  refine lv_iconst (v := (4 : Int32)) hx hb dX7_seed_11 (by decide) ?_
  refine lv_iload_n hx hb dX7_seed_12 rfl (lv_at hl 2 rfl) ?_
  replace h := gd_some h
  obtain ⟨g5, h⟩ := h
  refine r_iast hx hb hK hw q4 g5 dX7_seed_13 (fun H locs hw => ?_)
  replace h := lt_some h
  obtain ⟨M6, eM6, h⟩ := h
  rw [← eM6] at hw
  refine lv_iload_n hx hb dX7_seed_14 rfl (lv_at hl 0 rfl) ?_
  exact r_iret hx hb hr rfl hlocks hZ hK hw h dX7_seed_15
theorem dX7_hold_0 : decode cX7_hold 0 = .ok (.iload_n 1, 1) := by decide +kernel
theorem dX7_hold_1 : decode cX7_hold 1 = .ok (.iconst 0, 1) := by decide +kernel
theorem dX7_hold_2 : decode cX7_hold 2 = .ok (.bipush 9, 2) := by decide +kernel
theorem dX7_hold_4 : decode cX7_hold 4 = .ok (.invokestatic 67, 3) := by decide +kernel
theorem dX7_hold_7 : decode cX7_hold 7 = .ok (.ifCond .eq 16, 3) := by decide +kernel
theorem dX7_hold_10 : decode cX7_hold 10 = .ok (.iload_n 2, 1) := by decide +kernel
theorem dX7_hold_11 : decode cX7_hold 11 = .ok (.iconst (-1), 1) := by decide +kernel
theorem dX7_hold_12 : decode cX7_hold 12 = .ok (.if_icmp .eq 17, 3) := by decide +kernel
theorem dX7_hold_15 : decode cX7_hold 15 = .ok (.aload_n 0, 1) := by decide +kernel
theorem dX7_hold_16 : decode cX7_hold 16 = .ok (.iload_n 2, 1) := by decide +kernel
theorem dX7_hold_17 : decode cX7_hold 17 = .ok (.invokevirtual 121, 3) := by decide +kernel
theorem dX7_hold_20 : decode cX7_hold 20 = .ok (.ifCond .ne 9, 3) := by decide +kernel
theorem dX7_hold_23 : decode cX7_hold 23 = .ok (.aload_n 0, 1) := by decide +kernel
theorem dX7_hold_24 : decode cX7_hold 24 = .ok (.iconst 0, 1) := by decide +kernel
theorem dX7_hold_25 : decode cX7_hold 25 = .ok (.invokevirtual 115, 3) := by decide +kernel
theorem dX7_hold_28 : decode cX7_hold 28 = .ok (.ireturn, 1) := by decide +kernel
theorem dX7_hold_29 : decode cX7_hold 29 = .ok (.aload_n 0, 1) := by decide +kernel
theorem dX7_hold_30 : decode cX7_hold 30 = .ok (.getfield 7, 3) := by decide +kernel
theorem dX7_hold_33 : decode cX7_hold 33 = .ok (.bipush 79, 2) := by decide +kernel
theorem dX7_hold_35 : decode cX7_hold 35 = .ok (.iload_n 1, 1) := by decide +kernel
theorem dX7_hold_36 : decode cX7_hold 36 = .ok (.iadd, 1) := by decide +kernel
theorem dX7_hold_37 : decode cX7_hold 37 = .ok (.iload_n 2, 1) := by decide +kernel
theorem dX7_hold_38 : decode cX7_hold 38 = .ok (.iastore, 1) := by decide +kernel
theorem dX7_hold_39 : decode cX7_hold 39 = .ok (.iconst 1, 1) := by decide +kernel
theorem dX7_hold_40 : decode cX7_hold 40 = .ok (.ireturn, 1) := by decide +kernel
set_option maxHeartbeats 4000000 in
set_option maxRecDepth 100000 in
theorem c_X7_hold (l : Launch) (D : va_G) (cy : Nat → ClassId) (ad adK adV : Nat → Nat) (M : Mm) (o0 : Nat) (a1 : Int32) (a2 : Int32) (res : Mm × Int32) (h : f_X7_hold M o0 a1 a2 = some res) : Met l yX7_hold (wU yX7_hold cX7_hold 3 (some .int)) rmX7_hold (va_Pc [.ref (ad o0), .int a1, .int a2] (Pre D cy shM ad nM adK adV M)) (va_Qi (fun r (M2 : Mm) => r = res.2 ∧ M2 = res.1) (Pre D cy shM ad nM adK adV) (Aw ad nM)) 0 0 (Aw ad nM) := by
  refine Met.ofW (cc := cX7_hold) (maxL := 3) (ret := (some .int)) (by decide) rfl ?_
  intro p e s m args below meth c s₁ B hml hv
  obtain ⟨hargs, hPre⟩ := hv
  have hx := B.exec
  have hb := B.bytes
  have hr := B.returns
  have hts := atoms_spec (ws := wU yX7_hold cX7_hold 3 (some .int)) B.pre
  have hq : ∀ w ∈ gW, w.before args s = true := fun w hw => hts w (List.mem_cons_of_mem _ hw)
  have hcm : ∀ w ∈ gW, w ∈ wU yX7_hold cX7_hold 3 (some .int) := fun w hw => List.mem_cons_of_mem _ hw
  have hown : s.vm.findClass RX7 = some m.cls := findClass_of_methodNamed B.named
  have hlocks := B.notSynchronized
  have hF : CallFix p m c cX7_hold 3 s args (wU yX7_hold cX7_hold 3 (some .int)) RX7 := ⟨hx, hb, hml, hown, hts⟩
  have hK := hPre.2.1
  have hZ := hPre.2.2.2
  have hw : Wd D cy shM ad nM (Aw ad nM) s.heap M s.heap [] := ⟨hPre.1, hPre.2.2.1, va_S.rf⟩
  have iw7 : ∀ w ∈ u_ws RX7 TX7 30, w ∈ wU yX7_hold cX7_hold 3 (some .int) := fun w hw => List.mem_cons_of_mem _ (iX7 w hw)
  rw [show entryFrame m args 3 = entryFrame m ([.ref (ad o0), .int a1, .int a2] : List Value).toArray 3 from by rw [hargs]]
  have hl := lv_entry ([.ref (ad o0), .int a1, .int a2]) (n := 3) (Nat.le_of_ble_eq_true rfl)
  rw [lg_entry_eq]
  generalize (lg_sl ([.ref (ad o0), .int a1, .int a2]) ++ List.replicate (3 - (lg_sl ([.ref (ad o0), .int a1, .int a2])).length) Slot.unset).toArray = ls at hl ⊢
  have hl : lv_has ls 3 [(0, .ref (ad o0)), (1, .int a1), (2, .int a2)] := hl
  have hb29 : ∀ (M : Mm) (x0 : Nat) (x1 : Int32) (x2 : Int32), f_X7_hold_b29 M x0 x1 x2 = some res → ∀ (H : Heap) (locs : List Loc) (ls : Array Slot), Wd D cy shM ad nM (Aw ad nM) s.heap M H locs → lv_has ls 3 [(0, .ref (ad x0)), (1, .int x1), (2, .int x2)] → W p l e (headSpec (wU yX7_hold cX7_hold 3 (some .int)) rmX7_hold).room s m args below meth c H locs 0 0 (QI D cy shM ad nM adK adV below args s res) (F0 m 29 ls []) := by
    intro M x0 x1 x2 h H locs ls hw hl
    unfold f_X7_hold_b29 at h
    refine lv_aload_n hx hb dX7_hold_29 rfl (lv_at hl 0 rfl) ?_
    replace h := gd_some h
    obtain ⟨g1, h⟩ := h
    replace h := bd_some h
    obtain ⟨q2, eq2, h⟩ := h
    refine r_getR hx hb hts iw7 hown hK hw x0 0 g1 (by decide) rfl (by decide) rfl (hq _ qw888) (fun _ h9 => h9) dX7_hold_30 eq2 ?_
    refine lv_bipush (v := (79 : Int32)) hx hb dX7_hold_33 (by decide) ?_
    refine lv_iload_n hx hb dX7_hold_35 rfl (lv_at hl 1 rfl) ?_
    refine lv_iadd hx hb dX7_hold_36 ?_
    refine lv_iload_n hx hb dX7_hold_37 rfl (lv_at hl 2 rfl) ?_
    replace h := gd_some h
    obtain ⟨g3, h⟩ := h
    refine r_iast hx hb hK hw q2 g3 dX7_hold_38 (fun H locs hw => ?_)
    replace h := lt_some h
    obtain ⟨M4, eM4, h⟩ := h
    rw [← eM4] at hw
    refine lv_iconst (v := (1 : Int32)) hx hb dX7_hold_39 (by decide) ?_
    exact r_iret hx hb hr rfl hlocks hZ hK hw h dX7_hold_40
  have hb23 : ∀ (M : Mm) (x0 : Nat), f_X7_hold_b23 M x0 = some res → ∀ (H : Heap) (locs : List Loc) (ls : Array Slot), Wd D cy shM ad nM (Aw ad nM) s.heap M H locs → lv_has ls 3 [(0, .ref (ad x0))] → W p l e (headSpec (wU yX7_hold cX7_hold 3 (some .int)) rmX7_hold).room s m args below meth c H locs 0 0 (QI D cy shM ad nM adK adV below args s res) (F0 m 23 ls []) := by
    intro M x0 h H locs ls hw hl
    unfold f_X7_hold_b23 at h
    refine lv_aload_n hx hb dX7_hold_23 rfl (lv_at hl 0 rfl) ?_
    refine lv_iconst (v := (0 : Int32)) hx hb dX7_hold_24 (by decide) ?_
    replace h := gd_some h
    obtain ⟨g6, h⟩ := h
    replace h := bd_some h
    obtain ⟨r5, er5, h⟩ := h
    refine r_callVi (As := [.int (0 : Int32)]) (rest := []) hF (c_X7_finding l D cy ad adK adV M x0 (0 : Int32) r5 er5) (gW_goodV hcm qw989 qw986 qw988 qw18 qw67) hdX7_finding rfl ⟨Nat.le_of_ble_eq_true rfl, Nat.le_of_ble_eq_true rfl⟩ rfl rfl hZ hK hw g6 (by decide) rfl rfl hl.1 rfl (Nat.le_of_ble_eq_true rfl) ⟨Nat.zero_le _, Nat.zero_le _⟩ dX7_hold_25 (fun H locs hw => ?_)
    exact r_iret hx hb hr rfl hlocks hZ hK hw h dX7_hold_28
  unfold f_X7_hold at h
  refine lv_iload_n hx hb dX7_hold_0 rfl (lv_at hl 1 rfl) ?_
  refine lv_iconst (v := (0 : Int32)) hx hb dX7_hold_1 (by decide) ?_
  refine lv_bipush (v := (9 : Int32)) hx hb dX7_hold_2 (by decide) ?_
  replace h := bd_some h
  obtain ⟨r7, er7, h⟩ := h
  refine r_callSi (As := [.int a1, .int (0 : Int32), .int (9 : Int32)]) (rest := []) hF (c_X7_in l D cy ad adK adV M a1 (0 : Int32) (9 : Int32) r7 er7) (gW_goodS hcm qw985 qw983 qw984 qw67) hdX7_in ⟨Nat.le_of_ble_eq_true rfl, Nat.le_of_ble_eq_true rfl⟩ rfl rfl hZ hK hw rfl hl.1 rfl (Nat.le_of_ble_eq_true rfl) ⟨Nat.zero_le _, Nat.zero_le _⟩ dX7_hold_4 (fun H locs hw => ?_)
  refine lv_if_eq (tgt := 23) hx hb dX7_hold_7 (by decide) (fun c8 => ?_) (fun c8 => ?_)
  · replace h := if_some_t c8 h
    exact hb23 _ _ h _ _ _ hw (lv_sub hl [0] rfl)
  · replace h := if_some_f c8 h
    refine lv_iload_n hx hb dX7_hold_10 rfl (lv_at hl 2 rfl) ?_
    refine lv_iconst (v := (-1 : Int32)) hx hb dX7_hold_11 (by decide) ?_
    refine lv_icmp_eq (tgt := 29) hx hb dX7_hold_12 (by decide) (fun c9 => ?_) (fun c9 => ?_)
    · replace h := if_some_t c9 h
      exact hb29 _ _ _ _ h _ _ _ hw (lv_sub hl [0, 1, 2] rfl)
    · replace h := if_some_f c9 h
      refine lv_aload_n hx hb dX7_hold_15 rfl (lv_at hl 0 rfl) ?_
      refine lv_iload_n hx hb dX7_hold_16 rfl (lv_at hl 2 rfl) ?_
      replace h := gd_some h
      obtain ⟨g11, h⟩ := h
      replace h := bd_some h
      obtain ⟨r10, er10, h⟩ := h
      refine r_callVi (As := [.int a2]) (rest := []) hF (c_X7_isSide l D cy ad adK adV r7.1 o0 a2 r10 er10) (gW_goodV hcm qw1002 qw999 qw1001 qw20 qw67) hdX7_isSide rfl ⟨Nat.le_of_ble_eq_true rfl, Nat.le_of_ble_eq_true rfl⟩ rfl rfl hZ hK hw g11 (by decide) rfl rfl hl.1 rfl (Nat.le_of_ble_eq_true rfl) ⟨Nat.zero_le _, Nat.zero_le _⟩ dX7_hold_17 (fun H locs hw => ?_)
      refine lv_if_ne (tgt := 29) hx hb dX7_hold_20 (by decide) (fun c12 => ?_) (fun c12 => ?_)
      · replace h := if_some_f c12 h
        exact hb29 _ _ _ _ h _ _ _ hw (lv_sub hl [0, 1, 2] rfl)
      · replace h := if_some_t c12 h
        exact hb23 _ _ h _ _ _ hw (lv_sub hl [0] rfl)
theorem dX7_isUnder_0 : decode cX7_isUnder 0 = .ok (.iload_n 1, 1) := by decide +kernel
theorem dX7_isUnder_1 : decode cX7_isUnder 1 = .ok (.ifCond .eq 33, 3) := by decide +kernel
theorem dX7_isUnder_4 : decode cX7_isUnder 4 = .ok (.iload_n 0, 1) := by decide +kernel
theorem dX7_isUnder_5 : decode cX7_isUnder 5 = .ok (.iload_n 1, 1) := by decide +kernel
theorem dX7_isUnder_6 : decode cX7_isUnder 6 = .ok (.if_icmp .eq 28, 3) := by decide +kernel
theorem dX7_isUnder_9 : decode cX7_isUnder 9 = .ok (.iload_n 1, 1) := by decide +kernel
theorem dX7_isUnder_10 : decode cX7_isUnder 10 = .ok (.iconst 2, 1) := by decide +kernel
theorem dX7_isUnder_11 : decode cX7_isUnder 11 = .ok (.if_icmp .ne 13, 3) := by decide +kernel
theorem dX7_isUnder_14 : decode cX7_isUnder 14 = .ok (.iload_n 0, 1) := by decide +kernel
theorem dX7_isUnder_15 : decode cX7_isUnder 15 = .ok (.iconst 3, 1) := by decide +kernel
theorem dX7_isUnder_16 : decode cX7_isUnder 16 = .ok (.if_icmp .eq 18, 3) := by decide +kernel
theorem dX7_isUnder_19 : decode cX7_isUnder 19 = .ok (.iload_n 0, 1) := by decide +kernel
theorem dX7_isUnder_20 : decode cX7_isUnder 20 = .ok (.iconst 4, 1) := by decide +kernel
theorem dX7_isUnder_21 : decode cX7_isUnder 21 = .ok (.if_icmp .eq 13, 3) := by decide +kernel
theorem dX7_isUnder_24 : decode cX7_isUnder 24 = .ok (.iload_n 1, 1) := by decide +kernel
theorem dX7_isUnder_25 : decode cX7_isUnder 25 = .ok (.iconst 1, 1) := by decide +kernel
theorem dX7_isUnder_26 : decode cX7_isUnder 26 = .ok (.if_icmp .ne 12, 3) := by decide +kernel
theorem dX7_isUnder_29 : decode cX7_isUnder 29 = .ok (.iload_n 0, 1) := by decide +kernel
theorem dX7_isUnder_30 : decode cX7_isUnder 30 = .ok (.iconst 5, 1) := by decide +kernel
theorem dX7_isUnder_31 : decode cX7_isUnder 31 = .ok (.if_icmp .ne 7, 3) := by decide +kernel
theorem dX7_isUnder_34 : decode cX7_isUnder 34 = .ok (.iconst 1, 1) := by decide +kernel
theorem dX7_isUnder_35 : decode cX7_isUnder 35 = .ok (.goto 4, 3) := by decide +kernel
theorem dX7_isUnder_38 : decode cX7_isUnder 38 = .ok (.iconst 0, 1) := by decide +kernel
theorem dX7_isUnder_39 : decode cX7_isUnder 39 = .ok (.ireturn, 1) := by decide +kernel
set_option maxHeartbeats 4000000 in
set_option maxRecDepth 100000 in
theorem c_X7_isUnder (l : Launch) (D : va_G) (cy : Nat → ClassId) (ad adK adV : Nat → Nat) (M : Mm) (a0 : Int32) (a1 : Int32) (res : Mm × Int32) (h : f_X7_isUnder M a0 a1 = some res) : Met l yX7_isUnder (wU yX7_isUnder cX7_isUnder 2 (some .boolean)) rmX7_isUnder (va_Pc [.int a0, .int a1] (Pre D cy shM ad nM adK adV M)) (va_Qi (fun r (M2 : Mm) => r = res.2 ∧ M2 = res.1) (Pre D cy shM ad nM adK adV) (Aw ad nM)) 0 0 (Aw ad nM) := by
  refine Met.ofW (cc := cX7_isUnder) (maxL := 2) (ret := (some .boolean)) (by decide) rfl ?_
  intro p e s m args below meth c s₁ B hml hv
  obtain ⟨hargs, hPre⟩ := hv
  have hx := B.exec
  have hb := B.bytes
  have hr := B.returns
  have hts := atoms_spec (ws := wU yX7_isUnder cX7_isUnder 2 (some .boolean)) B.pre
  have hq : ∀ w ∈ gW, w.before args s = true := fun w hw => hts w (List.mem_cons_of_mem _ hw)
  have hcm : ∀ w ∈ gW, w ∈ wU yX7_isUnder cX7_isUnder 2 (some .boolean) := fun w hw => List.mem_cons_of_mem _ hw
  have hown : s.vm.findClass RX7 = some m.cls := findClass_of_methodNamed B.named
  have hlocks := B.notSynchronized
  have hF : CallFix p m c cX7_isUnder 2 s args (wU yX7_isUnder cX7_isUnder 2 (some .boolean)) RX7 := ⟨hx, hb, hml, hown, hts⟩
  have hK := hPre.2.1
  have hZ := hPre.2.2.2
  have hw : Wd D cy shM ad nM (Aw ad nM) s.heap M s.heap [] := ⟨hPre.1, hPre.2.2.1, va_S.rf⟩
  rw [show entryFrame m args 2 = entryFrame m ([.int a0, .int a1] : List Value).toArray 2 from by rw [hargs]]
  have hl := lv_entry ([.int a0, .int a1]) (n := 2) (Nat.le_of_ble_eq_true rfl)
  rw [lg_entry_eq]
  generalize (lg_sl ([.int a0, .int a1]) ++ List.replicate (2 - (lg_sl ([.int a0, .int a1])).length) Slot.unset).toArray = ls at hl ⊢
  have hl : lv_has ls 2 [(0, .int a0), (1, .int a1)] := hl
  have hb34 : ∀ (M : Mm) , f_X7_isUnder_b34 M  = some res → ∀ (H : Heap) (locs : List Loc) (ls : Array Slot), Wd D cy shM ad nM (Aw ad nM) s.heap M H locs → lv_has ls 2 [] → W p l e (headSpec (wU yX7_isUnder cX7_isUnder 2 (some .boolean)) rmX7_isUnder).room s m args below meth c H locs 0 0 (QI D cy shM ad nM adK adV below args s res) (F0 m 34 ls []) := by
    intro M h H locs ls hw hl
    unfold f_X7_isUnder_b34 at h
    refine lv_iconst (v := (1 : Int32)) hx hb dX7_isUnder_34 (by decide) ?_
    refine lv_goto (tgt := 39) hx hb dX7_isUnder_35 (by decide) ?_
    exact r_iret hx hb hr rfl hlocks hZ hK hw h dX7_isUnder_39
  have hb24 : ∀ (M : Mm) (x0 : Int32) (x1 : Int32), f_X7_isUnder_b24 M x0 x1 = some res → ∀ (H : Heap) (locs : List Loc) (ls : Array Slot), Wd D cy shM ad nM (Aw ad nM) s.heap M H locs → lv_has ls 2 [(0, .int x0), (1, .int x1)] → W p l e (headSpec (wU yX7_isUnder cX7_isUnder 2 (some .boolean)) rmX7_isUnder).room s m args below meth c H locs 0 0 (QI D cy shM ad nM adK adV below args s res) (F0 m 24 ls []) := by
    intro M x0 x1 h H locs ls hw hl
    unfold f_X7_isUnder_b24 at h
    refine lv_iload_n hx hb dX7_isUnder_24 rfl (lv_at hl 1 rfl) ?_
    refine lv_iconst (v := (1 : Int32)) hx hb dX7_isUnder_25 (by decide) ?_
    refine lv_icmp_ne (tgt := 38) hx hb dX7_isUnder_26 (by decide) (fun c1 => ?_) (fun c1 => ?_)
    · replace h := if_some_f c1 h
      refine lv_iconst (v := (0 : Int32)) hx hb dX7_isUnder_38 (by decide) ?_
      exact r_iret hx hb hr rfl hlocks hZ hK hw h dX7_isUnder_39
    · replace h := if_some_t c1 h
      refine lv_iload_n hx hb dX7_isUnder_29 rfl (lv_at hl 0 rfl) ?_
      refine lv_iconst (v := (5 : Int32)) hx hb dX7_isUnder_30 (by decide) ?_
      refine lv_icmp_ne (tgt := 38) hx hb dX7_isUnder_31 (by decide) (fun c2 => ?_) (fun c2 => ?_)
      · replace h := if_some_f c2 h
        refine lv_iconst (v := (0 : Int32)) hx hb dX7_isUnder_38 (by decide) ?_
        exact r_iret hx hb hr rfl hlocks hZ hK hw h dX7_isUnder_39
      · replace h := if_some_t c2 h
        exact hb34 _ h _ _ _ hw (lv_sub hl [] rfl)
  unfold f_X7_isUnder at h
  refine lv_iload_n hx hb dX7_isUnder_0 rfl (lv_at hl 1 rfl) ?_
  refine lv_if_eq (tgt := 34) hx hb dX7_isUnder_1 (by decide) (fun c3 => ?_) (fun c3 => ?_)
  · replace h := if_some_t c3 h
    exact hb34 _ h _ _ _ hw (lv_sub hl [] rfl)
  · replace h := if_some_f c3 h
    refine lv_iload_n hx hb dX7_isUnder_4 rfl (lv_at hl 0 rfl) ?_
    refine lv_iload_n hx hb dX7_isUnder_5 rfl (lv_at hl 1 rfl) ?_
    refine lv_icmp_eq (tgt := 34) hx hb dX7_isUnder_6 (by decide) (fun c4 => ?_) (fun c4 => ?_)
    · replace h := if_some_t c4 h
      exact hb34 _ h _ _ _ hw (lv_sub hl [] rfl)
    · replace h := if_some_f c4 h
      refine lv_iload_n hx hb dX7_isUnder_9 rfl (lv_at hl 1 rfl) ?_
      refine lv_iconst (v := (2 : Int32)) hx hb dX7_isUnder_10 (by decide) ?_
      refine lv_icmp_ne (tgt := 24) hx hb dX7_isUnder_11 (by decide) (fun c5 => ?_) (fun c5 => ?_)
      · replace h := if_some_f c5 h
        exact hb24 _ _ _ h _ _ _ hw (lv_sub hl [0, 1] rfl)
      · replace h := if_some_t c5 h
        refine lv_iload_n hx hb dX7_isUnder_14 rfl (lv_at hl 0 rfl) ?_
        refine lv_iconst (v := (3 : Int32)) hx hb dX7_isUnder_15 (by decide) ?_
        refine lv_icmp_eq (tgt := 34) hx hb dX7_isUnder_16 (by decide) (fun c6 => ?_) (fun c6 => ?_)
        · replace h := if_some_t c6 h
          exact hb34 _ h _ _ _ hw (lv_sub hl [] rfl)
        · replace h := if_some_f c6 h
          refine lv_iload_n hx hb dX7_isUnder_19 rfl (lv_at hl 0 rfl) ?_
          refine lv_iconst (v := (4 : Int32)) hx hb dX7_isUnder_20 (by decide) ?_
          refine lv_icmp_eq (tgt := 34) hx hb dX7_isUnder_21 (by decide) (fun c7 => ?_) (fun c7 => ?_)
          · replace h := if_some_t c7 h
            exact hb34 _ h _ _ _ hw (lv_sub hl [] rfl)
          · replace h := if_some_f c7 h
            exact hb24 _ _ _ h _ _ _ hw (lv_sub hl [0, 1] rfl)
theorem dX7_as_0 : decode cX7_as 0 = .ok (.iload_n 1, 1) := by decide +kernel
theorem dX7_as_1 : decode cX7_as 1 = .ok (.iconst 0, 1) := by decide +kernel
theorem dX7_as_2 : decode cX7_as 2 = .ok (.bipush 9, 2) := by decide +kernel
theorem dX7_as_4 : decode cX7_as 4 = .ok (.invokestatic 67, 3) := by decide +kernel
theorem dX7_as_7 : decode cX7_as 7 = .ok (.ifCond .eq 13, 3) := by decide +kernel
theorem dX7_as_10 : decode cX7_as 10 = .ok (.iload_n 2, 1) := by decide +kernel
theorem dX7_as_11 : decode cX7_as 11 = .ok (.iconst 0, 1) := by decide +kernel
theorem dX7_as_12 : decode cX7_as 12 = .ok (.bipush 6, 2) := by decide +kernel
theorem dX7_as_14 : decode cX7_as 14 = .ok (.invokestatic 67, 3) := by decide +kernel
theorem dX7_as_17 : decode cX7_as 17 = .ok (.ifCond .ne 9, 3) := by decide +kernel
theorem dX7_as_20 : decode cX7_as 20 = .ok (.aload_n 0, 1) := by decide +kernel
theorem dX7_as_21 : decode cX7_as 21 = .ok (.iconst 0, 1) := by decide +kernel
theorem dX7_as_22 : decode cX7_as 22 = .ok (.invokevirtual 115, 3) := by decide +kernel
theorem dX7_as_25 : decode cX7_as 25 = .ok (.ireturn, 1) := by decide +kernel
theorem dX7_as_26 : decode cX7_as 26 = .ok (.aload_n 0, 1) := by decide +kernel
theorem dX7_as_27 : decode cX7_as 27 = .ok (.getfield 7, 3) := by decide +kernel
theorem dX7_as_30 : decode cX7_as 30 = .ok (.bipush 79, 2) := by decide +kernel
theorem dX7_as_32 : decode cX7_as 32 = .ok (.iload_n 1, 1) := by decide +kernel
theorem dX7_as_33 : decode cX7_as 33 = .ok (.iadd, 1) := by decide +kernel
theorem dX7_as_34 : decode cX7_as 34 = .ok (.iaload, 1) := by decide +kernel
theorem dX7_as_35 : decode cX7_as 35 = .ok (.istore_n 3, 1) := by decide +kernel
theorem dX7_as_36 : decode cX7_as 36 = .ok (.iload_n 3, 1) := by decide +kernel
theorem dX7_as_37 : decode cX7_as 37 = .ok (.iconst (-1), 1) := by decide +kernel
theorem dX7_as_38 : decode cX7_as 38 = .ok (.if_icmp .ne 9, 3) := by decide +kernel
theorem dX7_as_41 : decode cX7_as 41 = .ok (.aload_n 0, 1) := by decide +kernel
theorem dX7_as_42 : decode cX7_as 42 = .ok (.iconst 5, 1) := by decide +kernel
theorem dX7_as_43 : decode cX7_as 43 = .ok (.invokevirtual 115, 3) := by decide +kernel
theorem dX7_as_46 : decode cX7_as 46 = .ok (.ireturn, 1) := by decide +kernel
theorem dX7_as_47 : decode cX7_as 47 = .ok (.aload_n 0, 1) := by decide +kernel
theorem dX7_as_48 : decode cX7_as 48 = .ok (.iload_n 3, 1) := by decide +kernel
theorem dX7_as_49 : decode cX7_as 49 = .ok (.iconst 0, 1) := by decide +kernel
theorem dX7_as_50 : decode cX7_as 50 = .ok (.invokevirtual 89, 3) := by decide +kernel
theorem dX7_as_53 : decode cX7_as 53 = .ok (.iload_n 2, 1) := by decide +kernel
theorem dX7_as_54 : decode cX7_as 54 = .ok (.invokestatic 284, 3) := by decide +kernel
theorem dX7_as_57 : decode cX7_as 57 = .ok (.ifCond .eq 7, 3) := by decide +kernel
theorem dX7_as_60 : decode cX7_as 60 = .ok (.iload_n 3, 1) := by decide +kernel
theorem dX7_as_61 : decode cX7_as 61 = .ok (.goto 8, 3) := by decide +kernel
theorem dX7_as_64 : decode cX7_as 64 = .ok (.aload_n 0, 1) := by decide +kernel
theorem dX7_as_65 : decode cX7_as 65 = .ok (.iconst 2, 1) := by decide +kernel
theorem dX7_as_66 : decode cX7_as 66 = .ok (.invokevirtual 115, 3) := by decide +kernel
theorem dX7_as_69 : decode cX7_as 69 = .ok (.ireturn, 1) := by decide +kernel
set_option maxHeartbeats 4000000 in
set_option maxRecDepth 100000 in
theorem c_X7_as (l : Launch) (D : va_G) (cy : Nat → ClassId) (ad adK adV : Nat → Nat) (M : Mm) (o0 : Nat) (a1 : Int32) (a2 : Int32) (res : Mm × Int32) (h : f_X7_as M o0 a1 a2 = some res) : Met l yX7_as (wU yX7_as cX7_as 4 (some .int)) rmX7_as (va_Pc [.ref (ad o0), .int a1, .int a2] (Pre D cy shM ad nM adK adV M)) (va_Qi (fun r (M2 : Mm) => r = res.2 ∧ M2 = res.1) (Pre D cy shM ad nM adK adV) (Aw ad nM)) 0 0 (Aw ad nM) := by
  refine Met.ofW (cc := cX7_as) (maxL := 4) (ret := (some .int)) (by decide) rfl ?_
  intro p e s m args below meth c s₁ B hml hv
  obtain ⟨hargs, hPre⟩ := hv
  have hx := B.exec
  have hb := B.bytes
  have hr := B.returns
  have hts := atoms_spec (ws := wU yX7_as cX7_as 4 (some .int)) B.pre
  have hq : ∀ w ∈ gW, w.before args s = true := fun w hw => hts w (List.mem_cons_of_mem _ hw)
  have hcm : ∀ w ∈ gW, w ∈ wU yX7_as cX7_as 4 (some .int) := fun w hw => List.mem_cons_of_mem _ hw
  have hown : s.vm.findClass RX7 = some m.cls := findClass_of_methodNamed B.named
  have hlocks := B.notSynchronized
  have hF : CallFix p m c cX7_as 4 s args (wU yX7_as cX7_as 4 (some .int)) RX7 := ⟨hx, hb, hml, hown, hts⟩
  have hK := hPre.2.1
  have hZ := hPre.2.2.2
  have hw : Wd D cy shM ad nM (Aw ad nM) s.heap M s.heap [] := ⟨hPre.1, hPre.2.2.1, va_S.rf⟩
  have iw7 : ∀ w ∈ u_ws RX7 TX7 30, w ∈ wU yX7_as cX7_as 4 (some .int) := fun w hw => List.mem_cons_of_mem _ (iX7 w hw)
  rw [show entryFrame m args 4 = entryFrame m ([.ref (ad o0), .int a1, .int a2] : List Value).toArray 4 from by rw [hargs]]
  have hl := lv_entry ([.ref (ad o0), .int a1, .int a2]) (n := 4) (Nat.le_of_ble_eq_true rfl)
  rw [lg_entry_eq]
  generalize (lg_sl ([.ref (ad o0), .int a1, .int a2]) ++ List.replicate (4 - (lg_sl ([.ref (ad o0), .int a1, .int a2])).length) Slot.unset).toArray = ls at hl ⊢
  have hl : lv_has ls 4 [(0, .ref (ad o0)), (1, .int a1), (2, .int a2)] := hl
  have hb20 : ∀ (M : Mm) (x0 : Nat), f_X7_as_b20 M x0 = some res → ∀ (H : Heap) (locs : List Loc) (ls : Array Slot), Wd D cy shM ad nM (Aw ad nM) s.heap M H locs → lv_has ls 4 [(0, .ref (ad x0))] → W p l e (headSpec (wU yX7_as cX7_as 4 (some .int)) rmX7_as).room s m args below meth c H locs 0 0 (QI D cy shM ad nM adK adV below args s res) (F0 m 20 ls []) := by
    intro M x0 h H locs ls hw hl
    unfold f_X7_as_b20 at h
    refine lv_aload_n hx hb dX7_as_20 rfl (lv_at hl 0 rfl) ?_
    refine lv_iconst (v := (0 : Int32)) hx hb dX7_as_21 (by decide) ?_
    replace h := gd_some h
    obtain ⟨g2, h⟩ := h
    replace h := bd_some h
    obtain ⟨r1, er1, h⟩ := h
    refine r_callVi (As := [.int (0 : Int32)]) (rest := []) hF (c_X7_finding l D cy ad adK adV M x0 (0 : Int32) r1 er1) (gW_goodV hcm qw989 qw986 qw988 qw18 qw67) hdX7_finding rfl ⟨Nat.le_of_ble_eq_true rfl, Nat.le_of_ble_eq_true rfl⟩ rfl rfl hZ hK hw g2 (by decide) rfl rfl hl.1 rfl (Nat.le_of_ble_eq_true rfl) ⟨Nat.zero_le _, Nat.zero_le _⟩ dX7_as_22 (fun H locs hw => ?_)
    exact r_iret hx hb hr rfl hlocks hZ hK hw h dX7_as_25
  unfold f_X7_as at h
  refine lv_iload_n hx hb dX7_as_0 rfl (lv_at hl 1 rfl) ?_
  refine lv_iconst (v := (0 : Int32)) hx hb dX7_as_1 (by decide) ?_
  refine lv_bipush (v := (9 : Int32)) hx hb dX7_as_2 (by decide) ?_
  replace h := bd_some h
  obtain ⟨r3, er3, h⟩ := h
  refine r_callSi (As := [.int a1, .int (0 : Int32), .int (9 : Int32)]) (rest := []) hF (c_X7_in l D cy ad adK adV M a1 (0 : Int32) (9 : Int32) r3 er3) (gW_goodS hcm qw985 qw983 qw984 qw67) hdX7_in ⟨Nat.le_of_ble_eq_true rfl, Nat.le_of_ble_eq_true rfl⟩ rfl rfl hZ hK hw rfl hl.1 rfl (Nat.le_of_ble_eq_true rfl) ⟨Nat.zero_le _, Nat.zero_le _⟩ dX7_as_4 (fun H locs hw => ?_)
  refine lv_if_eq (tgt := 20) hx hb dX7_as_7 (by decide) (fun c4 => ?_) (fun c4 => ?_)
  · replace h := if_some_t c4 h
    exact hb20 _ _ h _ _ _ hw (lv_sub hl [0] rfl)
  · replace h := if_some_f c4 h
    refine lv_iload_n hx hb dX7_as_10 rfl (lv_at hl 2 rfl) ?_
    refine lv_iconst (v := (0 : Int32)) hx hb dX7_as_11 (by decide) ?_
    refine lv_bipush (v := (6 : Int32)) hx hb dX7_as_12 (by decide) ?_
    replace h := bd_some h
    obtain ⟨r5, er5, h⟩ := h
    refine r_callSi (As := [.int a2, .int (0 : Int32), .int (6 : Int32)]) (rest := []) hF (c_X7_in l D cy ad adK adV r3.1 a2 (0 : Int32) (6 : Int32) r5 er5) (gW_goodS hcm qw985 qw983 qw984 qw67) hdX7_in ⟨Nat.le_of_ble_eq_true rfl, Nat.le_of_ble_eq_true rfl⟩ rfl rfl hZ hK hw rfl hl.1 rfl (Nat.le_of_ble_eq_true rfl) ⟨Nat.zero_le _, Nat.zero_le _⟩ dX7_as_14 (fun H locs hw => ?_)
    refine lv_if_ne (tgt := 26) hx hb dX7_as_17 (by decide) (fun c6 => ?_) (fun c6 => ?_)
    · replace h := if_some_f c6 h
      refine lv_aload_n hx hb dX7_as_26 rfl (lv_at hl 0 rfl) ?_
      replace h := gd_some h
      obtain ⟨g7, h⟩ := h
      replace h := bd_some h
      obtain ⟨q8, eq8, h⟩ := h
      refine r_getR hx hb hts iw7 hown hK hw o0 0 g7 (by decide) rfl (by decide) rfl (hq _ qw888) (fun _ h9 => h9) dX7_as_27 eq8 ?_
      refine lv_bipush (v := (79 : Int32)) hx hb dX7_as_30 (by decide) ?_
      refine lv_iload_n hx hb dX7_as_32 rfl (lv_at hl 1 rfl) ?_
      refine lv_iadd hx hb dX7_as_33 ?_
      replace h := gd_some h
      obtain ⟨g9, h⟩ := h
      refine r_iald hx hb hK hw q8 g9 dX7_as_34 ?_
      refine lv_topi (fun y10 ey10 => ?_)
      replace h := lt_at ey10 h
      refine lv_istore_n (lv' := [(3, .int y10), (0, .ref (ad o0)), (1, .int a1), (2, .int a2)]) hx hb dX7_as_35 rfl hl (by decide) rfl (fun ls hl => ?_)
      refine lv_iload_n hx hb dX7_as_36 rfl (lv_at hl 0 rfl) ?_
      refine lv_iconst (v := (-1 : Int32)) hx hb dX7_as_37 (by decide) ?_
      refine lv_icmp_ne (tgt := 47) hx hb dX7_as_38 (by decide) (fun c11 => ?_) (fun c11 => ?_)
      · replace h := if_some_f c11 h
        refine lv_aload_n hx hb dX7_as_47 rfl (lv_at hl 1 rfl) ?_
        refine lv_iload_n hx hb dX7_as_48 rfl (lv_at hl 0 rfl) ?_
        refine lv_iconst (v := (0 : Int32)) hx hb dX7_as_49 (by decide) ?_
        replace h := bd_some h
        obtain ⟨r12, er12, h⟩ := h
        refine r_callVi (As := [.int y10, .int (0 : Int32)]) (rest := []) hF (c_X7_its l D cy ad adK adV r5.1 o0 y10 (0 : Int32) r12 er12) (gW_goodV hcm qw1030 qw1027 qw1029 qw27 qw67) hdX7_its rfl ⟨Nat.le_of_ble_eq_true rfl, Nat.le_of_ble_eq_true rfl⟩ rfl rfl hZ hK hw g7 (by decide) rfl rfl hl.1 rfl (Nat.le_of_ble_eq_true rfl) ⟨Nat.zero_le _, Nat.zero_le _⟩ dX7_as_50 (fun H locs hw => ?_)
        refine lv_iload_n hx hb dX7_as_53 rfl (lv_at hl 3 rfl) ?_
        replace h := bd_some h
        obtain ⟨r13, er13, h⟩ := h
        refine r_callSi (As := [.int r12.2, .int a2]) (rest := []) hF (c_X7_isUnder l D cy ad adK adV r12.1 r12.2 a2 r13 er13) (gW_goodS hcm qw1305 qw1303 qw1304 qw67) hdX7_isUnder ⟨Nat.le_of_ble_eq_true rfl, Nat.le_of_ble_eq_true rfl⟩ rfl rfl hZ hK hw rfl hl.1 rfl (Nat.le_of_ble_eq_true rfl) ⟨Nat.zero_le _, Nat.zero_le _⟩ dX7_as_54 (fun H locs hw => ?_)
        refine lv_if_eq (tgt := 64) hx hb dX7_as_57 (by decide) (fun c14 => ?_) (fun c14 => ?_)
        · replace h := if_some_t c14 h
          refine lv_aload_n hx hb dX7_as_64 rfl (lv_at hl 1 rfl) ?_
          refine lv_iconst (v := (2 : Int32)) hx hb dX7_as_65 (by decide) ?_
          replace h := bd_some h
          obtain ⟨r15, er15, h⟩ := h
          refine r_callVi (As := [.int (2 : Int32)]) (rest := []) hF (c_X7_finding l D cy ad adK adV r13.1 o0 (2 : Int32) r15 er15) (gW_goodV hcm qw989 qw986 qw988 qw18 qw67) hdX7_finding rfl ⟨Nat.le_of_ble_eq_true rfl, Nat.le_of_ble_eq_true rfl⟩ rfl rfl hZ hK hw g7 (by decide) rfl rfl hl.1 rfl (Nat.le_of_ble_eq_true rfl) ⟨Nat.zero_le _, Nat.zero_le _⟩ dX7_as_66 (fun H locs hw => ?_)
          exact r_iret hx hb hr rfl hlocks hZ hK hw h dX7_as_69
        · replace h := if_some_f c14 h
          refine lv_iload_n hx hb dX7_as_60 rfl (lv_at hl 0 rfl) ?_
          refine lv_goto (tgt := 69) hx hb dX7_as_61 (by decide) ?_
          exact r_iret hx hb hr rfl hlocks hZ hK hw h dX7_as_69
      · replace h := if_some_t c11 h
        refine lv_aload_n hx hb dX7_as_41 rfl (lv_at hl 1 rfl) ?_
        refine lv_iconst (v := (5 : Int32)) hx hb dX7_as_42 (by decide) ?_
        replace h := bd_some h
        obtain ⟨r16, er16, h⟩ := h
        refine r_callVi (As := [.int (5 : Int32)]) (rest := []) hF (c_X7_finding l D cy ad adK adV r5.1 o0 (5 : Int32) r16 er16) (gW_goodV hcm qw989 qw986 qw988 qw18 qw67) hdX7_finding rfl ⟨Nat.le_of_ble_eq_true rfl, Nat.le_of_ble_eq_true rfl⟩ rfl rfl hZ hK hw g7 (by decide) rfl rfl hl.1 rfl (Nat.le_of_ble_eq_true rfl) ⟨Nat.zero_le _, Nat.zero_le _⟩ dX7_as_43 (fun H locs hw => ?_)
        exact r_iret hx hb hr rfl hlocks hZ hK hw h dX7_as_46
    · replace h := if_some_t c6 h
      exact hb20 _ _ h _ _ _ hw (lv_sub hl [0] rfl)
theorem dX7_isSheet_0 : decode cX7_isSheet 0 = .ok (.iload_n 0, 1) := by decide +kernel
theorem dX7_isSheet_1 : decode cX7_isSheet 1 = .ok (.iconst 0, 1) := by decide +kernel
theorem dX7_isSheet_2 : decode cX7_isSheet 2 = .ok (.iconst 3, 1) := by decide +kernel
theorem dX7_isSheet_3 : decode cX7_isSheet 3 = .ok (.invokestatic 67, 3) := by decide +kernel
theorem dX7_isSheet_6 : decode cX7_isSheet 6 = .ok (.ireturn, 1) := by decide +kernel
set_option maxHeartbeats 4000000 in
set_option maxRecDepth 100000 in
theorem c_X7_isSheet (l : Launch) (D : va_G) (cy : Nat → ClassId) (ad adK adV : Nat → Nat) (M : Mm) (a0 : Int32) (res : Mm × Int32) (h : f_X7_isSheet M a0 = some res) : Met l yX7_isSheet (wU yX7_isSheet cX7_isSheet 1 (some .boolean)) rmX7_isSheet (va_Pc [.int a0] (Pre D cy shM ad nM adK adV M)) (va_Qi (fun r (M2 : Mm) => r = res.2 ∧ M2 = res.1) (Pre D cy shM ad nM adK adV) (Aw ad nM)) 0 0 (Aw ad nM) := by
  refine Met.ofW (cc := cX7_isSheet) (maxL := 1) (ret := (some .boolean)) (by decide) rfl ?_
  intro p e s m args below meth c s₁ B hml hv
  obtain ⟨hargs, hPre⟩ := hv
  have hx := B.exec
  have hb := B.bytes
  have hr := B.returns
  have hts := atoms_spec (ws := wU yX7_isSheet cX7_isSheet 1 (some .boolean)) B.pre
  have hq : ∀ w ∈ gW, w.before args s = true := fun w hw => hts w (List.mem_cons_of_mem _ hw)
  have hcm : ∀ w ∈ gW, w ∈ wU yX7_isSheet cX7_isSheet 1 (some .boolean) := fun w hw => List.mem_cons_of_mem _ hw
  have hown : s.vm.findClass RX7 = some m.cls := findClass_of_methodNamed B.named
  have hlocks := B.notSynchronized
  have hF : CallFix p m c cX7_isSheet 1 s args (wU yX7_isSheet cX7_isSheet 1 (some .boolean)) RX7 := ⟨hx, hb, hml, hown, hts⟩
  have hK := hPre.2.1
  have hZ := hPre.2.2.2
  have hw : Wd D cy shM ad nM (Aw ad nM) s.heap M s.heap [] := ⟨hPre.1, hPre.2.2.1, va_S.rf⟩
  rw [show entryFrame m args 1 = entryFrame m ([.int a0] : List Value).toArray 1 from by rw [hargs]]
  have hl := lv_entry ([.int a0]) (n := 1) (Nat.le_of_ble_eq_true rfl)
  rw [lg_entry_eq]
  generalize (lg_sl ([.int a0]) ++ List.replicate (1 - (lg_sl ([.int a0])).length) Slot.unset).toArray = ls at hl ⊢
  have hl : lv_has ls 1 [(0, .int a0)] := hl
  unfold f_X7_isSheet at h
  refine lv_iload_n hx hb dX7_isSheet_0 rfl (lv_at hl 0 rfl) ?_
  refine lv_iconst (v := (0 : Int32)) hx hb dX7_isSheet_1 (by decide) ?_
  refine lv_iconst (v := (3 : Int32)) hx hb dX7_isSheet_2 (by decide) ?_
  replace h := bd_some h
  obtain ⟨r1, er1, h⟩ := h
  refine r_callSi (As := [.int a0, .int (0 : Int32), .int (3 : Int32)]) (rest := []) hF (c_X7_in l D cy ad adK adV M a0 (0 : Int32) (3 : Int32) r1 er1) (gW_goodS hcm qw985 qw983 qw984 qw67) hdX7_in ⟨Nat.le_of_ble_eq_true rfl, Nat.le_of_ble_eq_true rfl⟩ rfl rfl hZ hK hw rfl hl.1 rfl (Nat.le_of_ble_eq_true rfl) ⟨Nat.zero_le _, Nat.zero_le _⟩ dX7_isSheet_3 (fun H locs hw => ?_)
  replace h := gd_some h
  obtain ⟨z2, h⟩ := h
  exact r_iret hx hb hr (nar_bz z2) hlocks hZ hK hw h dX7_isSheet_6
theorem dX7_sheet_0 : decode cX7_sheet 0 = .ok (.iload_n 1, 1) := by decide +kernel
theorem dX7_sheet_1 : decode cX7_sheet 1 = .ok (.invokestatic 287, 3) := by decide +kernel
theorem dX7_sheet_4 : decode cX7_sheet 4 = .ok (.ifCond .eq 25, 3) := by decide +kernel
theorem dX7_sheet_7 : decode cX7_sheet 7 = .ok (.iload_n 2, 1) := by decide +kernel
theorem dX7_sheet_8 : decode cX7_sheet 8 = .ok (.ifCond .eq 27, 3) := by decide +kernel
theorem dX7_sheet_11 : decode cX7_sheet 11 = .ok (.iload_n 2, 1) := by decide +kernel
theorem dX7_sheet_12 : decode cX7_sheet 12 = .ok (.bipush 8, 2) := by decide +kernel
theorem dX7_sheet_14 : decode cX7_sheet 14 = .ok (.if_icmp .eq 21, 3) := by decide +kernel
theorem dX7_sheet_17 : decode cX7_sheet 17 = .ok (.iload_n 2, 1) := by decide +kernel
theorem dX7_sheet_18 : decode cX7_sheet 18 = .ok (.bipush 16, 2) := by decide +kernel
theorem dX7_sheet_20 : decode cX7_sheet 20 = .ok (.if_icmp .eq 15, 3) := by decide +kernel
theorem dX7_sheet_23 : decode cX7_sheet 23 = .ok (.iload_n 2, 1) := by decide +kernel
theorem dX7_sheet_24 : decode cX7_sheet 24 = .ok (.bipush 32, 2) := by decide +kernel
theorem dX7_sheet_26 : decode cX7_sheet 26 = .ok (.if_icmp .eq 9, 3) := by decide +kernel
theorem dX7_sheet_29 : decode cX7_sheet 29 = .ok (.aload_n 0, 1) := by decide +kernel
theorem dX7_sheet_30 : decode cX7_sheet 30 = .ok (.iconst 0, 1) := by decide +kernel
theorem dX7_sheet_31 : decode cX7_sheet 31 = .ok (.invokevirtual 115, 3) := by decide +kernel
theorem dX7_sheet_34 : decode cX7_sheet 34 = .ok (.ireturn, 1) := by decide +kernel
theorem dX7_sheet_35 : decode cX7_sheet 35 = .ok (.iload_n 3, 1) := by decide +kernel
theorem dX7_sheet_36 : decode cX7_sheet 36 = .ok (.ifCond .ge 10, 3) := by decide +kernel
theorem dX7_sheet_39 : decode cX7_sheet 39 = .ok (.aload_n 0, 1) := by decide +kernel
theorem dX7_sheet_40 : decode cX7_sheet 40 = .ok (.bipush 6, 2) := by decide +kernel
theorem dX7_sheet_42 : decode cX7_sheet 42 = .ok (.invokevirtual 115, 3) := by decide +kernel
theorem dX7_sheet_45 : decode cX7_sheet 45 = .ok (.ireturn, 1) := by decide +kernel
theorem dX7_sheet_46 : decode cX7_sheet 46 = .ok (.iload_n 3, 1) := by decide +kernel
theorem dX7_sheet_47 : decode cX7_sheet 47 = .ok (.bipush 40, 2) := by decide +kernel
theorem dX7_sheet_49 : decode cX7_sheet 49 = .ok (.if_icmp .le 9, 3) := by decide +kernel
theorem dX7_sheet_52 : decode cX7_sheet 52 = .ok (.aload_n 0, 1) := by decide +kernel
theorem dX7_sheet_53 : decode cX7_sheet 53 = .ok (.iconst 0, 1) := by decide +kernel
theorem dX7_sheet_54 : decode cX7_sheet 54 = .ok (.invokevirtual 115, 3) := by decide +kernel
theorem dX7_sheet_57 : decode cX7_sheet 57 = .ok (.ireturn, 1) := by decide +kernel
theorem dX7_sheet_58 : decode cX7_sheet 58 = .ok (.aload_n 0, 1) := by decide +kernel
theorem dX7_sheet_59 : decode cX7_sheet 59 = .ok (.getfield 54, 3) := by decide +kernel
theorem dX7_sheet_62 : decode cX7_sheet 62 = .ok (.iload_n 1, 1) := by decide +kernel
theorem dX7_sheet_63 : decode cX7_sheet 63 = .ok (.iload_n 2, 1) := by decide +kernel
theorem dX7_sheet_64 : decode cX7_sheet 64 = .ok (.iastore, 1) := by decide +kernel
theorem dX7_sheet_65 : decode cX7_sheet 65 = .ok (.aload_n 0, 1) := by decide +kernel
theorem dX7_sheet_66 : decode cX7_sheet 66 = .ok (.getfield 57, 3) := by decide +kernel
theorem dX7_sheet_69 : decode cX7_sheet 69 = .ok (.iload_n 1, 1) := by decide +kernel
theorem dX7_sheet_70 : decode cX7_sheet 70 = .ok (.iload_n 2, 1) := by decide +kernel
theorem dX7_sheet_71 : decode cX7_sheet 71 = .ok (.ifCond .ne 7, 3) := by decide +kernel
theorem dX7_sheet_74 : decode cX7_sheet 74 = .ok (.iconst 0, 1) := by decide +kernel
theorem dX7_sheet_75 : decode cX7_sheet 75 = .ok (.goto 4, 3) := by decide +kernel
theorem dX7_sheet_78 : decode cX7_sheet 78 = .ok (.iload_n 3, 1) := by decide +kernel
theorem dX7_sheet_79 : decode cX7_sheet 79 = .ok (.iastore, 1) := by decide +kernel
theorem dX7_sheet_80 : decode cX7_sheet 80 = .ok (.iconst 0, 1) := by decide +kernel
theorem dX7_sheet_81 : decode cX7_sheet 81 = .ok (.istore 4, 2) := by decide +kernel
theorem dX7_sheet_83 : decode cX7_sheet 83 = .ok (.iload 4, 2) := by decide +kernel
theorem dX7_sheet_85 : decode cX7_sheet 85 = .ok (.bipush 40, 2) := by decide +kernel
theorem dX7_sheet_87 : decode cX7_sheet 87 = .ok (.if_icmp .ge 22, 3) := by decide +kernel
theorem dX7_sheet_90 : decode cX7_sheet 90 = .ok (.aload_n 0, 1) := by decide +kernel
theorem dX7_sheet_91 : decode cX7_sheet 91 = .ok (.getfield 60, 3) := by decide +kernel
theorem dX7_sheet_94 : decode cX7_sheet 94 = .ok (.bipush 40, 2) := by decide +kernel
theorem dX7_sheet_96 : decode cX7_sheet 96 = .ok (.iload_n 1, 1) := by decide +kernel
theorem dX7_sheet_97 : decode cX7_sheet 97 = .ok (.imul, 1) := by decide +kernel
theorem dX7_sheet_98 : decode cX7_sheet 98 = .ok (.iload 4, 2) := by decide +kernel
theorem dX7_sheet_100 : decode cX7_sheet 100 = .ok (.iadd, 1) := by decide +kernel
theorem dX7_sheet_101 : decode cX7_sheet 101 = .ok (.iconst 0, 1) := by decide +kernel
theorem dX7_sheet_102 : decode cX7_sheet 102 = .ok (.iastore, 1) := by decide +kernel
theorem dX7_sheet_103 : decode cX7_sheet 103 = .ok (.iinc 4 1, 3) := by decide +kernel
theorem dX7_sheet_106 : decode cX7_sheet 106 = .ok (.goto (-23), 3) := by decide +kernel
theorem dX7_sheet_109 : decode cX7_sheet 109 = .ok (.aload_n 0, 1) := by decide +kernel
theorem dX7_sheet_110 : decode cX7_sheet 110 = .ok (.getfield 57, 3) := by decide +kernel
theorem dX7_sheet_113 : decode cX7_sheet 113 = .ok (.iload_n 1, 1) := by decide +kernel
theorem dX7_sheet_114 : decode cX7_sheet 114 = .ok (.iaload, 1) := by decide +kernel
theorem dX7_sheet_115 : decode cX7_sheet 115 = .ok (.ireturn, 1) := by decide +kernel
set_option maxHeartbeats 4000000 in
set_option maxRecDepth 100000 in
theorem c_X7_sheet (l : Launch) (D : va_G) (cy : Nat → ClassId) (ad adK adV : Nat → Nat) (M : Mm) (o0 : Nat) (a1 : Int32) (a2 : Int32) (a3 : Int32) (res : Mm × Int32) (h : f_X7_sheet M o0 a1 a2 a3 = some res) : Met l yX7_sheet (wU yX7_sheet cX7_sheet 5 (some .int)) rmX7_sheet (va_Pc [.ref (ad o0), .int a1, .int a2, .int a3] (Pre D cy shM ad nM adK adV M)) (va_Qi (fun r (M2 : Mm) => r = res.2 ∧ M2 = res.1) (Pre D cy shM ad nM adK adV) (Aw ad nM)) 0 0 (Aw ad nM) := by
  refine Met.ofW (cc := cX7_sheet) (maxL := 5) (ret := (some .int)) (by decide) rfl ?_
  intro p e s m args below meth c s₁ B hml hv
  obtain ⟨hargs, hPre⟩ := hv
  have hx := B.exec
  have hb := B.bytes
  have hr := B.returns
  have hts := atoms_spec (ws := wU yX7_sheet cX7_sheet 5 (some .int)) B.pre
  have hq : ∀ w ∈ gW, w.before args s = true := fun w hw => hts w (List.mem_cons_of_mem _ hw)
  have hcm : ∀ w ∈ gW, w ∈ wU yX7_sheet cX7_sheet 5 (some .int) := fun w hw => List.mem_cons_of_mem _ hw
  have hown : s.vm.findClass RX7 = some m.cls := findClass_of_methodNamed B.named
  have hlocks := B.notSynchronized
  have hF : CallFix p m c cX7_sheet 5 s args (wU yX7_sheet cX7_sheet 5 (some .int)) RX7 := ⟨hx, hb, hml, hown, hts⟩
  have hK := hPre.2.1
  have hZ := hPre.2.2.2
  have hw : Wd D cy shM ad nM (Aw ad nM) s.heap M s.heap [] := ⟨hPre.1, hPre.2.2.1, va_S.rf⟩
  have iw7 : ∀ w ∈ u_ws RX7 TX7 30, w ∈ wU yX7_sheet cX7_sheet 5 (some .int) := fun w hw => List.mem_cons_of_mem _ (iX7 w hw)
  rw [show entryFrame m args 5 = entryFrame m ([.ref (ad o0), .int a1, .int a2, .int a3] : List Value).toArray 5 from by rw [hargs]]
  have hl := lv_entry ([.ref (ad o0), .int a1, .int a2, .int a3]) (n := 5) (Nat.le_of_ble_eq_true rfl)
  rw [lg_entry_eq]
  generalize (lg_sl ([.ref (ad o0), .int a1, .int a2, .int a3]) ++ List.replicate (5 - (lg_sl ([.ref (ad o0), .int a1, .int a2, .int a3])).length) Slot.unset).toArray = ls at hl ⊢
  have hl : lv_has ls 5 [(0, .ref (ad o0)), (1, .int a1), (2, .int a2), (3, .int a3)] := hl
  have hb83 : ∀ (nn : Nat), ∀ (M : Mm) (x0 : Nat) (x1 : Int32) (x4 : Int32), f_X7_sheet_b83 nn M x0 x1 x4 = some res → ∀ (H : Heap) (locs : List Loc) (ls : Array Slot), Wd D cy shM ad nM (Aw ad nM) s.heap M H locs → lv_has ls 5 [(0, .ref (ad x0)), (1, .int x1), (4, .int x4)] → W p l e (headSpec (wU yX7_sheet cX7_sheet 5 (some .int)) rmX7_sheet).room s m args below meth c H locs 0 0 (QI D cy shM ad nM adK adV below args s res) (F0 m 83 ls []) := by
    intro nn
    induction nn with
    | zero => intro M x0 x1 x4 h; simp [f_X7_sheet_b83] at h
    | succ nn ih =>
      intro M x0 x1 x4 h H locs ls hw hl
      unfold f_X7_sheet_b83 at h
      refine lv_iload hx hb dX7_sheet_83 (lv_at hl 2 rfl) ?_
      refine lv_bipush (v := (40 : Int32)) hx hb dX7_sheet_85 (by decide) ?_
      refine lv_icmp_ge (tgt := 109) hx hb dX7_sheet_87 (by decide) (fun c1 => ?_) (fun c1 => ?_)
      · replace h := if_some_t c1 h
        refine lv_aload_n hx hb dX7_sheet_109 rfl (lv_at hl 0 rfl) ?_
        replace h := gd_some h
        obtain ⟨g2, h⟩ := h
        replace h := bd_some h
        obtain ⟨q3, eq3, h⟩ := h
        refine r_getR hx hb hts iw7 hown hK hw x0 27 g2 (by decide) rfl (by decide) rfl (hq _ qw915) (fun _ h9 => h9) dX7_sheet_110 eq3 ?_
        refine lv_iload_n hx hb dX7_sheet_113 rfl (lv_at hl 1 rfl) ?_
        replace h := gd_some h
        obtain ⟨g4, h⟩ := h
        refine r_iald hx hb hK hw q3 g4 dX7_sheet_114 ?_
        exact r_iret hx hb hr rfl hlocks hZ hK hw h dX7_sheet_115
      · replace h := if_some_f c1 h
        refine lv_aload_n hx hb dX7_sheet_90 rfl (lv_at hl 0 rfl) ?_
        replace h := gd_some h
        obtain ⟨g5, h⟩ := h
        replace h := bd_some h
        obtain ⟨q6, eq6, h⟩ := h
        refine r_getR hx hb hts iw7 hown hK hw x0 28 g5 (by decide) rfl (by decide) rfl (hq _ qw916) (fun _ h9 => h9) dX7_sheet_91 eq6 ?_
        refine lv_bipush (v := (40 : Int32)) hx hb dX7_sheet_94 (by decide) ?_
        refine lv_iload_n hx hb dX7_sheet_96 rfl (lv_at hl 1 rfl) ?_
        refine lv_imul hx hb dX7_sheet_97 ?_
        refine lv_iload hx hb dX7_sheet_98 (lv_at hl 2 rfl) ?_
        refine lv_iadd hx hb dX7_sheet_100 ?_
        refine lv_iconst (v := (0 : Int32)) hx hb dX7_sheet_101 (by decide) ?_
        replace h := gd_some h
        obtain ⟨g7, h⟩ := h
        refine r_iast hx hb hK hw q6 g7 dX7_sheet_102 (fun H locs hw => ?_)
        replace h := lt_some h
        obtain ⟨M8, eM8, h⟩ := h
        rw [← eM8] at hw
        refine lv_iinc (v := x4 + (1 : Int32)) (lv' := [(4, .int (x4 + (1 : Int32))), (0, .ref (ad x0)), (1, .int x1)]) hx hb dX7_sheet_103 hl (k := 2) rfl (congrArg (fun z => x4 + z) (by decide)) (by decide) rfl (fun ls hl => ?_)
        refine lv_goto (tgt := 83) hx hb dX7_sheet_106 (by decide) ?_
        exact ih _ _ _ _ h _ _ _ hw (lv_sub hl [1, 2, 0] rfl)
  have hb79 : ∀ (M : Mm) (x0 : Nat) (x1 : Int32) (t0 : Nat) (t1 : Int32) (t2 : Int32), f_X7_sheet_b79 M x0 x1 t0 t1 t2 = some res → ∀ (H : Heap) (locs : List Loc) (ls : Array Slot), Wd D cy shM ad nM (Aw ad nM) s.heap M H locs → lv_has ls 5 [(0, .ref (ad x0)), (1, .int x1)] → W p l e (headSpec (wU yX7_sheet cX7_sheet 5 (some .int)) rmX7_sheet).room s m args below meth c H locs 0 0 (QI D cy shM ad nM adK adV below args s res) (F0 m 79 ls [.int t2, .int t1, .ref (ad t0)]) := by
    intro M x0 x1 t0 t1 t2 h H locs ls hw hl
    unfold f_X7_sheet_b79 at h
    replace h := gd_some h
    obtain ⟨g9, h⟩ := h
    refine r_iast hx hb hK hw t0 g9 dX7_sheet_79 (fun H locs hw => ?_)
    replace h := lt_some h
    obtain ⟨M10, eM10, h⟩ := h
    rw [← eM10] at hw
    refine lv_iconst (v := (0 : Int32)) hx hb dX7_sheet_80 (by decide) ?_
    refine lv_istore (lv' := [(4, .int (0 : Int32)), (0, .ref (ad x0)), (1, .int x1)]) hx hb dX7_sheet_81 hl (by decide) rfl (fun ls hl => ?_)
    exact hb83 1000 _ _ _ _ h _ _ _ hw (lv_sub hl [1, 2, 0] rfl)
  have hb35 : ∀ (M : Mm) (x0 : Nat) (x1 : Int32) (x2 : Int32) (x3 : Int32), f_X7_sheet_b35 M x0 x1 x2 x3 = some res → ∀ (H : Heap) (locs : List Loc) (ls : Array Slot), Wd D cy shM ad nM (Aw ad nM) s.heap M H locs → lv_has ls 5 [(0, .ref (ad x0)), (1, .int x1), (2, .int x2), (3, .int x3)] → W p l e (headSpec (wU yX7_sheet cX7_sheet 5 (some .int)) rmX7_sheet).room s m args below meth c H locs 0 0 (QI D cy shM ad nM adK adV below args s res) (F0 m 35 ls []) := by
    intro M x0 x1 x2 x3 h H locs ls hw hl
    unfold f_X7_sheet_b35 at h
    refine lv_iload_n hx hb dX7_sheet_35 rfl (lv_at hl 3 rfl) ?_
    refine lv_if_ge (tgt := 46) hx hb dX7_sheet_36 (by decide) (fun c11 => ?_) (fun c11 => ?_)
    · replace h := if_some_t c11 h
      refine lv_iload_n hx hb dX7_sheet_46 rfl (lv_at hl 3 rfl) ?_
      refine lv_bipush (v := (40 : Int32)) hx hb dX7_sheet_47 (by decide) ?_
      refine lv_icmp_le (tgt := 58) hx hb dX7_sheet_49 (by decide) (fun c12 => ?_) (fun c12 => ?_)
      · replace h := if_some_t c12 h
        refine lv_aload_n hx hb dX7_sheet_58 rfl (lv_at hl 0 rfl) ?_
        replace h := gd_some h
        obtain ⟨g13, h⟩ := h
        replace h := bd_some h
        obtain ⟨q14, eq14, h⟩ := h
        refine r_getR hx hb hts iw7 hown hK hw x0 26 g13 (by decide) rfl (by decide) rfl (hq _ qw914) (fun _ h9 => h9) dX7_sheet_59 eq14 ?_
        refine lv_iload_n hx hb dX7_sheet_62 rfl (lv_at hl 1 rfl) ?_
        refine lv_iload_n hx hb dX7_sheet_63 rfl (lv_at hl 2 rfl) ?_
        replace h := gd_some h
        obtain ⟨g15, h⟩ := h
        refine r_iast hx hb hK hw q14 g15 dX7_sheet_64 (fun H locs hw => ?_)
        replace h := lt_some h
        obtain ⟨M16, eM16, h⟩ := h
        rw [← eM16] at hw
        refine lv_aload_n hx hb dX7_sheet_65 rfl (lv_at hl 0 rfl) ?_
        replace h := bd_some h
        obtain ⟨q17, eq17, h⟩ := h
        refine r_getR hx hb hts iw7 hown hK hw x0 27 g13 (by decide) rfl (by decide) rfl (hq _ qw915) (fun _ h9 => h9) dX7_sheet_66 eq17 ?_
        refine lv_iload_n hx hb dX7_sheet_69 rfl (lv_at hl 1 rfl) ?_
        refine lv_iload_n hx hb dX7_sheet_70 rfl (lv_at hl 2 rfl) ?_
        refine lv_if_ne (tgt := 78) hx hb dX7_sheet_71 (by decide) (fun c18 => ?_) (fun c18 => ?_)
        · replace h := if_some_f c18 h
          refine lv_iload_n hx hb dX7_sheet_78 rfl (lv_at hl 3 rfl) ?_
          exact hb79 _ _ _ _ _ _ h _ _ _ hw (lv_sub hl [0, 1] rfl)
        · replace h := if_some_t c18 h
          refine lv_iconst (v := (0 : Int32)) hx hb dX7_sheet_74 (by decide) ?_
          refine lv_goto (tgt := 79) hx hb dX7_sheet_75 (by decide) ?_
          exact hb79 _ _ _ _ _ _ h _ _ _ hw (lv_sub hl [0, 1] rfl)
      · replace h := if_some_f c12 h
        refine lv_aload_n hx hb dX7_sheet_52 rfl (lv_at hl 0 rfl) ?_
        refine lv_iconst (v := (0 : Int32)) hx hb dX7_sheet_53 (by decide) ?_
        replace h := gd_some h
        obtain ⟨g20, h⟩ := h
        replace h := bd_some h
        obtain ⟨r19, er19, h⟩ := h
        refine r_callVi (As := [.int (0 : Int32)]) (rest := []) hF (c_X7_finding l D cy ad adK adV M x0 (0 : Int32) r19 er19) (gW_goodV hcm qw989 qw986 qw988 qw18 qw67) hdX7_finding rfl ⟨Nat.le_of_ble_eq_true rfl, Nat.le_of_ble_eq_true rfl⟩ rfl rfl hZ hK hw g20 (by decide) rfl rfl hl.1 rfl (Nat.le_of_ble_eq_true rfl) ⟨Nat.zero_le _, Nat.zero_le _⟩ dX7_sheet_54 (fun H locs hw => ?_)
        exact r_iret hx hb hr rfl hlocks hZ hK hw h dX7_sheet_57
    · replace h := if_some_f c11 h
      refine lv_aload_n hx hb dX7_sheet_39 rfl (lv_at hl 0 rfl) ?_
      refine lv_bipush (v := (6 : Int32)) hx hb dX7_sheet_40 (by decide) ?_
      replace h := gd_some h
      obtain ⟨g22, h⟩ := h
      replace h := bd_some h
      obtain ⟨r21, er21, h⟩ := h
      refine r_callVi (As := [.int (6 : Int32)]) (rest := []) hF (c_X7_finding l D cy ad adK adV M x0 (6 : Int32) r21 er21) (gW_goodV hcm qw989 qw986 qw988 qw18 qw67) hdX7_finding rfl ⟨Nat.le_of_ble_eq_true rfl, Nat.le_of_ble_eq_true rfl⟩ rfl rfl hZ hK hw g22 (by decide) rfl rfl hl.1 rfl (Nat.le_of_ble_eq_true rfl) ⟨Nat.zero_le _, Nat.zero_le _⟩ dX7_sheet_42 (fun H locs hw => ?_)
      exact r_iret hx hb hr rfl hlocks hZ hK hw h dX7_sheet_45
  have hb29 : ∀ (M : Mm) (x0 : Nat), f_X7_sheet_b29 M x0 = some res → ∀ (H : Heap) (locs : List Loc) (ls : Array Slot), Wd D cy shM ad nM (Aw ad nM) s.heap M H locs → lv_has ls 5 [(0, .ref (ad x0))] → W p l e (headSpec (wU yX7_sheet cX7_sheet 5 (some .int)) rmX7_sheet).room s m args below meth c H locs 0 0 (QI D cy shM ad nM adK adV below args s res) (F0 m 29 ls []) := by
    intro M x0 h H locs ls hw hl
    unfold f_X7_sheet_b29 at h
    refine lv_aload_n hx hb dX7_sheet_29 rfl (lv_at hl 0 rfl) ?_
    refine lv_iconst (v := (0 : Int32)) hx hb dX7_sheet_30 (by decide) ?_
    replace h := gd_some h
    obtain ⟨g24, h⟩ := h
    replace h := bd_some h
    obtain ⟨r23, er23, h⟩ := h
    refine r_callVi (As := [.int (0 : Int32)]) (rest := []) hF (c_X7_finding l D cy ad adK adV M x0 (0 : Int32) r23 er23) (gW_goodV hcm qw989 qw986 qw988 qw18 qw67) hdX7_finding rfl ⟨Nat.le_of_ble_eq_true rfl, Nat.le_of_ble_eq_true rfl⟩ rfl rfl hZ hK hw g24 (by decide) rfl rfl hl.1 rfl (Nat.le_of_ble_eq_true rfl) ⟨Nat.zero_le _, Nat.zero_le _⟩ dX7_sheet_31 (fun H locs hw => ?_)
    exact r_iret hx hb hr rfl hlocks hZ hK hw h dX7_sheet_34
  unfold f_X7_sheet at h
  refine lv_iload_n hx hb dX7_sheet_0 rfl (lv_at hl 1 rfl) ?_
  replace h := bd_some h
  obtain ⟨r25, er25, h⟩ := h
  refine r_callSi (As := [.int a1]) (rest := []) hF (c_X7_isSheet l D cy ad adK adV M a1 r25 er25) (gW_goodS hcm qw1312 qw1310 qw1311 qw67) hdX7_isSheet ⟨Nat.le_of_ble_eq_true rfl, Nat.le_of_ble_eq_true rfl⟩ rfl rfl hZ hK hw rfl hl.1 rfl (Nat.le_of_ble_eq_true rfl) ⟨Nat.zero_le _, Nat.zero_le _⟩ dX7_sheet_1 (fun H locs hw => ?_)
  refine lv_if_eq (tgt := 29) hx hb dX7_sheet_4 (by decide) (fun c26 => ?_) (fun c26 => ?_)
  · replace h := if_some_t c26 h
    exact hb29 _ _ h _ _ _ hw (lv_sub hl [0] rfl)
  · replace h := if_some_f c26 h
    refine lv_iload_n hx hb dX7_sheet_7 rfl (lv_at hl 2 rfl) ?_
    refine lv_if_eq (tgt := 35) hx hb dX7_sheet_8 (by decide) (fun c27 => ?_) (fun c27 => ?_)
    · replace h := if_some_t c27 h
      exact hb35 _ _ _ _ _ h _ _ _ hw (lv_sub hl [0, 1, 2, 3] rfl)
    · replace h := if_some_f c27 h
      refine lv_iload_n hx hb dX7_sheet_11 rfl (lv_at hl 2 rfl) ?_
      refine lv_bipush (v := (8 : Int32)) hx hb dX7_sheet_12 (by decide) ?_
      refine lv_icmp_eq (tgt := 35) hx hb dX7_sheet_14 (by decide) (fun c28 => ?_) (fun c28 => ?_)
      · replace h := if_some_t c28 h
        exact hb35 _ _ _ _ _ h _ _ _ hw (lv_sub hl [0, 1, 2, 3] rfl)
      · replace h := if_some_f c28 h
        refine lv_iload_n hx hb dX7_sheet_17 rfl (lv_at hl 2 rfl) ?_
        refine lv_bipush (v := (16 : Int32)) hx hb dX7_sheet_18 (by decide) ?_
        refine lv_icmp_eq (tgt := 35) hx hb dX7_sheet_20 (by decide) (fun c29 => ?_) (fun c29 => ?_)
        · replace h := if_some_t c29 h
          exact hb35 _ _ _ _ _ h _ _ _ hw (lv_sub hl [0, 1, 2, 3] rfl)
        · replace h := if_some_f c29 h
          refine lv_iload_n hx hb dX7_sheet_23 rfl (lv_at hl 2 rfl) ?_
          refine lv_bipush (v := (32 : Int32)) hx hb dX7_sheet_24 (by decide) ?_
          refine lv_icmp_eq (tgt := 35) hx hb dX7_sheet_26 (by decide) (fun c30 => ?_) (fun c30 => ?_)
          · replace h := if_some_t c30 h
            exact hb35 _ _ _ _ _ h _ _ _ hw (lv_sub hl [0, 1, 2, 3] rfl)
          · replace h := if_some_f c30 h
            exact hb29 _ _ h _ _ _ hw (lv_sub hl [0] rfl)
theorem dX7_write_0 : decode cX7_write 0 = .ok (.iload_n 1, 1) := by decide +kernel
theorem dX7_write_1 : decode cX7_write 1 = .ok (.invokestatic 287, 3) := by decide +kernel
theorem dX7_write_4 : decode cX7_write 4 = .ok (.ifCond .ne 9, 3) := by decide +kernel
theorem dX7_write_7 : decode cX7_write 7 = .ok (.aload_n 0, 1) := by decide +kernel
theorem dX7_write_8 : decode cX7_write 8 = .ok (.iconst 0, 1) := by decide +kernel
theorem dX7_write_9 : decode cX7_write 9 = .ok (.invokevirtual 115, 3) := by decide +kernel
theorem dX7_write_12 : decode cX7_write 12 = .ok (.ireturn, 1) := by decide +kernel
theorem dX7_write_13 : decode cX7_write 13 = .ok (.aload_n 0, 1) := by decide +kernel
theorem dX7_write_14 : decode cX7_write 14 = .ok (.getfield 54, 3) := by decide +kernel
theorem dX7_write_17 : decode cX7_write 17 = .ok (.iload_n 1, 1) := by decide +kernel
theorem dX7_write_18 : decode cX7_write 18 = .ok (.iaload, 1) := by decide +kernel
theorem dX7_write_19 : decode cX7_write 19 = .ok (.ifCond .ne 9, 3) := by decide +kernel
theorem dX7_write_22 : decode cX7_write 22 = .ok (.aload_n 0, 1) := by decide +kernel
theorem dX7_write_23 : decode cX7_write 23 = .ok (.iconst 5, 1) := by decide +kernel
theorem dX7_write_24 : decode cX7_write 24 = .ok (.invokevirtual 115, 3) := by decide +kernel
theorem dX7_write_27 : decode cX7_write 27 = .ok (.ireturn, 1) := by decide +kernel
theorem dX7_write_28 : decode cX7_write 28 = .ok (.iload_n 2, 1) := by decide +kernel
theorem dX7_write_29 : decode cX7_write 29 = .ok (.iconst 0, 1) := by decide +kernel
theorem dX7_write_30 : decode cX7_write 30 = .ok (.aload_n 0, 1) := by decide +kernel
theorem dX7_write_31 : decode cX7_write 31 = .ok (.getfield 57, 3) := by decide +kernel
theorem dX7_write_34 : decode cX7_write 34 = .ok (.iload_n 1, 1) := by decide +kernel
theorem dX7_write_35 : decode cX7_write 35 = .ok (.iaload, 1) := by decide +kernel
theorem dX7_write_36 : decode cX7_write 36 = .ok (.iconst 1, 1) := by decide +kernel
theorem dX7_write_37 : decode cX7_write 37 = .ok (.isub, 1) := by decide +kernel
theorem dX7_write_38 : decode cX7_write 38 = .ok (.invokestatic 67, 3) := by decide +kernel
theorem dX7_write_41 : decode cX7_write 41 = .ok (.ifCond .ne 9, 3) := by decide +kernel
theorem dX7_write_44 : decode cX7_write 44 = .ok (.aload_n 0, 1) := by decide +kernel
theorem dX7_write_45 : decode cX7_write 45 = .ok (.iconst 0, 1) := by decide +kernel
theorem dX7_write_46 : decode cX7_write 46 = .ok (.invokevirtual 115, 3) := by decide +kernel
theorem dX7_write_49 : decode cX7_write 49 = .ok (.ireturn, 1) := by decide +kernel
theorem dX7_write_50 : decode cX7_write 50 = .ok (.bipush 32, 2) := by decide +kernel
theorem dX7_write_52 : decode cX7_write 52 = .ok (.aload_n 0, 1) := by decide +kernel
theorem dX7_write_53 : decode cX7_write 53 = .ok (.getfield 54, 3) := by decide +kernel
theorem dX7_write_56 : decode cX7_write 56 = .ok (.iload_n 1, 1) := by decide +kernel
theorem dX7_write_57 : decode cX7_write 57 = .ok (.iaload, 1) := by decide +kernel
theorem dX7_write_58 : decode cX7_write 58 = .ok (.isub, 1) := by decide +kernel
theorem dX7_write_59 : decode cX7_write 59 = .ok (.istore 4, 2) := by decide +kernel
theorem dX7_write_61 : decode cX7_write 61 = .ok (.aload_n 0, 1) := by decide +kernel
theorem dX7_write_62 : decode cX7_write 62 = .ok (.getfield 60, 3) := by decide +kernel
theorem dX7_write_65 : decode cX7_write 65 = .ok (.bipush 40, 2) := by decide +kernel
theorem dX7_write_67 : decode cX7_write 67 = .ok (.iload_n 1, 1) := by decide +kernel
theorem dX7_write_68 : decode cX7_write 68 = .ok (.imul, 1) := by decide +kernel
theorem dX7_write_69 : decode cX7_write 69 = .ok (.iload_n 2, 1) := by decide +kernel
theorem dX7_write_70 : decode cX7_write 70 = .ok (.iadd, 1) := by decide +kernel
theorem dX7_write_71 : decode cX7_write 71 = .ok (.iload_n 3, 1) := by decide +kernel
theorem dX7_write_72 : decode cX7_write 72 = .ok (.iload 4, 2) := by decide +kernel
theorem dX7_write_74 : decode cX7_write 74 = .ok (.ishl, 1) := by decide +kernel
theorem dX7_write_75 : decode cX7_write 75 = .ok (.iload 4, 2) := by decide +kernel
theorem dX7_write_77 : decode cX7_write 77 = .ok (.ishr, 1) := by decide +kernel
theorem dX7_write_78 : decode cX7_write 78 = .ok (.iastore, 1) := by decide +kernel
theorem dX7_write_79 : decode cX7_write 79 = .ok (.iconst 1, 1) := by decide +kernel
theorem dX7_write_80 : decode cX7_write 80 = .ok (.ireturn, 1) := by decide +kernel
set_option maxHeartbeats 4000000 in
set_option maxRecDepth 100000 in
theorem c_X7_write (l : Launch) (D : va_G) (cy : Nat → ClassId) (ad adK adV : Nat → Nat) (M : Mm) (o0 : Nat) (a1 : Int32) (a2 : Int32) (a3 : Int32) (res : Mm × Int32) (h : f_X7_write M o0 a1 a2 a3 = some res) : Met l yX7_write (wU yX7_write cX7_write 5 (some .int)) rmX7_write (va_Pc [.ref (ad o0), .int a1, .int a2, .int a3] (Pre D cy shM ad nM adK adV M)) (va_Qi (fun r (M2 : Mm) => r = res.2 ∧ M2 = res.1) (Pre D cy shM ad nM adK adV) (Aw ad nM)) 0 0 (Aw ad nM) := by
  refine Met.ofW (cc := cX7_write) (maxL := 5) (ret := (some .int)) (by decide) rfl ?_
  intro p e s m args below meth c s₁ B hml hv
  obtain ⟨hargs, hPre⟩ := hv
  have hx := B.exec
  have hb := B.bytes
  have hr := B.returns
  have hts := atoms_spec (ws := wU yX7_write cX7_write 5 (some .int)) B.pre
  have hq : ∀ w ∈ gW, w.before args s = true := fun w hw => hts w (List.mem_cons_of_mem _ hw)
  have hcm : ∀ w ∈ gW, w ∈ wU yX7_write cX7_write 5 (some .int) := fun w hw => List.mem_cons_of_mem _ hw
  have hown : s.vm.findClass RX7 = some m.cls := findClass_of_methodNamed B.named
  have hlocks := B.notSynchronized
  have hF : CallFix p m c cX7_write 5 s args (wU yX7_write cX7_write 5 (some .int)) RX7 := ⟨hx, hb, hml, hown, hts⟩
  have hK := hPre.2.1
  have hZ := hPre.2.2.2
  have hw : Wd D cy shM ad nM (Aw ad nM) s.heap M s.heap [] := ⟨hPre.1, hPre.2.2.1, va_S.rf⟩
  have iw7 : ∀ w ∈ u_ws RX7 TX7 30, w ∈ wU yX7_write cX7_write 5 (some .int) := fun w hw => List.mem_cons_of_mem _ (iX7 w hw)
  rw [show entryFrame m args 5 = entryFrame m ([.ref (ad o0), .int a1, .int a2, .int a3] : List Value).toArray 5 from by rw [hargs]]
  have hl := lv_entry ([.ref (ad o0), .int a1, .int a2, .int a3]) (n := 5) (Nat.le_of_ble_eq_true rfl)
  rw [lg_entry_eq]
  generalize (lg_sl ([.ref (ad o0), .int a1, .int a2, .int a3]) ++ List.replicate (5 - (lg_sl ([.ref (ad o0), .int a1, .int a2, .int a3])).length) Slot.unset).toArray = ls at hl ⊢
  have hl : lv_has ls 5 [(0, .ref (ad o0)), (1, .int a1), (2, .int a2), (3, .int a3)] := hl
  unfold f_X7_write at h
  refine lv_iload_n hx hb dX7_write_0 rfl (lv_at hl 1 rfl) ?_
  replace h := bd_some h
  obtain ⟨r1, er1, h⟩ := h
  refine r_callSi (As := [.int a1]) (rest := []) hF (c_X7_isSheet l D cy ad adK adV M a1 r1 er1) (gW_goodS hcm qw1312 qw1310 qw1311 qw67) hdX7_isSheet ⟨Nat.le_of_ble_eq_true rfl, Nat.le_of_ble_eq_true rfl⟩ rfl rfl hZ hK hw rfl hl.1 rfl (Nat.le_of_ble_eq_true rfl) ⟨Nat.zero_le _, Nat.zero_le _⟩ dX7_write_1 (fun H locs hw => ?_)
  refine lv_if_ne (tgt := 13) hx hb dX7_write_4 (by decide) (fun c2 => ?_) (fun c2 => ?_)
  · replace h := if_some_f c2 h
    refine lv_aload_n hx hb dX7_write_13 rfl (lv_at hl 0 rfl) ?_
    replace h := gd_some h
    obtain ⟨g3, h⟩ := h
    replace h := bd_some h
    obtain ⟨q4, eq4, h⟩ := h
    refine r_getR hx hb hts iw7 hown hK hw o0 26 g3 (by decide) rfl (by decide) rfl (hq _ qw914) (fun _ h9 => h9) dX7_write_14 eq4 ?_
    refine lv_iload_n hx hb dX7_write_17 rfl (lv_at hl 1 rfl) ?_
    replace h := gd_some h
    obtain ⟨g5, h⟩ := h
    refine r_iald hx hb hK hw q4 g5 dX7_write_18 ?_
    refine lv_if_ne (tgt := 28) hx hb dX7_write_19 (by decide) (fun c6 => ?_) (fun c6 => ?_)
    · replace h := if_some_f c6 h
      refine lv_iload_n hx hb dX7_write_28 rfl (lv_at hl 2 rfl) ?_
      refine lv_iconst (v := (0 : Int32)) hx hb dX7_write_29 (by decide) ?_
      refine lv_aload_n hx hb dX7_write_30 rfl (lv_at hl 0 rfl) ?_
      replace h := bd_some h
      obtain ⟨q7, eq7, h⟩ := h
      refine r_getR hx hb hts iw7 hown hK hw o0 27 g3 (by decide) rfl (by decide) rfl (hq _ qw915) (fun _ h9 => h9) dX7_write_31 eq7 ?_
      refine lv_iload_n hx hb dX7_write_34 rfl (lv_at hl 1 rfl) ?_
      replace h := gd_some h
      obtain ⟨g8, h⟩ := h
      refine r_iald hx hb hK hw q7 g8 dX7_write_35 ?_
      refine lv_iconst (v := (1 : Int32)) hx hb dX7_write_36 (by decide) ?_
      refine lv_isub hx hb dX7_write_37 ?_
      replace h := bd_some h
      obtain ⟨r9, er9, h⟩ := h
      refine r_callSi (As := [.int a2, .int (0 : Int32), .int ((r1.1.1 q7 a1.toNatClampNeg) - (1 : Int32))]) (rest := []) hF (c_X7_in l D cy ad adK adV r1.1 a2 (0 : Int32) ((r1.1.1 q7 a1.toNatClampNeg) - (1 : Int32)) r9 er9) (gW_goodS hcm qw985 qw983 qw984 qw67) hdX7_in ⟨Nat.le_of_ble_eq_true rfl, Nat.le_of_ble_eq_true rfl⟩ rfl rfl hZ hK hw rfl hl.1 rfl (Nat.le_of_ble_eq_true rfl) ⟨Nat.zero_le _, Nat.zero_le _⟩ dX7_write_38 (fun H locs hw => ?_)
      refine lv_if_ne (tgt := 50) hx hb dX7_write_41 (by decide) (fun c10 => ?_) (fun c10 => ?_)
      · replace h := if_some_f c10 h
        refine lv_bipush (v := (32 : Int32)) hx hb dX7_write_50 (by decide) ?_
        refine lv_aload_n hx hb dX7_write_52 rfl (lv_at hl 0 rfl) ?_
        replace h := bd_some h
        obtain ⟨q11, eq11, h⟩ := h
        refine r_getR hx hb hts iw7 hown hK hw o0 26 g3 (by decide) rfl (by decide) rfl (hq _ qw914) (fun _ h9 => h9) dX7_write_53 eq11 ?_
        refine lv_iload_n hx hb dX7_write_56 rfl (lv_at hl 1 rfl) ?_
        replace h := gd_some h
        obtain ⟨g12, h⟩ := h
        refine r_iald hx hb hK hw q11 g12 dX7_write_57 ?_
        refine lv_isub hx hb dX7_write_58 ?_
        refine lv_topi (fun y13 ey13 => ?_)
        replace h := lt_at ey13 h
        refine lv_istore (lv' := [(4, .int y13), (0, .ref (ad o0)), (1, .int a1), (2, .int a2), (3, .int a3)]) hx hb dX7_write_59 hl (by decide) rfl (fun ls hl => ?_)
        refine lv_aload_n hx hb dX7_write_61 rfl (lv_at hl 1 rfl) ?_
        replace h := bd_some h
        obtain ⟨q14, eq14, h⟩ := h
        refine r_getR hx hb hts iw7 hown hK hw o0 28 g3 (by decide) rfl (by decide) rfl (hq _ qw916) (fun _ h9 => h9) dX7_write_62 eq14 ?_
        refine lv_bipush (v := (40 : Int32)) hx hb dX7_write_65 (by decide) ?_
        refine lv_iload_n hx hb dX7_write_67 rfl (lv_at hl 2 rfl) ?_
        refine lv_imul hx hb dX7_write_68 ?_
        refine lv_iload_n hx hb dX7_write_69 rfl (lv_at hl 3 rfl) ?_
        refine lv_iadd hx hb dX7_write_70 ?_
        refine lv_iload_n hx hb dX7_write_71 rfl (lv_at hl 4 rfl) ?_
        refine lv_iload hx hb dX7_write_72 (lv_at hl 0 rfl) ?_
        refine lv_ishl hx hb dX7_write_74 ?_
        refine lv_iload hx hb dX7_write_75 (lv_at hl 0 rfl) ?_
        refine lv_ishr hx hb dX7_write_77 ?_
        replace h := gd_some h
        obtain ⟨g15, h⟩ := h
        refine r_iast hx hb hK hw q14 g15 dX7_write_78 (fun H locs hw => ?_)
        replace h := lt_some h
        obtain ⟨M16, eM16, h⟩ := h
        rw [← eM16] at hw
        refine lv_iconst (v := (1 : Int32)) hx hb dX7_write_79 (by decide) ?_
        exact r_iret hx hb hr rfl hlocks hZ hK hw h dX7_write_80
      · replace h := if_some_t c10 h
        refine lv_aload_n hx hb dX7_write_44 rfl (lv_at hl 0 rfl) ?_
        refine lv_iconst (v := (0 : Int32)) hx hb dX7_write_45 (by decide) ?_
        replace h := bd_some h
        obtain ⟨r17, er17, h⟩ := h
        refine r_callVi (As := [.int (0 : Int32)]) (rest := []) hF (c_X7_finding l D cy ad adK adV r9.1 o0 (0 : Int32) r17 er17) (gW_goodV hcm qw989 qw986 qw988 qw18 qw67) hdX7_finding rfl ⟨Nat.le_of_ble_eq_true rfl, Nat.le_of_ble_eq_true rfl⟩ rfl rfl hZ hK hw g3 (by decide) rfl rfl hl.1 rfl (Nat.le_of_ble_eq_true rfl) ⟨Nat.zero_le _, Nat.zero_le _⟩ dX7_write_46 (fun H locs hw => ?_)
        exact r_iret hx hb hr rfl hlocks hZ hK hw h dX7_write_49
    · replace h := if_some_t c6 h
      refine lv_aload_n hx hb dX7_write_22 rfl (lv_at hl 0 rfl) ?_
      refine lv_iconst (v := (5 : Int32)) hx hb dX7_write_23 (by decide) ?_
      replace h := bd_some h
      obtain ⟨r18, er18, h⟩ := h
      refine r_callVi (As := [.int (5 : Int32)]) (rest := []) hF (c_X7_finding l D cy ad adK adV r1.1 o0 (5 : Int32) r18 er18) (gW_goodV hcm qw989 qw986 qw988 qw18 qw67) hdX7_finding rfl ⟨Nat.le_of_ble_eq_true rfl, Nat.le_of_ble_eq_true rfl⟩ rfl rfl hZ hK hw g3 (by decide) rfl rfl hl.1 rfl (Nat.le_of_ble_eq_true rfl) ⟨Nat.zero_le _, Nat.zero_le _⟩ dX7_write_24 (fun H locs hw => ?_)
      exact r_iret hx hb hr rfl hlocks hZ hK hw h dX7_write_27
  · replace h := if_some_t c2 h
    refine lv_aload_n hx hb dX7_write_7 rfl (lv_at hl 0 rfl) ?_
    refine lv_iconst (v := (0 : Int32)) hx hb dX7_write_8 (by decide) ?_
    replace h := gd_some h
    obtain ⟨g20, h⟩ := h
    replace h := bd_some h
    obtain ⟨r19, er19, h⟩ := h
    refine r_callVi (As := [.int (0 : Int32)]) (rest := []) hF (c_X7_finding l D cy ad adK adV r1.1 o0 (0 : Int32) r19 er19) (gW_goodV hcm qw989 qw986 qw988 qw18 qw67) hdX7_finding rfl ⟨Nat.le_of_ble_eq_true rfl, Nat.le_of_ble_eq_true rfl⟩ rfl rfl hZ hK hw g20 (by decide) rfl rfl hl.1 rfl (Nat.le_of_ble_eq_true rfl) ⟨Nat.zero_le _, Nat.zero_le _⟩ dX7_write_9 (fun H locs hw => ?_)
    exact r_iret hx hb hr rfl hlocks hZ hK hw h dX7_write_12
theorem dX7_copy_0 : decode cX7_copy 0 = .ok (.iload_n 1, 1) := by decide +kernel
theorem dX7_copy_1 : decode cX7_copy 1 = .ok (.invokestatic 287, 3) := by decide +kernel
theorem dX7_copy_4 : decode cX7_copy 4 = .ok (.ifCond .eq 10, 3) := by decide +kernel
theorem dX7_copy_7 : decode cX7_copy 7 = .ok (.iload_n 3, 1) := by decide +kernel
theorem dX7_copy_8 : decode cX7_copy 8 = .ok (.invokestatic 287, 3) := by decide +kernel
theorem dX7_copy_11 : decode cX7_copy 11 = .ok (.ifCond .ne 9, 3) := by decide +kernel
theorem dX7_copy_14 : decode cX7_copy 14 = .ok (.aload_n 0, 1) := by decide +kernel
theorem dX7_copy_15 : decode cX7_copy 15 = .ok (.iconst 0, 1) := by decide +kernel
theorem dX7_copy_16 : decode cX7_copy 16 = .ok (.invokevirtual 115, 3) := by decide +kernel
theorem dX7_copy_19 : decode cX7_copy 19 = .ok (.ireturn, 1) := by decide +kernel
theorem dX7_copy_20 : decode cX7_copy 20 = .ok (.aload_n 0, 1) := by decide +kernel
theorem dX7_copy_21 : decode cX7_copy 21 = .ok (.getfield 54, 3) := by decide +kernel
theorem dX7_copy_24 : decode cX7_copy 24 = .ok (.iload_n 1, 1) := by decide +kernel
theorem dX7_copy_25 : decode cX7_copy 25 = .ok (.iaload, 1) := by decide +kernel
theorem dX7_copy_26 : decode cX7_copy 26 = .ok (.ifCond .eq 12, 3) := by decide +kernel
theorem dX7_copy_29 : decode cX7_copy 29 = .ok (.aload_n 0, 1) := by decide +kernel
theorem dX7_copy_30 : decode cX7_copy 30 = .ok (.getfield 54, 3) := by decide +kernel
theorem dX7_copy_33 : decode cX7_copy 33 = .ok (.iload_n 3, 1) := by decide +kernel
theorem dX7_copy_34 : decode cX7_copy 34 = .ok (.iaload, 1) := by decide +kernel
theorem dX7_copy_35 : decode cX7_copy 35 = .ok (.ifCond .ne 9, 3) := by decide +kernel
theorem dX7_copy_38 : decode cX7_copy 38 = .ok (.aload_n 0, 1) := by decide +kernel
theorem dX7_copy_39 : decode cX7_copy 39 = .ok (.iconst 5, 1) := by decide +kernel
theorem dX7_copy_40 : decode cX7_copy 40 = .ok (.invokevirtual 115, 3) := by decide +kernel
theorem dX7_copy_43 : decode cX7_copy 43 = .ok (.ireturn, 1) := by decide +kernel
theorem dX7_copy_44 : decode cX7_copy 44 = .ok (.aload_n 0, 1) := by decide +kernel
theorem dX7_copy_45 : decode cX7_copy 45 = .ok (.getfield 54, 3) := by decide +kernel
theorem dX7_copy_48 : decode cX7_copy 48 = .ok (.iload_n 1, 1) := by decide +kernel
theorem dX7_copy_49 : decode cX7_copy 49 = .ok (.iaload, 1) := by decide +kernel
theorem dX7_copy_50 : decode cX7_copy 50 = .ok (.aload_n 0, 1) := by decide +kernel
theorem dX7_copy_51 : decode cX7_copy 51 = .ok (.getfield 54, 3) := by decide +kernel
theorem dX7_copy_54 : decode cX7_copy 54 = .ok (.iload_n 3, 1) := by decide +kernel
theorem dX7_copy_55 : decode cX7_copy 55 = .ok (.iaload, 1) := by decide +kernel
theorem dX7_copy_56 : decode cX7_copy 56 = .ok (.if_icmp .eq 9, 3) := by decide +kernel
theorem dX7_copy_59 : decode cX7_copy 59 = .ok (.aload_n 0, 1) := by decide +kernel
theorem dX7_copy_60 : decode cX7_copy 60 = .ok (.iconst 2, 1) := by decide +kernel
theorem dX7_copy_61 : decode cX7_copy 61 = .ok (.invokevirtual 115, 3) := by decide +kernel
theorem dX7_copy_64 : decode cX7_copy 64 = .ok (.ireturn, 1) := by decide +kernel
theorem dX7_copy_65 : decode cX7_copy 65 = .ok (.iload_n 2, 1) := by decide +kernel
theorem dX7_copy_66 : decode cX7_copy 66 = .ok (.ifCond .lt 40, 3) := by decide +kernel
theorem dX7_copy_69 : decode cX7_copy 69 = .ok (.iload 4, 2) := by decide +kernel
theorem dX7_copy_71 : decode cX7_copy 71 = .ok (.ifCond .lt 35, 3) := by decide +kernel
theorem dX7_copy_74 : decode cX7_copy 74 = .ok (.iload 5, 2) := by decide +kernel
theorem dX7_copy_76 : decode cX7_copy 76 = .ok (.ifCond .lt 30, 3) := by decide +kernel
theorem dX7_copy_79 : decode cX7_copy 79 = .ok (.iload_n 2, 1) := by decide +kernel
theorem dX7_copy_80 : decode cX7_copy 80 = .ok (.aload_n 0, 1) := by decide +kernel
theorem dX7_copy_81 : decode cX7_copy 81 = .ok (.getfield 57, 3) := by decide +kernel
theorem dX7_copy_84 : decode cX7_copy 84 = .ok (.iload_n 1, 1) := by decide +kernel
theorem dX7_copy_85 : decode cX7_copy 85 = .ok (.iaload, 1) := by decide +kernel
theorem dX7_copy_86 : decode cX7_copy 86 = .ok (.iload 5, 2) := by decide +kernel
theorem dX7_copy_88 : decode cX7_copy 88 = .ok (.isub, 1) := by decide +kernel
theorem dX7_copy_89 : decode cX7_copy 89 = .ok (.if_icmp .gt 17, 3) := by decide +kernel
theorem dX7_copy_92 : decode cX7_copy 92 = .ok (.iload 4, 2) := by decide +kernel
theorem dX7_copy_94 : decode cX7_copy 94 = .ok (.aload_n 0, 1) := by decide +kernel
theorem dX7_copy_95 : decode cX7_copy 95 = .ok (.getfield 57, 3) := by decide +kernel
theorem dX7_copy_98 : decode cX7_copy 98 = .ok (.iload_n 3, 1) := by decide +kernel
theorem dX7_copy_99 : decode cX7_copy 99 = .ok (.iaload, 1) := by decide +kernel
theorem dX7_copy_100 : decode cX7_copy 100 = .ok (.iload 5, 2) := by decide +kernel
theorem dX7_copy_102 : decode cX7_copy 102 = .ok (.isub, 1) := by decide +kernel
theorem dX7_copy_103 : decode cX7_copy 103 = .ok (.if_icmp .le 9, 3) := by decide +kernel
theorem dX7_copy_106 : decode cX7_copy 106 = .ok (.aload_n 0, 1) := by decide +kernel
theorem dX7_copy_107 : decode cX7_copy 107 = .ok (.iconst 0, 1) := by decide +kernel
theorem dX7_copy_108 : decode cX7_copy 108 = .ok (.invokevirtual 115, 3) := by decide +kernel
theorem dX7_copy_111 : decode cX7_copy 111 = .ok (.ireturn, 1) := by decide +kernel
theorem dX7_copy_112 : decode cX7_copy 112 = .ok (.iconst 0, 1) := by decide +kernel
theorem dX7_copy_113 : decode cX7_copy 113 = .ok (.istore 6, 2) := by decide +kernel
theorem dX7_copy_115 : decode cX7_copy 115 = .ok (.iload 6, 2) := by decide +kernel
theorem dX7_copy_117 : decode cX7_copy 117 = .ok (.iload 5, 2) := by decide +kernel
theorem dX7_copy_119 : decode cX7_copy 119 = .ok (.if_icmp .ge 30, 3) := by decide +kernel
theorem dX7_copy_122 : decode cX7_copy 122 = .ok (.aload_n 0, 1) := by decide +kernel
theorem dX7_copy_123 : decode cX7_copy 123 = .ok (.getfield 63, 3) := by decide +kernel
theorem dX7_copy_126 : decode cX7_copy 126 = .ok (.iload 6, 2) := by decide +kernel
theorem dX7_copy_128 : decode cX7_copy 128 = .ok (.aload_n 0, 1) := by decide +kernel
theorem dX7_copy_129 : decode cX7_copy 129 = .ok (.getfield 60, 3) := by decide +kernel
theorem dX7_copy_132 : decode cX7_copy 132 = .ok (.bipush 40, 2) := by decide +kernel
theorem dX7_copy_134 : decode cX7_copy 134 = .ok (.iload_n 1, 1) := by decide +kernel
theorem dX7_copy_135 : decode cX7_copy 135 = .ok (.imul, 1) := by decide +kernel
theorem dX7_copy_136 : decode cX7_copy 136 = .ok (.iload_n 2, 1) := by decide +kernel
theorem dX7_copy_137 : decode cX7_copy 137 = .ok (.iadd, 1) := by decide +kernel
theorem dX7_copy_138 : decode cX7_copy 138 = .ok (.iload 6, 2) := by decide +kernel
theorem dX7_copy_140 : decode cX7_copy 140 = .ok (.iadd, 1) := by decide +kernel
theorem dX7_copy_141 : decode cX7_copy 141 = .ok (.iaload, 1) := by decide +kernel
theorem dX7_copy_142 : decode cX7_copy 142 = .ok (.iastore, 1) := by decide +kernel
theorem dX7_copy_143 : decode cX7_copy 143 = .ok (.iinc 6 1, 3) := by decide +kernel
theorem dX7_copy_146 : decode cX7_copy 146 = .ok (.goto (-31), 3) := by decide +kernel
theorem dX7_copy_149 : decode cX7_copy 149 = .ok (.iconst 0, 1) := by decide +kernel
theorem dX7_copy_150 : decode cX7_copy 150 = .ok (.istore 6, 2) := by decide +kernel
theorem dX7_copy_152 : decode cX7_copy 152 = .ok (.iload 6, 2) := by decide +kernel
theorem dX7_copy_154 : decode cX7_copy 154 = .ok (.iload 5, 2) := by decide +kernel
theorem dX7_copy_156 : decode cX7_copy 156 = .ok (.if_icmp .ge 31, 3) := by decide +kernel
theorem dX7_copy_159 : decode cX7_copy 159 = .ok (.aload_n 0, 1) := by decide +kernel
theorem dX7_copy_160 : decode cX7_copy 160 = .ok (.getfield 60, 3) := by decide +kernel
theorem dX7_copy_163 : decode cX7_copy 163 = .ok (.bipush 40, 2) := by decide +kernel
theorem dX7_copy_165 : decode cX7_copy 165 = .ok (.iload_n 3, 1) := by decide +kernel
theorem dX7_copy_166 : decode cX7_copy 166 = .ok (.imul, 1) := by decide +kernel
theorem dX7_copy_167 : decode cX7_copy 167 = .ok (.iload 4, 2) := by decide +kernel
theorem dX7_copy_169 : decode cX7_copy 169 = .ok (.iadd, 1) := by decide +kernel
theorem dX7_copy_170 : decode cX7_copy 170 = .ok (.iload 6, 2) := by decide +kernel
theorem dX7_copy_172 : decode cX7_copy 172 = .ok (.iadd, 1) := by decide +kernel
theorem dX7_copy_173 : decode cX7_copy 173 = .ok (.aload_n 0, 1) := by decide +kernel
theorem dX7_copy_174 : decode cX7_copy 174 = .ok (.getfield 63, 3) := by decide +kernel
theorem dX7_copy_177 : decode cX7_copy 177 = .ok (.iload 6, 2) := by decide +kernel
theorem dX7_copy_179 : decode cX7_copy 179 = .ok (.iaload, 1) := by decide +kernel
theorem dX7_copy_180 : decode cX7_copy 180 = .ok (.iastore, 1) := by decide +kernel
theorem dX7_copy_181 : decode cX7_copy 181 = .ok (.iinc 6 1, 3) := by decide +kernel
theorem dX7_copy_184 : decode cX7_copy 184 = .ok (.goto (-32), 3) := by decide +kernel
theorem dX7_copy_187 : decode cX7_copy 187 = .ok (.iload 5, 2) := by decide +kernel
theorem dX7_copy_189 : decode cX7_copy 189 = .ok (.ireturn, 1) := by decide +kernel
set_option maxHeartbeats 4000000 in
set_option maxRecDepth 100000 in
theorem c_X7_copy (l : Launch) (D : va_G) (cy : Nat → ClassId) (ad adK adV : Nat → Nat) (M : Mm) (o0 : Nat) (a1 : Int32) (a2 : Int32) (a3 : Int32) (a4 : Int32) (a5 : Int32) (res : Mm × Int32) (h : f_X7_copy M o0 a1 a2 a3 a4 a5 = some res) : Met l yX7_copy (wU yX7_copy cX7_copy 7 (some .int)) rmX7_copy (va_Pc [.ref (ad o0), .int a1, .int a2, .int a3, .int a4, .int a5] (Pre D cy shM ad nM adK adV M)) (va_Qi (fun r (M2 : Mm) => r = res.2 ∧ M2 = res.1) (Pre D cy shM ad nM adK adV) (Aw ad nM)) 0 0 (Aw ad nM) := by
  refine Met.ofW (cc := cX7_copy) (maxL := 7) (ret := (some .int)) (by decide) rfl ?_
  intro p e s m args below meth c s₁ B hml hv
  obtain ⟨hargs, hPre⟩ := hv
  have hx := B.exec
  have hb := B.bytes
  have hr := B.returns
  have hts := atoms_spec (ws := wU yX7_copy cX7_copy 7 (some .int)) B.pre
  have hq : ∀ w ∈ gW, w.before args s = true := fun w hw => hts w (List.mem_cons_of_mem _ hw)
  have hcm : ∀ w ∈ gW, w ∈ wU yX7_copy cX7_copy 7 (some .int) := fun w hw => List.mem_cons_of_mem _ hw
  have hown : s.vm.findClass RX7 = some m.cls := findClass_of_methodNamed B.named
  have hlocks := B.notSynchronized
  have hF : CallFix p m c cX7_copy 7 s args (wU yX7_copy cX7_copy 7 (some .int)) RX7 := ⟨hx, hb, hml, hown, hts⟩
  have hK := hPre.2.1
  have hZ := hPre.2.2.2
  have hw : Wd D cy shM ad nM (Aw ad nM) s.heap M s.heap [] := ⟨hPre.1, hPre.2.2.1, va_S.rf⟩
  have iw7 : ∀ w ∈ u_ws RX7 TX7 30, w ∈ wU yX7_copy cX7_copy 7 (some .int) := fun w hw => List.mem_cons_of_mem _ (iX7 w hw)
  rw [show entryFrame m args 7 = entryFrame m ([.ref (ad o0), .int a1, .int a2, .int a3, .int a4, .int a5] : List Value).toArray 7 from by rw [hargs]]
  have hl := lv_entry ([.ref (ad o0), .int a1, .int a2, .int a3, .int a4, .int a5]) (n := 7) (Nat.le_of_ble_eq_true rfl)
  rw [lg_entry_eq]
  generalize (lg_sl ([.ref (ad o0), .int a1, .int a2, .int a3, .int a4, .int a5]) ++ List.replicate (7 - (lg_sl ([.ref (ad o0), .int a1, .int a2, .int a3, .int a4, .int a5])).length) Slot.unset).toArray = ls at hl ⊢
  have hl : lv_has ls 7 [(0, .ref (ad o0)), (1, .int a1), (2, .int a2), (3, .int a3), (4, .int a4), (5, .int a5)] := hl
  have hb152 : ∀ (nn : Nat), ∀ (M : Mm) (x0 : Nat) (x3 : Int32) (x4 : Int32) (x5 : Int32) (x6 : Int32), f_X7_copy_b152 nn M x0 x3 x4 x5 x6 = some res → ∀ (H : Heap) (locs : List Loc) (ls : Array Slot), Wd D cy shM ad nM (Aw ad nM) s.heap M H locs → lv_has ls 7 [(0, .ref (ad x0)), (3, .int x3), (4, .int x4), (5, .int x5), (6, .int x6)] → W p l e (headSpec (wU yX7_copy cX7_copy 7 (some .int)) rmX7_copy).room s m args below meth c H locs 0 0 (QI D cy shM ad nM adK adV below args s res) (F0 m 152 ls []) := by
    intro nn
    induction nn with
    | zero => intro M x0 x3 x4 x5 x6 h; simp [f_X7_copy_b152] at h
    | succ nn ih =>
      intro M x0 x3 x4 x5 x6 h H locs ls hw hl
      unfold f_X7_copy_b152 at h
      refine lv_iload hx hb dX7_copy_152 (lv_at hl 4 rfl) ?_
      refine lv_iload hx hb dX7_copy_154 (lv_at hl 3 rfl) ?_
      refine lv_icmp_ge (tgt := 187) hx hb dX7_copy_156 (by decide) (fun c1 => ?_) (fun c1 => ?_)
      · replace h := if_some_t c1 h
        refine lv_iload hx hb dX7_copy_187 (lv_at hl 3 rfl) ?_
        exact r_iret hx hb hr rfl hlocks hZ hK hw h dX7_copy_189
      · replace h := if_some_f c1 h
        refine lv_aload_n hx hb dX7_copy_159 rfl (lv_at hl 0 rfl) ?_
        replace h := gd_some h
        obtain ⟨g2, h⟩ := h
        replace h := bd_some h
        obtain ⟨q3, eq3, h⟩ := h
        refine r_getR hx hb hts iw7 hown hK hw x0 28 g2 (by decide) rfl (by decide) rfl (hq _ qw916) (fun _ h9 => h9) dX7_copy_160 eq3 ?_
        refine lv_bipush (v := (40 : Int32)) hx hb dX7_copy_163 (by decide) ?_
        refine lv_iload_n hx hb dX7_copy_165 rfl (lv_at hl 1 rfl) ?_
        refine lv_imul hx hb dX7_copy_166 ?_
        refine lv_iload hx hb dX7_copy_167 (lv_at hl 2 rfl) ?_
        refine lv_iadd hx hb dX7_copy_169 ?_
        refine lv_iload hx hb dX7_copy_170 (lv_at hl 4 rfl) ?_
        refine lv_iadd hx hb dX7_copy_172 ?_
        refine lv_aload_n hx hb dX7_copy_173 rfl (lv_at hl 0 rfl) ?_
        replace h := bd_some h
        obtain ⟨q4, eq4, h⟩ := h
        refine r_getR hx hb hts iw7 hown hK hw x0 29 g2 (by decide) rfl (by decide) rfl (hq _ qw917) (fun _ h9 => h9) dX7_copy_174 eq4 ?_
        refine lv_iload hx hb dX7_copy_177 (lv_at hl 4 rfl) ?_
        replace h := gd_some h
        obtain ⟨g5, h⟩ := h
        refine r_iald hx hb hK hw q4 g5 dX7_copy_179 ?_
        replace h := gd_some h
        obtain ⟨g6, h⟩ := h
        refine r_iast hx hb hK hw q3 g6 dX7_copy_180 (fun H locs hw => ?_)
        replace h := lt_some h
        obtain ⟨M7, eM7, h⟩ := h
        rw [← eM7] at hw
        refine lv_iinc (v := x6 + (1 : Int32)) (lv' := [(6, .int (x6 + (1 : Int32))), (0, .ref (ad x0)), (3, .int x3), (4, .int x4), (5, .int x5)]) hx hb dX7_copy_181 hl (k := 4) rfl (congrArg (fun z => x6 + z) (by decide)) (by decide) rfl (fun ls hl => ?_)
        refine lv_goto (tgt := 152) hx hb dX7_copy_184 (by decide) ?_
        exact ih _ _ _ _ _ _ h _ _ _ hw (lv_sub hl [1, 2, 3, 4, 0] rfl)
  have hb115 : ∀ (nn : Nat), ∀ (M : Mm) (x0 : Nat) (x1 : Int32) (x2 : Int32) (x3 : Int32) (x4 : Int32) (x5 : Int32) (x6 : Int32), f_X7_copy_b115 nn M x0 x1 x2 x3 x4 x5 x6 = some res → ∀ (H : Heap) (locs : List Loc) (ls : Array Slot), Wd D cy shM ad nM (Aw ad nM) s.heap M H locs → lv_has ls 7 [(0, .ref (ad x0)), (1, .int x1), (2, .int x2), (3, .int x3), (4, .int x4), (5, .int x5), (6, .int x6)] → W p l e (headSpec (wU yX7_copy cX7_copy 7 (some .int)) rmX7_copy).room s m args below meth c H locs 0 0 (QI D cy shM ad nM adK adV below args s res) (F0 m 115 ls []) := by
    intro nn
    induction nn with
    | zero => intro M x0 x1 x2 x3 x4 x5 x6 h; simp [f_X7_copy_b115] at h
    | succ nn ih =>
      intro M x0 x1 x2 x3 x4 x5 x6 h H locs ls hw hl
      unfold f_X7_copy_b115 at h
      refine lv_iload hx hb dX7_copy_115 (lv_at hl 6 rfl) ?_
      refine lv_iload hx hb dX7_copy_117 (lv_at hl 5 rfl) ?_
      refine lv_icmp_ge (tgt := 149) hx hb dX7_copy_119 (by decide) (fun c8 => ?_) (fun c8 => ?_)
      · replace h := if_some_t c8 h
        refine lv_iconst (v := (0 : Int32)) hx hb dX7_copy_149 (by decide) ?_
        refine lv_istore (lv' := [(6, .int (0 : Int32)), (0, .ref (ad x0)), (1, .int x1), (2, .int x2), (3, .int x3), (4, .int x4), (5, .int x5)]) hx hb dX7_copy_150 hl (by decide) rfl (fun ls hl => ?_)
        exact hb152 1000 _ _ _ _ _ _ h _ _ _ hw (lv_sub hl [1, 4, 5, 6, 0] rfl)
      · replace h := if_some_f c8 h
        refine lv_aload_n hx hb dX7_copy_122 rfl (lv_at hl 0 rfl) ?_
        replace h := gd_some h
        obtain ⟨g9, h⟩ := h
        replace h := bd_some h
        obtain ⟨q10, eq10, h⟩ := h
        refine r_getR hx hb hts iw7 hown hK hw x0 29 g9 (by decide) rfl (by decide) rfl (hq _ qw917) (fun _ h9 => h9) dX7_copy_123 eq10 ?_
        refine lv_iload hx hb dX7_copy_126 (lv_at hl 6 rfl) ?_
        refine lv_aload_n hx hb dX7_copy_128 rfl (lv_at hl 0 rfl) ?_
        replace h := bd_some h
        obtain ⟨q11, eq11, h⟩ := h
        refine r_getR hx hb hts iw7 hown hK hw x0 28 g9 (by decide) rfl (by decide) rfl (hq _ qw916) (fun _ h9 => h9) dX7_copy_129 eq11 ?_
        refine lv_bipush (v := (40 : Int32)) hx hb dX7_copy_132 (by decide) ?_
        refine lv_iload_n hx hb dX7_copy_134 rfl (lv_at hl 1 rfl) ?_
        refine lv_imul hx hb dX7_copy_135 ?_
        refine lv_iload_n hx hb dX7_copy_136 rfl (lv_at hl 2 rfl) ?_
        refine lv_iadd hx hb dX7_copy_137 ?_
        refine lv_iload hx hb dX7_copy_138 (lv_at hl 6 rfl) ?_
        refine lv_iadd hx hb dX7_copy_140 ?_
        replace h := gd_some h
        obtain ⟨g12, h⟩ := h
        refine r_iald hx hb hK hw q11 g12 dX7_copy_141 ?_
        replace h := gd_some h
        obtain ⟨g13, h⟩ := h
        refine r_iast hx hb hK hw q10 g13 dX7_copy_142 (fun H locs hw => ?_)
        replace h := lt_some h
        obtain ⟨M14, eM14, h⟩ := h
        rw [← eM14] at hw
        refine lv_iinc (v := x6 + (1 : Int32)) (lv' := [(6, .int (x6 + (1 : Int32))), (0, .ref (ad x0)), (1, .int x1), (2, .int x2), (3, .int x3), (4, .int x4), (5, .int x5)]) hx hb dX7_copy_143 hl (k := 6) rfl (congrArg (fun z => x6 + z) (by decide)) (by decide) rfl (fun ls hl => ?_)
        refine lv_goto (tgt := 115) hx hb dX7_copy_146 (by decide) ?_
        exact ih _ _ _ _ _ _ _ _ h _ _ _ hw (lv_sub hl [1, 2, 3, 4, 5, 6, 0] rfl)
  have hb106 : ∀ (M : Mm) (x0 : Nat), f_X7_copy_b106 M x0 = some res → ∀ (H : Heap) (locs : List Loc) (ls : Array Slot), Wd D cy shM ad nM (Aw ad nM) s.heap M H locs → lv_has ls 7 [(0, .ref (ad x0))] → W p l e (headSpec (wU yX7_copy cX7_copy 7 (some .int)) rmX7_copy).room s m args below meth c H locs 0 0 (QI D cy shM ad nM adK adV below args s res) (F0 m 106 ls []) := by
    intro M x0 h H locs ls hw hl
    unfold f_X7_copy_b106 at h
    refine lv_aload_n hx hb dX7_copy_106 rfl (lv_at hl 0 rfl) ?_
    refine lv_iconst (v := (0 : Int32)) hx hb dX7_copy_107 (by decide) ?_
    replace h := gd_some h
    obtain ⟨g16, h⟩ := h
    replace h := bd_some h
    obtain ⟨r15, er15, h⟩ := h
    refine r_callVi (As := [.int (0 : Int32)]) (rest := []) hF (c_X7_finding l D cy ad adK adV M x0 (0 : Int32) r15 er15) (gW_goodV hcm qw989 qw986 qw988 qw18 qw67) hdX7_finding rfl ⟨Nat.le_of_ble_eq_true rfl, Nat.le_of_ble_eq_true rfl⟩ rfl rfl hZ hK hw g16 (by decide) rfl rfl hl.1 rfl (Nat.le_of_ble_eq_true rfl) ⟨Nat.zero_le _, Nat.zero_le _⟩ dX7_copy_108 (fun H locs hw => ?_)
    exact r_iret hx hb hr rfl hlocks hZ hK hw h dX7_copy_111
  have hb38 : ∀ (M : Mm) (x0 : Nat), f_X7_copy_b38 M x0 = some res → ∀ (H : Heap) (locs : List Loc) (ls : Array Slot), Wd D cy shM ad nM (Aw ad nM) s.heap M H locs → lv_has ls 7 [(0, .ref (ad x0))] → W p l e (headSpec (wU yX7_copy cX7_copy 7 (some .int)) rmX7_copy).room s m args below meth c H locs 0 0 (QI D cy shM ad nM adK adV below args s res) (F0 m 38 ls []) := by
    intro M x0 h H locs ls hw hl
    unfold f_X7_copy_b38 at h
    refine lv_aload_n hx hb dX7_copy_38 rfl (lv_at hl 0 rfl) ?_
    refine lv_iconst (v := (5 : Int32)) hx hb dX7_copy_39 (by decide) ?_
    replace h := gd_some h
    obtain ⟨g18, h⟩ := h
    replace h := bd_some h
    obtain ⟨r17, er17, h⟩ := h
    refine r_callVi (As := [.int (5 : Int32)]) (rest := []) hF (c_X7_finding l D cy ad adK adV M x0 (5 : Int32) r17 er17) (gW_goodV hcm qw989 qw986 qw988 qw18 qw67) hdX7_finding rfl ⟨Nat.le_of_ble_eq_true rfl, Nat.le_of_ble_eq_true rfl⟩ rfl rfl hZ hK hw g18 (by decide) rfl rfl hl.1 rfl (Nat.le_of_ble_eq_true rfl) ⟨Nat.zero_le _, Nat.zero_le _⟩ dX7_copy_40 (fun H locs hw => ?_)
    exact r_iret hx hb hr rfl hlocks hZ hK hw h dX7_copy_43
  have hb14 : ∀ (M : Mm) (x0 : Nat), f_X7_copy_b14 M x0 = some res → ∀ (H : Heap) (locs : List Loc) (ls : Array Slot), Wd D cy shM ad nM (Aw ad nM) s.heap M H locs → lv_has ls 7 [(0, .ref (ad x0))] → W p l e (headSpec (wU yX7_copy cX7_copy 7 (some .int)) rmX7_copy).room s m args below meth c H locs 0 0 (QI D cy shM ad nM adK adV below args s res) (F0 m 14 ls []) := by
    intro M x0 h H locs ls hw hl
    unfold f_X7_copy_b14 at h
    refine lv_aload_n hx hb dX7_copy_14 rfl (lv_at hl 0 rfl) ?_
    refine lv_iconst (v := (0 : Int32)) hx hb dX7_copy_15 (by decide) ?_
    replace h := gd_some h
    obtain ⟨g20, h⟩ := h
    replace h := bd_some h
    obtain ⟨r19, er19, h⟩ := h
    refine r_callVi (As := [.int (0 : Int32)]) (rest := []) hF (c_X7_finding l D cy ad adK adV M x0 (0 : Int32) r19 er19) (gW_goodV hcm qw989 qw986 qw988 qw18 qw67) hdX7_finding rfl ⟨Nat.le_of_ble_eq_true rfl, Nat.le_of_ble_eq_true rfl⟩ rfl rfl hZ hK hw g20 (by decide) rfl rfl hl.1 rfl (Nat.le_of_ble_eq_true rfl) ⟨Nat.zero_le _, Nat.zero_le _⟩ dX7_copy_16 (fun H locs hw => ?_)
    exact r_iret hx hb hr rfl hlocks hZ hK hw h dX7_copy_19
  unfold f_X7_copy at h
  refine lv_iload_n hx hb dX7_copy_0 rfl (lv_at hl 1 rfl) ?_
  replace h := bd_some h
  obtain ⟨r21, er21, h⟩ := h
  refine r_callSi (As := [.int a1]) (rest := []) hF (c_X7_isSheet l D cy ad adK adV M a1 r21 er21) (gW_goodS hcm qw1312 qw1310 qw1311 qw67) hdX7_isSheet ⟨Nat.le_of_ble_eq_true rfl, Nat.le_of_ble_eq_true rfl⟩ rfl rfl hZ hK hw rfl hl.1 rfl (Nat.le_of_ble_eq_true rfl) ⟨Nat.zero_le _, Nat.zero_le _⟩ dX7_copy_1 (fun H locs hw => ?_)
  refine lv_if_eq (tgt := 14) hx hb dX7_copy_4 (by decide) (fun c22 => ?_) (fun c22 => ?_)
  · replace h := if_some_t c22 h
    exact hb14 _ _ h _ _ _ hw (lv_sub hl [0] rfl)
  · replace h := if_some_f c22 h
    refine lv_iload_n hx hb dX7_copy_7 rfl (lv_at hl 3 rfl) ?_
    replace h := bd_some h
    obtain ⟨r23, er23, h⟩ := h
    refine r_callSi (As := [.int a3]) (rest := []) hF (c_X7_isSheet l D cy ad adK adV r21.1 a3 r23 er23) (gW_goodS hcm qw1312 qw1310 qw1311 qw67) hdX7_isSheet ⟨Nat.le_of_ble_eq_true rfl, Nat.le_of_ble_eq_true rfl⟩ rfl rfl hZ hK hw rfl hl.1 rfl (Nat.le_of_ble_eq_true rfl) ⟨Nat.zero_le _, Nat.zero_le _⟩ dX7_copy_8 (fun H locs hw => ?_)
    refine lv_if_ne (tgt := 20) hx hb dX7_copy_11 (by decide) (fun c24 => ?_) (fun c24 => ?_)
    · replace h := if_some_f c24 h
      refine lv_aload_n hx hb dX7_copy_20 rfl (lv_at hl 0 rfl) ?_
      replace h := gd_some h
      obtain ⟨g25, h⟩ := h
      replace h := bd_some h
      obtain ⟨q26, eq26, h⟩ := h
      refine r_getR hx hb hts iw7 hown hK hw o0 26 g25 (by decide) rfl (by decide) rfl (hq _ qw914) (fun _ h9 => h9) dX7_copy_21 eq26 ?_
      refine lv_iload_n hx hb dX7_copy_24 rfl (lv_at hl 1 rfl) ?_
      replace h := gd_some h
      obtain ⟨g27, h⟩ := h
      refine r_iald hx hb hK hw q26 g27 dX7_copy_25 ?_
      refine lv_if_eq (tgt := 38) hx hb dX7_copy_26 (by decide) (fun c28 => ?_) (fun c28 => ?_)
      · replace h := if_some_t c28 h
        exact hb38 _ _ h _ _ _ hw (lv_sub hl [0] rfl)
      · replace h := if_some_f c28 h
        refine lv_aload_n hx hb dX7_copy_29 rfl (lv_at hl 0 rfl) ?_
        replace h := bd_some h
        obtain ⟨q29, eq29, h⟩ := h
        refine r_getR hx hb hts iw7 hown hK hw o0 26 g25 (by decide) rfl (by decide) rfl (hq _ qw914) (fun _ h9 => h9) dX7_copy_30 eq29 ?_
        refine lv_iload_n hx hb dX7_copy_33 rfl (lv_at hl 3 rfl) ?_
        replace h := gd_some h
        obtain ⟨g30, h⟩ := h
        refine r_iald hx hb hK hw q29 g30 dX7_copy_34 ?_
        refine lv_if_ne (tgt := 44) hx hb dX7_copy_35 (by decide) (fun c31 => ?_) (fun c31 => ?_)
        · replace h := if_some_f c31 h
          refine lv_aload_n hx hb dX7_copy_44 rfl (lv_at hl 0 rfl) ?_
          replace h := bd_some h
          obtain ⟨q32, eq32, h⟩ := h
          refine r_getR hx hb hts iw7 hown hK hw o0 26 g25 (by decide) rfl (by decide) rfl (hq _ qw914) (fun _ h9 => h9) dX7_copy_45 eq32 ?_
          refine lv_iload_n hx hb dX7_copy_48 rfl (lv_at hl 1 rfl) ?_
          replace h := gd_some h
          obtain ⟨g33, h⟩ := h
          refine r_iald hx hb hK hw q32 g33 dX7_copy_49 ?_
          refine lv_aload_n hx hb dX7_copy_50 rfl (lv_at hl 0 rfl) ?_
          replace h := bd_some h
          obtain ⟨q34, eq34, h⟩ := h
          refine r_getR hx hb hts iw7 hown hK hw o0 26 g25 (by decide) rfl (by decide) rfl (hq _ qw914) (fun _ h9 => h9) dX7_copy_51 eq34 ?_
          refine lv_iload_n hx hb dX7_copy_54 rfl (lv_at hl 3 rfl) ?_
          replace h := gd_some h
          obtain ⟨g35, h⟩ := h
          refine r_iald hx hb hK hw q34 g35 dX7_copy_55 ?_
          refine lv_icmp_eq (tgt := 65) hx hb dX7_copy_56 (by decide) (fun c36 => ?_) (fun c36 => ?_)
          · replace h := if_some_t c36 h
            refine lv_iload_n hx hb dX7_copy_65 rfl (lv_at hl 2 rfl) ?_
            refine lv_if_lt (tgt := 106) hx hb dX7_copy_66 (by decide) (fun c37 => ?_) (fun c37 => ?_)
            · replace h := if_some_t c37 h
              exact hb106 _ _ h _ _ _ hw (lv_sub hl [0] rfl)
            · replace h := if_some_f c37 h
              refine lv_iload hx hb dX7_copy_69 (lv_at hl 4 rfl) ?_
              refine lv_if_lt (tgt := 106) hx hb dX7_copy_71 (by decide) (fun c38 => ?_) (fun c38 => ?_)
              · replace h := if_some_t c38 h
                exact hb106 _ _ h _ _ _ hw (lv_sub hl [0] rfl)
              · replace h := if_some_f c38 h
                refine lv_iload hx hb dX7_copy_74 (lv_at hl 5 rfl) ?_
                refine lv_if_lt (tgt := 106) hx hb dX7_copy_76 (by decide) (fun c39 => ?_) (fun c39 => ?_)
                · replace h := if_some_t c39 h
                  exact hb106 _ _ h _ _ _ hw (lv_sub hl [0] rfl)
                · replace h := if_some_f c39 h
                  refine lv_iload_n hx hb dX7_copy_79 rfl (lv_at hl 2 rfl) ?_
                  refine lv_aload_n hx hb dX7_copy_80 rfl (lv_at hl 0 rfl) ?_
                  replace h := bd_some h
                  obtain ⟨q40, eq40, h⟩ := h
                  refine r_getR hx hb hts iw7 hown hK hw o0 27 g25 (by decide) rfl (by decide) rfl (hq _ qw915) (fun _ h9 => h9) dX7_copy_81 eq40 ?_
                  refine lv_iload_n hx hb dX7_copy_84 rfl (lv_at hl 1 rfl) ?_
                  replace h := gd_some h
                  obtain ⟨g41, h⟩ := h
                  refine r_iald hx hb hK hw q40 g41 dX7_copy_85 ?_
                  refine lv_iload hx hb dX7_copy_86 (lv_at hl 5 rfl) ?_
                  refine lv_isub hx hb dX7_copy_88 ?_
                  refine lv_icmp_gt (tgt := 106) hx hb dX7_copy_89 (by decide) (fun c42 => ?_) (fun c42 => ?_)
                  · replace h := if_some_t c42 h
                    exact hb106 _ _ h _ _ _ hw (lv_sub hl [0] rfl)
                  · replace h := if_some_f c42 h
                    refine lv_iload hx hb dX7_copy_92 (lv_at hl 4 rfl) ?_
                    refine lv_aload_n hx hb dX7_copy_94 rfl (lv_at hl 0 rfl) ?_
                    replace h := bd_some h
                    obtain ⟨q43, eq43, h⟩ := h
                    refine r_getR hx hb hts iw7 hown hK hw o0 27 g25 (by decide) rfl (by decide) rfl (hq _ qw915) (fun _ h9 => h9) dX7_copy_95 eq43 ?_
                    refine lv_iload_n hx hb dX7_copy_98 rfl (lv_at hl 3 rfl) ?_
                    replace h := gd_some h
                    obtain ⟨g44, h⟩ := h
                    refine r_iald hx hb hK hw q43 g44 dX7_copy_99 ?_
                    refine lv_iload hx hb dX7_copy_100 (lv_at hl 5 rfl) ?_
                    refine lv_isub hx hb dX7_copy_102 ?_
                    refine lv_icmp_le (tgt := 112) hx hb dX7_copy_103 (by decide) (fun c45 => ?_) (fun c45 => ?_)
                    · replace h := if_some_t c45 h
                      refine lv_iconst (v := (0 : Int32)) hx hb dX7_copy_112 (by decide) ?_
                      refine lv_istore (lv' := [(6, .int (0 : Int32)), (0, .ref (ad o0)), (1, .int a1), (2, .int a2), (3, .int a3), (4, .int a4), (5, .int a5)]) hx hb dX7_copy_113 hl (by decide) rfl (fun ls hl => ?_)
                      exact hb115 1000 _ _ _ _ _ _ _ _ h _ _ _ hw (lv_sub hl [1, 2, 3, 4, 5, 6, 0] rfl)
                    · replace h := if_some_f c45 h
                      exact hb106 _ _ h _ _ _ hw (lv_sub hl [0] rfl)
          · replace h := if_some_f c36 h
            refine lv_aload_n hx hb dX7_copy_59 rfl (lv_at hl 0 rfl) ?_
            refine lv_iconst (v := (2 : Int32)) hx hb dX7_copy_60 (by decide) ?_
            replace h := bd_some h
            obtain ⟨r46, er46, h⟩ := h
            refine r_callVi (As := [.int (2 : Int32)]) (rest := []) hF (c_X7_finding l D cy ad adK adV r23.1 o0 (2 : Int32) r46 er46) (gW_goodV hcm qw989 qw986 qw988 qw18 qw67) hdX7_finding rfl ⟨Nat.le_of_ble_eq_true rfl, Nat.le_of_ble_eq_true rfl⟩ rfl rfl hZ hK hw g25 (by decide) rfl rfl hl.1 rfl (Nat.le_of_ble_eq_true rfl) ⟨Nat.zero_le _, Nat.zero_le _⟩ dX7_copy_61 (fun H locs hw => ?_)
            exact r_iret hx hb hr rfl hlocks hZ hK hw h dX7_copy_64
        · replace h := if_some_t c31 h
          exact hb38 _ _ h _ _ _ hw (lv_sub hl [0] rfl)
    · replace h := if_some_t c24 h
      exact hb14 _ _ h _ _ _ hw (lv_sub hl [0] rfl)
theorem dX7_lacks_0 : decode cX7_lacks 0 = .ok (.iload_n 1, 1) := by decide +kernel
theorem dX7_lacks_1 : decode cX7_lacks 1 = .ok (.invokestatic 287, 3) := by decide +kernel
theorem dX7_lacks_4 : decode cX7_lacks 4 = .ok (.ifCond .ne 7, 3) := by decide +kernel
theorem dX7_lacks_7 : decode cX7_lacks 7 = .ok (.iconst 0, 1) := by decide +kernel
theorem dX7_lacks_8 : decode cX7_lacks 8 = .ok (.goto 17, 3) := by decide +kernel
theorem dX7_lacks_11 : decode cX7_lacks 11 = .ok (.aload_n 0, 1) := by decide +kernel
theorem dX7_lacks_12 : decode cX7_lacks 12 = .ok (.getfield 54, 3) := by decide +kernel
theorem dX7_lacks_15 : decode cX7_lacks 15 = .ok (.iload_n 1, 1) := by decide +kernel
theorem dX7_lacks_16 : decode cX7_lacks 16 = .ok (.iaload, 1) := by decide +kernel
theorem dX7_lacks_17 : decode cX7_lacks 17 = .ok (.ifCond .ne 7, 3) := by decide +kernel
theorem dX7_lacks_20 : decode cX7_lacks 20 = .ok (.iconst 5, 1) := by decide +kernel
theorem dX7_lacks_21 : decode cX7_lacks 21 = .ok (.goto 4, 3) := by decide +kernel
theorem dX7_lacks_24 : decode cX7_lacks 24 = .ok (.iconst (-1), 1) := by decide +kernel
theorem dX7_lacks_25 : decode cX7_lacks 25 = .ok (.ireturn, 1) := by decide +kernel
set_option maxHeartbeats 4000000 in
set_option maxRecDepth 100000 in
theorem c_X7_lacks (l : Launch) (D : va_G) (cy : Nat → ClassId) (ad adK adV : Nat → Nat) (M : Mm) (o0 : Nat) (a1 : Int32) (res : Mm × Int32) (h : f_X7_lacks M o0 a1 = some res) : Met l yX7_lacks (wU yX7_lacks cX7_lacks 2 (some .int)) rmX7_lacks (va_Pc [.ref (ad o0), .int a1] (Pre D cy shM ad nM adK adV M)) (va_Qi (fun r (M2 : Mm) => r = res.2 ∧ M2 = res.1) (Pre D cy shM ad nM adK adV) (Aw ad nM)) 0 0 (Aw ad nM) := by
  refine Met.ofW (cc := cX7_lacks) (maxL := 2) (ret := (some .int)) (by decide) rfl ?_
  intro p e s m args below meth c s₁ B hml hv
  obtain ⟨hargs, hPre⟩ := hv
  have hx := B.exec
  have hb := B.bytes
  have hr := B.returns
  have hts := atoms_spec (ws := wU yX7_lacks cX7_lacks 2 (some .int)) B.pre
  have hq : ∀ w ∈ gW, w.before args s = true := fun w hw => hts w (List.mem_cons_of_mem _ hw)
  have hcm : ∀ w ∈ gW, w ∈ wU yX7_lacks cX7_lacks 2 (some .int) := fun w hw => List.mem_cons_of_mem _ hw
  have hown : s.vm.findClass RX7 = some m.cls := findClass_of_methodNamed B.named
  have hlocks := B.notSynchronized
  have hF : CallFix p m c cX7_lacks 2 s args (wU yX7_lacks cX7_lacks 2 (some .int)) RX7 := ⟨hx, hb, hml, hown, hts⟩
  have hK := hPre.2.1
  have hZ := hPre.2.2.2
  have hw : Wd D cy shM ad nM (Aw ad nM) s.heap M s.heap [] := ⟨hPre.1, hPre.2.2.1, va_S.rf⟩
  have iw7 : ∀ w ∈ u_ws RX7 TX7 30, w ∈ wU yX7_lacks cX7_lacks 2 (some .int) := fun w hw => List.mem_cons_of_mem _ (iX7 w hw)
  rw [show entryFrame m args 2 = entryFrame m ([.ref (ad o0), .int a1] : List Value).toArray 2 from by rw [hargs]]
  have hl := lv_entry ([.ref (ad o0), .int a1]) (n := 2) (Nat.le_of_ble_eq_true rfl)
  rw [lg_entry_eq]
  generalize (lg_sl ([.ref (ad o0), .int a1]) ++ List.replicate (2 - (lg_sl ([.ref (ad o0), .int a1])).length) Slot.unset).toArray = ls at hl ⊢
  have hl : lv_has ls 2 [(0, .ref (ad o0)), (1, .int a1)] := hl
  unfold f_X7_lacks at h
  refine lv_iload_n hx hb dX7_lacks_0 rfl (lv_at hl 1 rfl) ?_
  replace h := bd_some h
  obtain ⟨r1, er1, h⟩ := h
  refine r_callSi (As := [.int a1]) (rest := []) hF (c_X7_isSheet l D cy ad adK adV M a1 r1 er1) (gW_goodS hcm qw1312 qw1310 qw1311 qw67) hdX7_isSheet ⟨Nat.le_of_ble_eq_true rfl, Nat.le_of_ble_eq_true rfl⟩ rfl rfl hZ hK hw rfl hl.1 rfl (Nat.le_of_ble_eq_true rfl) ⟨Nat.zero_le _, Nat.zero_le _⟩ dX7_lacks_1 (fun H locs hw => ?_)
  refine lv_if_ne (tgt := 11) hx hb dX7_lacks_4 (by decide) (fun c2 => ?_) (fun c2 => ?_)
  · replace h := if_some_f c2 h
    refine lv_aload_n hx hb dX7_lacks_11 rfl (lv_at hl 0 rfl) ?_
    replace h := gd_some h
    obtain ⟨g3, h⟩ := h
    replace h := bd_some h
    obtain ⟨q4, eq4, h⟩ := h
    refine r_getR hx hb hts iw7 hown hK hw o0 26 g3 (by decide) rfl (by decide) rfl (hq _ qw914) (fun _ h9 => h9) dX7_lacks_12 eq4 ?_
    refine lv_iload_n hx hb dX7_lacks_15 rfl (lv_at hl 1 rfl) ?_
    replace h := gd_some h
    obtain ⟨g5, h⟩ := h
    refine r_iald hx hb hK hw q4 g5 dX7_lacks_16 ?_
    refine lv_if_ne (tgt := 24) hx hb dX7_lacks_17 (by decide) (fun c6 => ?_) (fun c6 => ?_)
    · replace h := if_some_f c6 h
      refine lv_iconst (v := (-1 : Int32)) hx hb dX7_lacks_24 (by decide) ?_
      exact r_iret hx hb hr rfl hlocks hZ hK hw h dX7_lacks_25
    · replace h := if_some_t c6 h
      refine lv_iconst (v := (5 : Int32)) hx hb dX7_lacks_20 (by decide) ?_
      refine lv_goto (tgt := 25) hx hb dX7_lacks_21 (by decide) ?_
      exact r_iret hx hb hr rfl hlocks hZ hK hw h dX7_lacks_25
  · replace h := if_some_t c2 h
    refine lv_iconst (v := (0 : Int32)) hx hb dX7_lacks_7 (by decide) ?_
    refine lv_goto (tgt := 25) hx hb dX7_lacks_8 (by decide) ?_
    exact r_iret hx hb hr rfl hlocks hZ hK hw h dX7_lacks_25
theorem dX7_load_0 : decode cX7_load 0 = .ok (.aload_n 0, 1) := by decide +kernel
theorem dX7_load_1 : decode cX7_load 1 = .ok (.iload_n 1, 1) := by decide +kernel
theorem dX7_load_2 : decode cX7_load 2 = .ok (.invokevirtual 290, 3) := by decide +kernel
theorem dX7_load_5 : decode cX7_load 5 = .ok (.istore_n 2, 1) := by decide +kernel
theorem dX7_load_6 : decode cX7_load 6 = .ok (.iload_n 2, 1) := by decide +kernel
theorem dX7_load_7 : decode cX7_load 7 = .ok (.ifCond .lt 9, 3) := by decide +kernel
theorem dX7_load_10 : decode cX7_load 10 = .ok (.aload_n 0, 1) := by decide +kernel
theorem dX7_load_11 : decode cX7_load 11 = .ok (.iload_n 2, 1) := by decide +kernel
theorem dX7_load_12 : decode cX7_load 12 = .ok (.invokevirtual 115, 3) := by decide +kernel
theorem dX7_load_15 : decode cX7_load 15 = .ok (.ireturn, 1) := by decide +kernel
theorem dX7_load_16 : decode cX7_load 16 = .ok (.iconst 0, 1) := by decide +kernel
theorem dX7_load_17 : decode cX7_load 17 = .ok (.istore_n 3, 1) := by decide +kernel
theorem dX7_load_18 : decode cX7_load 18 = .ok (.iload_n 3, 1) := by decide +kernel
theorem dX7_load_19 : decode cX7_load 19 = .ok (.aload_n 0, 1) := by decide +kernel
theorem dX7_load_20 : decode cX7_load 20 = .ok (.getfield 57, 3) := by decide +kernel
theorem dX7_load_23 : decode cX7_load 23 = .ok (.iload_n 1, 1) := by decide +kernel
theorem dX7_load_24 : decode cX7_load 24 = .ok (.iaload, 1) := by decide +kernel
theorem dX7_load_25 : decode cX7_load 25 = .ok (.if_icmp .ge 55, 3) := by decide +kernel
theorem dX7_load_28 : decode cX7_load 28 = .ok (.aload_n 0, 1) := by decide +kernel
theorem dX7_load_29 : decode cX7_load 29 = .ok (.invokevirtual 227, 3) := by decide +kernel
theorem dX7_load_32 : decode cX7_load 32 = .ok (.ifCond .ne 48, 3) := by decide +kernel
theorem dX7_load_35 : decode cX7_load 35 = .ok (.aload_n 0, 1) := by decide +kernel
theorem dX7_load_36 : decode cX7_load 36 = .ok (.aload_n 0, 1) := by decide +kernel
theorem dX7_load_37 : decode cX7_load 37 = .ok (.getfield 60, 3) := by decide +kernel
theorem dX7_load_40 : decode cX7_load 40 = .ok (.bipush 40, 2) := by decide +kernel
theorem dX7_load_42 : decode cX7_load 42 = .ok (.iload_n 1, 1) := by decide +kernel
theorem dX7_load_43 : decode cX7_load 43 = .ok (.imul, 1) := by decide +kernel
theorem dX7_load_44 : decode cX7_load 44 = .ok (.iload_n 3, 1) := by decide +kernel
theorem dX7_load_45 : decode cX7_load 45 = .ok (.iadd, 1) := by decide +kernel
theorem dX7_load_46 : decode cX7_load 46 = .ok (.iaload, 1) := by decide +kernel
theorem dX7_load_47 : decode cX7_load 47 = .ok (.aload_n 0, 1) := by decide +kernel
theorem dX7_load_48 : decode cX7_load 48 = .ok (.getfield 7, 3) := by decide +kernel
theorem dX7_load_51 : decode cX7_load 51 = .ok (.iconst 2, 1) := by decide +kernel
theorem dX7_load_52 : decode cX7_load 52 = .ok (.iaload, 1) := by decide +kernel
theorem dX7_load_53 : decode cX7_load 53 = .ok (.invokevirtual 75, 3) := by decide +kernel
theorem dX7_load_56 : decode cX7_load 56 = .ok (.ifCond .eq 24, 3) := by decide +kernel
theorem dX7_load_59 : decode cX7_load 59 = .ok (.aload_n 0, 1) := by decide +kernel
theorem dX7_load_60 : decode cX7_load 60 = .ok (.aload_n 0, 1) := by decide +kernel
theorem dX7_load_61 : decode cX7_load 61 = .ok (.getfield 60, 3) := by decide +kernel
theorem dX7_load_64 : decode cX7_load 64 = .ok (.bipush 40, 2) := by decide +kernel
theorem dX7_load_66 : decode cX7_load 66 = .ok (.iload_n 1, 1) := by decide +kernel
theorem dX7_load_67 : decode cX7_load 67 = .ok (.imul, 1) := by decide +kernel
theorem dX7_load_68 : decode cX7_load 68 = .ok (.iload_n 3, 1) := by decide +kernel
theorem dX7_load_69 : decode cX7_load 69 = .ok (.iadd, 1) := by decide +kernel
theorem dX7_load_70 : decode cX7_load 70 = .ok (.iaload, 1) := by decide +kernel
theorem dX7_load_71 : decode cX7_load 71 = .ok (.invokevirtual 234, 3) := by decide +kernel
theorem dX7_load_74 : decode cX7_load 74 = .ok (.iinc 3 1, 3) := by decide +kernel
theorem dX7_load_77 : decode cX7_load 77 = .ok (.goto (-59), 3) := by decide +kernel
theorem dX7_load_80 : decode cX7_load 80 = .ok (.iload_n 3, 1) := by decide +kernel
theorem dX7_load_81 : decode cX7_load 81 = .ok (.ireturn, 1) := by decide +kernel
set_option maxHeartbeats 4000000 in
set_option maxRecDepth 100000 in
theorem c_X7_load (l : Launch) (D : va_G) (cy : Nat → ClassId) (ad adK adV : Nat → Nat) (M : Mm) (o0 : Nat) (a1 : Int32) (res : Mm × Int32) (h : f_X7_load M o0 a1 = some res) : Met l yX7_load (wU yX7_load cX7_load 4 (some .int)) rmX7_load (va_Pc [.ref (ad o0), .int a1] (Pre D cy shM ad nM adK adV M)) (va_Qi (fun r (M2 : Mm) => r = res.2 ∧ M2 = res.1) (Pre D cy shM ad nM adK adV) (Aw ad nM)) 0 0 (Aw ad nM) := by
  refine Met.ofW (cc := cX7_load) (maxL := 4) (ret := (some .int)) (by decide) rfl ?_
  intro p e s m args below meth c s₁ B hml hv
  obtain ⟨hargs, hPre⟩ := hv
  have hx := B.exec
  have hb := B.bytes
  have hr := B.returns
  have hts := atoms_spec (ws := wU yX7_load cX7_load 4 (some .int)) B.pre
  have hq : ∀ w ∈ gW, w.before args s = true := fun w hw => hts w (List.mem_cons_of_mem _ hw)
  have hcm : ∀ w ∈ gW, w ∈ wU yX7_load cX7_load 4 (some .int) := fun w hw => List.mem_cons_of_mem _ hw
  have hown : s.vm.findClass RX7 = some m.cls := findClass_of_methodNamed B.named
  have hlocks := B.notSynchronized
  have hF : CallFix p m c cX7_load 4 s args (wU yX7_load cX7_load 4 (some .int)) RX7 := ⟨hx, hb, hml, hown, hts⟩
  have hK := hPre.2.1
  have hZ := hPre.2.2.2
  have hw : Wd D cy shM ad nM (Aw ad nM) s.heap M s.heap [] := ⟨hPre.1, hPre.2.2.1, va_S.rf⟩
  have iw7 : ∀ w ∈ u_ws RX7 TX7 30, w ∈ wU yX7_load cX7_load 4 (some .int) := fun w hw => List.mem_cons_of_mem _ (iX7 w hw)
  rw [show entryFrame m args 4 = entryFrame m ([.ref (ad o0), .int a1] : List Value).toArray 4 from by rw [hargs]]
  have hl := lv_entry ([.ref (ad o0), .int a1]) (n := 4) (Nat.le_of_ble_eq_true rfl)
  rw [lg_entry_eq]
  generalize (lg_sl ([.ref (ad o0), .int a1]) ++ List.replicate (4 - (lg_sl ([.ref (ad o0), .int a1])).length) Slot.unset).toArray = ls at hl ⊢
  have hl : lv_has ls 4 [(0, .ref (ad o0)), (1, .int a1)] := hl
  have hb18 : ∀ (nn : Nat), ∀ (M : Mm) (x0 : Nat) (x1 : Int32) (x3 : Int32), f_X7_load_b18 nn M x0 x1 x3 = some res → ∀ (H : Heap) (locs : List Loc) (ls : Array Slot), Wd D cy shM ad nM (Aw ad nM) s.heap M H locs → lv_has ls 4 [(0, .ref (ad x0)), (1, .int x1), (3, .int x3)] → W p l e (headSpec (wU yX7_load cX7_load 4 (some .int)) rmX7_load).room s m args below meth c H locs 0 0 (QI D cy shM ad nM adK adV below args s res) (F0 m 18 ls []) := by
    intro nn
    induction nn with
    | zero => intro M x0 x1 x3 h; simp [f_X7_load_b18] at h
    | succ nn ih =>
      intro M x0 x1 x3 h H locs ls hw hl
      unfold f_X7_load_b18 at h
      refine lv_iload_n hx hb dX7_load_18 rfl (lv_at hl 2 rfl) ?_
      refine lv_aload_n hx hb dX7_load_19 rfl (lv_at hl 0 rfl) ?_
      replace h := gd_some h
      obtain ⟨g1, h⟩ := h
      replace h := bd_some h
      obtain ⟨q2, eq2, h⟩ := h
      refine r_getR hx hb hts iw7 hown hK hw x0 27 g1 (by decide) rfl (by decide) rfl (hq _ qw915) (fun _ h9 => h9) dX7_load_20 eq2 ?_
      refine lv_iload_n hx hb dX7_load_23 rfl (lv_at hl 1 rfl) ?_
      replace h := gd_some h
      obtain ⟨g3, h⟩ := h
      refine r_iald hx hb hK hw q2 g3 dX7_load_24 ?_
      refine lv_icmp_ge (tgt := 80) hx hb dX7_load_25 (by decide) (fun c4 => ?_) (fun c4 => ?_)
      · replace h := if_some_t c4 h
        refine lv_iload_n hx hb dX7_load_80 rfl (lv_at hl 2 rfl) ?_
        exact r_iret hx hb hr rfl hlocks hZ hK hw h dX7_load_81
      · replace h := if_some_f c4 h
        refine lv_aload_n hx hb dX7_load_28 rfl (lv_at hl 0 rfl) ?_
        replace h := bd_some h
        obtain ⟨r5, er5, h⟩ := h
        refine r_callVi (As := []) (rest := []) hF (c_X7_isOver l D cy ad adK adV M x0 r5 er5) (gW_goodV hcm qw1138 qw1135 qw1137 qw41 qw67) hdX7_isOver rfl ⟨Nat.le_of_ble_eq_true rfl, Nat.le_of_ble_eq_true rfl⟩ rfl rfl hZ hK hw g1 (by decide) rfl rfl hl.1 rfl (Nat.le_of_ble_eq_true rfl) ⟨Nat.zero_le _, Nat.zero_le _⟩ dX7_load_29 (fun H locs hw => ?_)
        refine lv_if_ne (tgt := 80) hx hb dX7_load_32 (by decide) (fun c6 => ?_) (fun c6 => ?_)
        · replace h := if_some_f c6 h
          refine lv_iload_n hx hb dX7_load_80 rfl (lv_at hl 2 rfl) ?_
          exact r_iret hx hb hr rfl hlocks hZ hK hw h dX7_load_81
        · replace h := if_some_t c6 h
          refine lv_aload_n hx hb dX7_load_35 rfl (lv_at hl 0 rfl) ?_
          refine lv_aload_n hx hb dX7_load_36 rfl (lv_at hl 0 rfl) ?_
          replace h := bd_some h
          obtain ⟨q7, eq7, h⟩ := h
          refine r_getR hx hb hts iw7 hown hK hw x0 28 g1 (by decide) rfl (by decide) rfl (hq _ qw916) (fun _ h9 => h9) dX7_load_37 eq7 ?_
          refine lv_bipush (v := (40 : Int32)) hx hb dX7_load_40 (by decide) ?_
          refine lv_iload_n hx hb dX7_load_42 rfl (lv_at hl 1 rfl) ?_
          refine lv_imul hx hb dX7_load_43 ?_
          refine lv_iload_n hx hb dX7_load_44 rfl (lv_at hl 2 rfl) ?_
          refine lv_iadd hx hb dX7_load_45 ?_
          replace h := gd_some h
          obtain ⟨g8, h⟩ := h
          refine r_iald hx hb hK hw q7 g8 dX7_load_46 ?_
          refine lv_aload_n hx hb dX7_load_47 rfl (lv_at hl 0 rfl) ?_
          replace h := bd_some h
          obtain ⟨q9, eq9, h⟩ := h
          refine r_getR hx hb hts iw7 hown hK hw x0 0 g1 (by decide) rfl (by decide) rfl (hq _ qw888) (fun _ h9 => h9) dX7_load_48 eq9 ?_
          refine lv_iconst (v := (2 : Int32)) hx hb dX7_load_51 (by decide) ?_
          replace h := gd_some h
          obtain ⟨g10, h⟩ := h
          refine r_iald hx hb hK hw q9 g10 dX7_load_52 ?_
          replace h := bd_some h
          obtain ⟨r11, er11, h⟩ := h
          refine r_callVi (As := [.int (r5.1.1 q7 (((40 : Int32) * x1) + x3).toNatClampNeg), .int (r5.1.1 q9 (2 : Int32).toNatClampNeg)]) (rest := []) hF (c_X7_plays l D cy ad adK adV r5.1 x0 (r5.1.1 q7 (((40 : Int32) * x1) + x3).toNatClampNeg) (r5.1.1 q9 (2 : Int32).toNatClampNeg) r11 er11) (gW_goodV hcm qw1018 qw1015 qw1017 qw24 qw67) hdX7_plays rfl ⟨Nat.le_of_ble_eq_true rfl, Nat.le_of_ble_eq_true rfl⟩ rfl rfl hZ hK hw g1 (by decide) rfl rfl hl.1 rfl (Nat.le_of_ble_eq_true rfl) ⟨Nat.zero_le _, Nat.zero_le _⟩ dX7_load_53 (fun H locs hw => ?_)
          refine lv_if_eq (tgt := 80) hx hb dX7_load_56 (by decide) (fun c12 => ?_) (fun c12 => ?_)
          · replace h := if_some_t c12 h
            refine lv_iload_n hx hb dX7_load_80 rfl (lv_at hl 2 rfl) ?_
            exact r_iret hx hb hr rfl hlocks hZ hK hw h dX7_load_81
          · replace h := if_some_f c12 h
            refine lv_aload_n hx hb dX7_load_59 rfl (lv_at hl 0 rfl) ?_
            refine lv_aload_n hx hb dX7_load_60 rfl (lv_at hl 0 rfl) ?_
            replace h := bd_some h
            obtain ⟨q13, eq13, h⟩ := h
            refine r_getR hx hb hts iw7 hown hK hw x0 28 g1 (by decide) rfl (by decide) rfl (hq _ qw916) (fun _ h9 => h9) dX7_load_61 eq13 ?_
            refine lv_bipush (v := (40 : Int32)) hx hb dX7_load_64 (by decide) ?_
            refine lv_iload_n hx hb dX7_load_66 rfl (lv_at hl 1 rfl) ?_
            refine lv_imul hx hb dX7_load_67 ?_
            refine lv_iload_n hx hb dX7_load_68 rfl (lv_at hl 2 rfl) ?_
            refine lv_iadd hx hb dX7_load_69 ?_
            replace h := gd_some h
            obtain ⟨g14, h⟩ := h
            refine r_iald hx hb hK hw q13 g14 dX7_load_70 ?_
            replace h := bd_some h
            obtain ⟨r15, er15, h⟩ := h
            refine r_callVv (As := [.int (r11.1.1 q13 (((40 : Int32) * x1) + x3).toNatClampNeg)]) (rest := []) hF (c_X7_winsNow l D cy ad adK adV r11.1 x0 (r11.1.1 q13 (((40 : Int32) * x1) + x3).toNatClampNeg) r15 er15) (gW_goodV hcm qw1162 qw1159 qw1161 qw46 qw67) hdX7_winsNow rfl ⟨Nat.le_of_ble_eq_true rfl, Nat.le_of_ble_eq_true rfl⟩ rfl rfl hZ hK hw g1 (by decide) rfl rfl hl.1 rfl (Nat.le_of_ble_eq_true rfl) ⟨Nat.zero_le _, Nat.zero_le _⟩ dX7_load_71 (fun H locs hw => ?_)
            refine lv_iinc (v := x3 + (1 : Int32)) (lv' := [(3, .int (x3 + (1 : Int32))), (0, .ref (ad x0)), (1, .int x1)]) hx hb dX7_load_74 hl (k := 2) rfl (congrArg (fun z => x3 + z) (by decide)) (by decide) rfl (fun ls hl => ?_)
            refine lv_goto (tgt := 18) hx hb dX7_load_77 (by decide) ?_
            exact ih _ _ _ _ h _ _ _ hw (lv_sub hl [1, 2, 0] rfl)
  unfold f_X7_load at h
  refine lv_aload_n hx hb dX7_load_0 rfl (lv_at hl 0 rfl) ?_
  refine lv_iload_n hx hb dX7_load_1 rfl (lv_at hl 1 rfl) ?_
  replace h := gd_some h
  obtain ⟨g17, h⟩ := h
  replace h := bd_some h
  obtain ⟨r16, er16, h⟩ := h
  refine r_callVi (As := [.int a1]) (rest := []) hF (c_X7_lacks l D cy ad adK adV M o0 a1 r16 er16) (gW_goodV hcm qw1328 qw1325 qw1327 qw58 qw67) hdX7_lacks rfl ⟨Nat.le_of_ble_eq_true rfl, Nat.le_of_ble_eq_true rfl⟩ rfl rfl hZ hK hw g17 (by decide) rfl rfl hl.1 rfl (Nat.le_of_ble_eq_true rfl) ⟨Nat.zero_le _, Nat.zero_le _⟩ dX7_load_2 (fun H locs hw => ?_)
  refine lv_istore_n (lv' := [(2, .int r16.2), (0, .ref (ad o0)), (1, .int a1)]) hx hb dX7_load_5 rfl hl (by decide) rfl (fun ls hl => ?_)
  refine lv_iload_n hx hb dX7_load_6 rfl (lv_at hl 0 rfl) ?_
  refine lv_if_lt (tgt := 16) hx hb dX7_load_7 (by decide) (fun c18 => ?_) (fun c18 => ?_)
  · replace h := if_some_t c18 h
    refine lv_iconst (v := (0 : Int32)) hx hb dX7_load_16 (by decide) ?_
    refine lv_istore_n (lv' := [(3, .int (0 : Int32)), (2, .int r16.2), (0, .ref (ad o0)), (1, .int a1)]) hx hb dX7_load_17 rfl hl (by decide) rfl (fun ls hl => ?_)
    exact hb18 1000 _ _ _ _ h _ _ _ hw (lv_sub hl [2, 3, 0] rfl)
  · replace h := if_some_f c18 h
    refine lv_aload_n hx hb dX7_load_10 rfl (lv_at hl 1 rfl) ?_
    refine lv_iload_n hx hb dX7_load_11 rfl (lv_at hl 0 rfl) ?_
    replace h := bd_some h
    obtain ⟨r19, er19, h⟩ := h
    refine r_callVi (As := [.int r16.2]) (rest := []) hF (c_X7_finding l D cy ad adK adV r16.1 o0 r16.2 r19 er19) (gW_goodV hcm qw989 qw986 qw988 qw18 qw67) hdX7_finding rfl ⟨Nat.le_of_ble_eq_true rfl, Nat.le_of_ble_eq_true rfl⟩ rfl rfl hZ hK hw g17 (by decide) rfl rfl hl.1 rfl (Nat.le_of_ble_eq_true rfl) ⟨Nat.zero_le _, Nat.zero_le _⟩ dX7_load_12 (fun H locs hw => ?_)
    exact r_iret hx hb hr rfl hlocks hZ hK hw h dX7_load_15
theorem dX7_judge_0 : decode cX7_judge 0 = .ok (.aload_n 0, 1) := by decide +kernel
theorem dX7_judge_1 : decode cX7_judge 1 = .ok (.iload_n 1, 1) := by decide +kernel
theorem dX7_judge_2 : decode cX7_judge 2 = .ok (.invokevirtual 290, 3) := by decide +kernel
theorem dX7_judge_5 : decode cX7_judge 5 = .ok (.istore_n 2, 1) := by decide +kernel
theorem dX7_judge_6 : decode cX7_judge 6 = .ok (.iload_n 2, 1) := by decide +kernel
theorem dX7_judge_7 : decode cX7_judge 7 = .ok (.ifCond .lt 9, 3) := by decide +kernel
theorem dX7_judge_10 : decode cX7_judge 10 = .ok (.aload_n 0, 1) := by decide +kernel
theorem dX7_judge_11 : decode cX7_judge 11 = .ok (.iload_n 2, 1) := by decide +kernel
theorem dX7_judge_12 : decode cX7_judge 12 = .ok (.invokevirtual 115, 3) := by decide +kernel
theorem dX7_judge_15 : decode cX7_judge 15 = .ok (.ireturn, 1) := by decide +kernel
theorem dX7_judge_16 : decode cX7_judge 16 = .ok (.aload_n 0, 1) := by decide +kernel
theorem dX7_judge_17 : decode cX7_judge 17 = .ok (.getfield 7, 3) := by decide +kernel
theorem dX7_judge_20 : decode cX7_judge 20 = .ok (.aload_n 0, 1) := by decide +kernel
theorem dX7_judge_21 : decode cX7_judge 21 = .ok (.getfield 16, 3) := by decide +kernel
theorem dX7_judge_24 : decode cX7_judge 24 = .ok (.invokestatic 220, 3) := by decide +kernel
theorem dX7_judge_27 : decode cX7_judge 27 = .ok (.iconst 0, 1) := by decide +kernel
theorem dX7_judge_28 : decode cX7_judge 28 = .ok (.istore_n 3, 1) := by decide +kernel
theorem dX7_judge_29 : decode cX7_judge 29 = .ok (.iconst 1, 1) := by decide +kernel
theorem dX7_judge_30 : decode cX7_judge 30 = .ok (.istore 4, 2) := by decide +kernel
theorem dX7_judge_32 : decode cX7_judge 32 = .ok (.iload_n 3, 1) := by decide +kernel
theorem dX7_judge_33 : decode cX7_judge 33 = .ok (.aload_n 0, 1) := by decide +kernel
theorem dX7_judge_34 : decode cX7_judge 34 = .ok (.getfield 57, 3) := by decide +kernel
theorem dX7_judge_37 : decode cX7_judge 37 = .ok (.iload_n 1, 1) := by decide +kernel
theorem dX7_judge_38 : decode cX7_judge 38 = .ok (.iaload, 1) := by decide +kernel
theorem dX7_judge_39 : decode cX7_judge 39 = .ok (.if_icmp .ge 111, 3) := by decide +kernel
theorem dX7_judge_42 : decode cX7_judge 42 = .ok (.iload 4, 2) := by decide +kernel
theorem dX7_judge_44 : decode cX7_judge 44 = .ok (.ifCond .eq 106, 3) := by decide +kernel
theorem dX7_judge_47 : decode cX7_judge 47 = .ok (.aload_n 0, 1) := by decide +kernel
theorem dX7_judge_48 : decode cX7_judge 48 = .ok (.getfield 60, 3) := by decide +kernel
theorem dX7_judge_51 : decode cX7_judge 51 = .ok (.bipush 40, 2) := by decide +kernel
theorem dX7_judge_53 : decode cX7_judge 53 = .ok (.iload_n 1, 1) := by decide +kernel
theorem dX7_judge_54 : decode cX7_judge 54 = .ok (.imul, 1) := by decide +kernel
theorem dX7_judge_55 : decode cX7_judge 55 = .ok (.iload_n 3, 1) := by decide +kernel
theorem dX7_judge_56 : decode cX7_judge 56 = .ok (.iadd, 1) := by decide +kernel
theorem dX7_judge_57 : decode cX7_judge 57 = .ok (.iaload, 1) := by decide +kernel
theorem dX7_judge_58 : decode cX7_judge 58 = .ok (.istore 5, 2) := by decide +kernel
theorem dX7_judge_60 : decode cX7_judge 60 = .ok (.iload_n 3, 1) := by decide +kernel
theorem dX7_judge_61 : decode cX7_judge 61 = .ok (.iconst 2, 1) := by decide +kernel
theorem dX7_judge_62 : decode cX7_judge 62 = .ok (.irem, 1) := by decide +kernel
theorem dX7_judge_63 : decode cX7_judge 63 = .ok (.ifCond .ne 46, 3) := by decide +kernel
theorem dX7_judge_66 : decode cX7_judge 66 = .ok (.aload_n 0, 1) := by decide +kernel
theorem dX7_judge_67 : decode cX7_judge 67 = .ok (.invokevirtual 227, 3) := by decide +kernel
theorem dX7_judge_70 : decode cX7_judge 70 = .ok (.ifCond .ne 22, 3) := by decide +kernel
theorem dX7_judge_73 : decode cX7_judge 73 = .ok (.aload_n 0, 1) := by decide +kernel
theorem dX7_judge_74 : decode cX7_judge 74 = .ok (.iload 5, 2) := by decide +kernel
theorem dX7_judge_76 : decode cX7_judge 76 = .ok (.aload_n 0, 1) := by decide +kernel
theorem dX7_judge_77 : decode cX7_judge 77 = .ok (.getfield 7, 3) := by decide +kernel
theorem dX7_judge_80 : decode cX7_judge 80 = .ok (.iconst 2, 1) := by decide +kernel
theorem dX7_judge_81 : decode cX7_judge 81 = .ok (.iaload, 1) := by decide +kernel
theorem dX7_judge_82 : decode cX7_judge 82 = .ok (.invokevirtual 75, 3) := by decide +kernel
theorem dX7_judge_85 : decode cX7_judge 85 = .ok (.ifCond .eq 7, 3) := by decide +kernel
theorem dX7_judge_88 : decode cX7_judge 88 = .ok (.iconst 1, 1) := by decide +kernel
theorem dX7_judge_89 : decode cX7_judge 89 = .ok (.goto 4, 3) := by decide +kernel
theorem dX7_judge_92 : decode cX7_judge 92 = .ok (.iconst 0, 1) := by decide +kernel
theorem dX7_judge_93 : decode cX7_judge 93 = .ok (.istore 4, 2) := by decide +kernel
theorem dX7_judge_95 : decode cX7_judge 95 = .ok (.iload 4, 2) := by decide +kernel
theorem dX7_judge_97 : decode cX7_judge 97 = .ok (.ifCond .eq 37, 3) := by decide +kernel
theorem dX7_judge_100 : decode cX7_judge 100 = .ok (.aload_n 0, 1) := by decide +kernel
theorem dX7_judge_101 : decode cX7_judge 101 = .ok (.iload 5, 2) := by decide +kernel
theorem dX7_judge_103 : decode cX7_judge 103 = .ok (.invokevirtual 234, 3) := by decide +kernel
theorem dX7_judge_106 : decode cX7_judge 106 = .ok (.goto 28, 3) := by decide +kernel
theorem dX7_judge_109 : decode cX7_judge 109 = .ok (.iload 5, 2) := by decide +kernel
theorem dX7_judge_111 : decode cX7_judge 111 = .ok (.aload_n 0, 1) := by decide +kernel
theorem dX7_judge_112 : decode cX7_judge 112 = .ok (.aload_n 0, 1) := by decide +kernel
theorem dX7_judge_113 : decode cX7_judge 113 = .ok (.getfield 7, 3) := by decide +kernel
theorem dX7_judge_116 : decode cX7_judge 116 = .ok (.iconst 2, 1) := by decide +kernel
theorem dX7_judge_117 : decode cX7_judge 117 = .ok (.iaload, 1) := by decide +kernel
theorem dX7_judge_118 : decode cX7_judge 118 = .ok (.iconst 1, 1) := by decide +kernel
theorem dX7_judge_119 : decode cX7_judge 119 = .ok (.isub, 1) := by decide +kernel
theorem dX7_judge_120 : decode cX7_judge 120 = .ok (.iconst 4, 1) := by decide +kernel
theorem dX7_judge_121 : decode cX7_judge 121 = .ok (.invokevirtual 71, 3) := by decide +kernel
theorem dX7_judge_124 : decode cX7_judge 124 = .ok (.if_icmp .ne 7, 3) := by decide +kernel
theorem dX7_judge_127 : decode cX7_judge 127 = .ok (.iconst 1, 1) := by decide +kernel
theorem dX7_judge_128 : decode cX7_judge 128 = .ok (.goto 4, 3) := by decide +kernel
theorem dX7_judge_131 : decode cX7_judge 131 = .ok (.iconst 0, 1) := by decide +kernel
theorem dX7_judge_132 : decode cX7_judge 132 = .ok (.istore 4, 2) := by decide +kernel
theorem dX7_judge_134 : decode cX7_judge 134 = .ok (.iload_n 3, 1) := by decide +kernel
theorem dX7_judge_135 : decode cX7_judge 135 = .ok (.iload 4, 2) := by decide +kernel
theorem dX7_judge_137 : decode cX7_judge 137 = .ok (.ifCond .eq 7, 3) := by decide +kernel
theorem dX7_judge_140 : decode cX7_judge 140 = .ok (.iconst 1, 1) := by decide +kernel
theorem dX7_judge_141 : decode cX7_judge 141 = .ok (.goto 4, 3) := by decide +kernel
theorem dX7_judge_144 : decode cX7_judge 144 = .ok (.iconst 0, 1) := by decide +kernel
theorem dX7_judge_145 : decode cX7_judge 145 = .ok (.iadd, 1) := by decide +kernel
theorem dX7_judge_146 : decode cX7_judge 146 = .ok (.istore_n 3, 1) := by decide +kernel
theorem dX7_judge_147 : decode cX7_judge 147 = .ok (.goto (-115), 3) := by decide +kernel
theorem dX7_judge_150 : decode cX7_judge 150 = .ok (.aload_n 0, 1) := by decide +kernel
theorem dX7_judge_151 : decode cX7_judge 151 = .ok (.getfield 16, 3) := by decide +kernel
theorem dX7_judge_154 : decode cX7_judge 154 = .ok (.aload_n 0, 1) := by decide +kernel
theorem dX7_judge_155 : decode cX7_judge 155 = .ok (.getfield 7, 3) := by decide +kernel
theorem dX7_judge_158 : decode cX7_judge 158 = .ok (.invokestatic 220, 3) := by decide +kernel
theorem dX7_judge_161 : decode cX7_judge 161 = .ok (.iload 4, 2) := by decide +kernel
theorem dX7_judge_163 : decode cX7_judge 163 = .ok (.ifCond .eq 13, 3) := by decide +kernel
theorem dX7_judge_166 : decode cX7_judge 166 = .ok (.iload_n 3, 1) := by decide +kernel
theorem dX7_judge_167 : decode cX7_judge 167 = .ok (.iconst 2, 1) := by decide +kernel
theorem dX7_judge_168 : decode cX7_judge 168 = .ok (.irem, 1) := by decide +kernel
theorem dX7_judge_169 : decode cX7_judge 169 = .ok (.ifCond .ne 7, 3) := by decide +kernel
theorem dX7_judge_172 : decode cX7_judge 172 = .ok (.iconst 0, 1) := by decide +kernel
theorem dX7_judge_173 : decode cX7_judge 173 = .ok (.goto 6, 3) := by decide +kernel
theorem dX7_judge_176 : decode cX7_judge 176 = .ok (.iconst 1, 1) := by decide +kernel
theorem dX7_judge_177 : decode cX7_judge 177 = .ok (.iload_n 3, 1) := by decide +kernel
theorem dX7_judge_178 : decode cX7_judge 178 = .ok (.iadd, 1) := by decide +kernel
theorem dX7_judge_179 : decode cX7_judge 179 = .ok (.ireturn, 1) := by decide +kernel
set_option maxHeartbeats 4000000 in
set_option maxRecDepth 100000 in
theorem c_X7_judge (l : Launch) (D : va_G) (cy : Nat → ClassId) (ad adK adV : Nat → Nat) (M : Mm) (o0 : Nat) (a1 : Int32) (res : Mm × Int32) (h : f_X7_judge M o0 a1 = some res) : Met l yX7_judge (wU yX7_judge cX7_judge 6 (some .int)) rmX7_judge (va_Pc [.ref (ad o0), .int a1] (Pre D cy shM ad nM adK adV M)) (va_Qi (fun r (M2 : Mm) => r = res.2 ∧ M2 = res.1) (Pre D cy shM ad nM adK adV) (Aw ad nM)) 0 0 (Aw ad nM) := by
  refine Met.ofW (cc := cX7_judge) (maxL := 6) (ret := (some .int)) (by decide) rfl ?_
  intro p e s m args below meth c s₁ B hml hv
  obtain ⟨hargs, hPre⟩ := hv
  have hx := B.exec
  have hb := B.bytes
  have hr := B.returns
  have hts := atoms_spec (ws := wU yX7_judge cX7_judge 6 (some .int)) B.pre
  have hq : ∀ w ∈ gW, w.before args s = true := fun w hw => hts w (List.mem_cons_of_mem _ hw)
  have hcm : ∀ w ∈ gW, w ∈ wU yX7_judge cX7_judge 6 (some .int) := fun w hw => List.mem_cons_of_mem _ hw
  have hown : s.vm.findClass RX7 = some m.cls := findClass_of_methodNamed B.named
  have hlocks := B.notSynchronized
  have hF : CallFix p m c cX7_judge 6 s args (wU yX7_judge cX7_judge 6 (some .int)) RX7 := ⟨hx, hb, hml, hown, hts⟩
  have hK := hPre.2.1
  have hZ := hPre.2.2.2
  have hw : Wd D cy shM ad nM (Aw ad nM) s.heap M s.heap [] := ⟨hPre.1, hPre.2.2.1, va_S.rf⟩
  have iw7 : ∀ w ∈ u_ws RX7 TX7 30, w ∈ wU yX7_judge cX7_judge 6 (some .int) := fun w hw => List.mem_cons_of_mem _ (iX7 w hw)
  rw [show entryFrame m args 6 = entryFrame m ([.ref (ad o0), .int a1] : List Value).toArray 6 from by rw [hargs]]
  have hl := lv_entry ([.ref (ad o0), .int a1]) (n := 6) (Nat.le_of_ble_eq_true rfl)
  rw [lg_entry_eq]
  generalize (lg_sl ([.ref (ad o0), .int a1]) ++ List.replicate (6 - (lg_sl ([.ref (ad o0), .int a1])).length) Slot.unset).toArray = ls at hl ⊢
  have hl : lv_has ls 6 [(0, .ref (ad o0)), (1, .int a1)] := hl
  have hb176 : ∀ (M : Mm) (x3 : Int32), f_X7_judge_b176 M x3 = some res → ∀ (H : Heap) (locs : List Loc) (ls : Array Slot), Wd D cy shM ad nM (Aw ad nM) s.heap M H locs → lv_has ls 6 [(3, .int x3)] → W p l e (headSpec (wU yX7_judge cX7_judge 6 (some .int)) rmX7_judge).room s m args below meth c H locs 0 0 (QI D cy shM ad nM adK adV below args s res) (F0 m 176 ls []) := by
    intro M x3 h H locs ls hw hl
    unfold f_X7_judge_b176 at h
    refine lv_iconst (v := (1 : Int32)) hx hb dX7_judge_176 (by decide) ?_
    refine lv_iload_n hx hb dX7_judge_177 rfl (lv_at hl 0 rfl) ?_
    refine lv_iadd hx hb dX7_judge_178 ?_
    exact r_iret hx hb hr rfl hlocks hZ hK hw h dX7_judge_179
  have hb150 : ∀ (M : Mm) (x0 : Nat) (x3 : Int32) (x4 : Int32), f_X7_judge_b150 M x0 x3 x4 = some res → ∀ (H : Heap) (locs : List Loc) (ls : Array Slot), Wd D cy shM ad nM (Aw ad nM) s.heap M H locs → lv_has ls 6 [(0, .ref (ad x0)), (3, .int x3), (4, .int x4)] → W p l e (headSpec (wU yX7_judge cX7_judge 6 (some .int)) rmX7_judge).room s m args below meth c H locs 0 0 (QI D cy shM ad nM adK adV below args s res) (F0 m 150 ls []) := by
    intro M x0 x3 x4 h H locs ls hw hl
    unfold f_X7_judge_b150 at h
    refine lv_aload_n hx hb dX7_judge_150 rfl (lv_at hl 0 rfl) ?_
    replace h := gd_some h
    obtain ⟨g1, h⟩ := h
    replace h := bd_some h
    obtain ⟨q2, eq2, h⟩ := h
    refine r_getR hx hb hts iw7 hown hK hw x0 2 g1 (by decide) rfl (by decide) rfl (hq _ qw890) (fun _ h9 => h9) dX7_judge_151 eq2 ?_
    refine lv_aload_n hx hb dX7_judge_154 rfl (lv_at hl 0 rfl) ?_
    replace h := bd_some h
    obtain ⟨q3, eq3, h⟩ := h
    refine r_getR hx hb hts iw7 hown hK hw x0 0 g1 (by decide) rfl (by decide) rfl (hq _ qw888) (fun _ h9 => h9) dX7_judge_155 eq3 ?_
    replace h := bd_some h
    obtain ⟨r4, er4, h⟩ := h
    refine r_callSv (As := [.ref (ad q2), .ref (ad q3)]) (rest := []) hF (c_X7_carry l D cy ad adK adV M q2 q3 r4 er4) (gW_goodS hcm qw1077 qw1075 qw1076 qw67) hdX7_carry ⟨Nat.le_of_ble_eq_true rfl, Nat.le_of_ble_eq_true rfl⟩ rfl rfl hZ hK hw rfl hl.1 rfl (Nat.le_of_ble_eq_true rfl) ⟨Nat.zero_le _, Nat.zero_le _⟩ dX7_judge_158 (fun H locs hw => ?_)
    refine lv_iload hx hb dX7_judge_161 (lv_at hl 2 rfl) ?_
    refine lv_if_eq (tgt := 176) hx hb dX7_judge_163 (by decide) (fun c5 => ?_) (fun c5 => ?_)
    · replace h := if_some_t c5 h
      exact hb176 _ _ h _ _ _ hw (lv_sub hl [1] rfl)
    · replace h := if_some_f c5 h
      refine lv_iload_n hx hb dX7_judge_166 rfl (lv_at hl 1 rfl) ?_
      refine lv_iconst (v := (2 : Int32)) hx hb dX7_judge_167 (by decide) ?_
      refine lv_irem hx hb dX7_judge_168 (by decide) ?_
      refine lv_if_ne (tgt := 176) hx hb dX7_judge_169 (by decide) (fun c6 => ?_) (fun c6 => ?_)
      · replace h := if_some_f c6 h
        exact hb176 _ _ h _ _ _ hw (lv_sub hl [1] rfl)
      · replace h := if_some_t c6 h
        refine lv_iconst (v := (0 : Int32)) hx hb dX7_judge_172 (by decide) ?_
        refine lv_goto (tgt := 179) hx hb dX7_judge_173 (by decide) ?_
        exact r_iret hx hb hr rfl hlocks hZ hK hw h dX7_judge_179
  have hb145 : ∀ (k32 : Mm → Nat → Int32 → Int32 → Int32 → Option (Mm × Int32)) (hk32 : ∀ (M : Mm) (x0 : Nat) (x1 : Int32) (x3 : Int32) (x4 : Int32), k32 M x0 x1 x3 x4 = some res → ∀ (H : Heap) (locs : List Loc) (ls : Array Slot), Wd D cy shM ad nM (Aw ad nM) s.heap M H locs → lv_has ls 6 [(0, .ref (ad x0)), (1, .int x1), (3, .int x3), (4, .int x4)] → W p l e (headSpec (wU yX7_judge cX7_judge 6 (some .int)) rmX7_judge).room s m args below meth c H locs 0 0 (QI D cy shM ad nM adK adV below args s res) (F0 m 32 ls [])), ∀ (M : Mm) (x0 : Nat) (x1 : Int32) (x4 : Int32) (t0 : Int32) (t1 : Int32), f_X7_judge_b145 k32 M x0 x1 x4 t0 t1 = some res → ∀ (H : Heap) (locs : List Loc) (ls : Array Slot), Wd D cy shM ad nM (Aw ad nM) s.heap M H locs → lv_has ls 6 [(0, .ref (ad x0)), (1, .int x1), (4, .int x4)] → W p l e (headSpec (wU yX7_judge cX7_judge 6 (some .int)) rmX7_judge).room s m args below meth c H locs 0 0 (QI D cy shM ad nM adK adV below args s res) (F0 m 145 ls [.int t1, .int t0]) := by
    intro k32 hk32
    intro M x0 x1 x4 t0 t1 h H locs ls hw hl
    unfold f_X7_judge_b145 at h
    refine lv_iadd hx hb dX7_judge_145 ?_
    refine lv_istore_n (lv' := [(3, .int (t0 + t1)), (0, .ref (ad x0)), (1, .int x1), (4, .int x4)]) hx hb dX7_judge_146 rfl hl (by decide) rfl (fun ls hl => ?_)
    refine lv_goto (tgt := 32) hx hb dX7_judge_147 (by decide) ?_
    exact hk32 _ _ _ _ _ h _ _ _ hw (lv_sub hl [1, 2, 0, 3] rfl)
  have hb134 : ∀ (k32 : Mm → Nat → Int32 → Int32 → Int32 → Option (Mm × Int32)) (hk32 : ∀ (M : Mm) (x0 : Nat) (x1 : Int32) (x3 : Int32) (x4 : Int32), k32 M x0 x1 x3 x4 = some res → ∀ (H : Heap) (locs : List Loc) (ls : Array Slot), Wd D cy shM ad nM (Aw ad nM) s.heap M H locs → lv_has ls 6 [(0, .ref (ad x0)), (1, .int x1), (3, .int x3), (4, .int x4)] → W p l e (headSpec (wU yX7_judge cX7_judge 6 (some .int)) rmX7_judge).room s m args below meth c H locs 0 0 (QI D cy shM ad nM adK adV below args s res) (F0 m 32 ls [])), ∀ (M : Mm) (x0 : Nat) (x1 : Int32) (x3 : Int32) (x4 : Int32), f_X7_judge_b134 k32 M x0 x1 x3 x4 = some res → ∀ (H : Heap) (locs : List Loc) (ls : Array Slot), Wd D cy shM ad nM (Aw ad nM) s.heap M H locs → lv_has ls 6 [(0, .ref (ad x0)), (1, .int x1), (3, .int x3), (4, .int x4)] → W p l e (headSpec (wU yX7_judge cX7_judge 6 (some .int)) rmX7_judge).room s m args below meth c H locs 0 0 (QI D cy shM ad nM adK adV below args s res) (F0 m 134 ls []) := by
    intro k32 hk32
    intro M x0 x1 x3 x4 h H locs ls hw hl
    unfold f_X7_judge_b134 at h
    refine lv_iload_n hx hb dX7_judge_134 rfl (lv_at hl 2 rfl) ?_
    refine lv_iload hx hb dX7_judge_135 (lv_at hl 3 rfl) ?_
    refine lv_if_eq (tgt := 144) hx hb dX7_judge_137 (by decide) (fun c7 => ?_) (fun c7 => ?_)
    · replace h := if_some_t c7 h
      refine lv_iconst (v := (0 : Int32)) hx hb dX7_judge_144 (by decide) ?_
      exact hb145 _ hk32 _ _ _ _ _ _ h _ _ _ hw (lv_sub hl [0, 1, 3] rfl)
    · replace h := if_some_f c7 h
      refine lv_iconst (v := (1 : Int32)) hx hb dX7_judge_140 (by decide) ?_
      refine lv_goto (tgt := 145) hx hb dX7_judge_141 (by decide) ?_
      exact hb145 _ hk32 _ _ _ _ _ _ h _ _ _ hw (lv_sub hl [0, 1, 3] rfl)
  have hb132 : ∀ (k32 : Mm → Nat → Int32 → Int32 → Int32 → Option (Mm × Int32)) (hk32 : ∀ (M : Mm) (x0 : Nat) (x1 : Int32) (x3 : Int32) (x4 : Int32), k32 M x0 x1 x3 x4 = some res → ∀ (H : Heap) (locs : List Loc) (ls : Array Slot), Wd D cy shM ad nM (Aw ad nM) s.heap M H locs → lv_has ls 6 [(0, .ref (ad x0)), (1, .int x1), (3, .int x3), (4, .int x4)] → W p l e (headSpec (wU yX7_judge cX7_judge 6 (some .int)) rmX7_judge).room s m args below meth c H locs 0 0 (QI D cy shM ad nM adK adV below args s res) (F0 m 32 ls [])), ∀ (M : Mm) (x0 : Nat) (x1 : Int32) (x3 : Int32) (t0 : Int32), f_X7_judge_b132 k32 M x0 x1 x3 t0 = some res → ∀ (H : Heap) (locs : List Loc) (ls : Array Slot), Wd D cy shM ad nM (Aw ad nM) s.heap M H locs → lv_has ls 6 [(0, .ref (ad x0)), (1, .int x1), (3, .int x3)] → W p l e (headSpec (wU yX7_judge cX7_judge 6 (some .int)) rmX7_judge).room s m args below meth c H locs 0 0 (QI D cy shM ad nM adK adV below args s res) (F0 m 132 ls [.int t0]) := by
    intro k32 hk32
    intro M x0 x1 x3 t0 h H locs ls hw hl
    unfold f_X7_judge_b132 at h
    refine lv_istore (lv' := [(4, .int t0), (0, .ref (ad x0)), (1, .int x1), (3, .int x3)]) hx hb dX7_judge_132 hl (by decide) rfl (fun ls hl => ?_)
    exact hb134 _ hk32 _ _ _ _ _ h _ _ _ hw (lv_sub hl [1, 2, 3, 0] rfl)
  have hb93 : ∀ (k32 : Mm → Nat → Int32 → Int32 → Int32 → Option (Mm × Int32)) (hk32 : ∀ (M : Mm) (x0 : Nat) (x1 : Int32) (x3 : Int32) (x4 : Int32), k32 M x0 x1 x3 x4 = some res → ∀ (H : Heap) (locs : List Loc) (ls : Array Slot), Wd D cy shM ad nM (Aw ad nM) s.heap M H locs → lv_has ls 6 [(0, .ref (ad x0)), (1, .int x1), (3, .int x3), (4, .int x4)] → W p l e (headSpec (wU yX7_judge cX7_judge 6 (some .int)) rmX7_judge).room s m args below meth c H locs 0 0 (QI D cy shM ad nM adK adV below args s res) (F0 m 32 ls [])), ∀ (M : Mm) (x0 : Nat) (x1 : Int32) (x3 : Int32) (x5 : Int32) (t0 : Int32), f_X7_judge_b93 k32 M x0 x1 x3 x5 t0 = some res → ∀ (H : Heap) (locs : List Loc) (ls : Array Slot), Wd D cy shM ad nM (Aw ad nM) s.heap M H locs → lv_has ls 6 [(0, .ref (ad x0)), (1, .int x1), (3, .int x3), (5, .int x5)] → W p l e (headSpec (wU yX7_judge cX7_judge 6 (some .int)) rmX7_judge).room s m args below meth c H locs 0 0 (QI D cy shM ad nM adK adV below args s res) (F0 m 93 ls [.int t0]) := by
    intro k32 hk32
    intro M x0 x1 x3 x5 t0 h H locs ls hw hl
    unfold f_X7_judge_b93 at h
    refine lv_istore (lv' := [(4, .int t0), (0, .ref (ad x0)), (1, .int x1), (3, .int x3), (5, .int x5)]) hx hb dX7_judge_93 hl (by decide) rfl (fun ls hl => ?_)
    refine lv_iload hx hb dX7_judge_95 (lv_at hl 0 rfl) ?_
    refine lv_if_eq (tgt := 134) hx hb dX7_judge_97 (by decide) (fun c8 => ?_) (fun c8 => ?_)
    · replace h := if_some_t c8 h
      exact hb134 _ hk32 _ _ _ _ _ h _ _ _ hw (lv_sub hl [1, 2, 3, 0] rfl)
    · replace h := if_some_f c8 h
      refine lv_aload_n hx hb dX7_judge_100 rfl (lv_at hl 1 rfl) ?_
      refine lv_iload hx hb dX7_judge_101 (lv_at hl 4 rfl) ?_
      replace h := gd_some h
      obtain ⟨g10, h⟩ := h
      replace h := bd_some h
      obtain ⟨r9, er9, h⟩ := h
      refine r_callVv (As := [.int x5]) (rest := []) hF (c_X7_winsNow l D cy ad adK adV M x0 x5 r9 er9) (gW_goodV hcm qw1162 qw1159 qw1161 qw46 qw67) hdX7_winsNow rfl ⟨Nat.le_of_ble_eq_true rfl, Nat.le_of_ble_eq_true rfl⟩ rfl rfl hZ hK hw g10 (by decide) rfl rfl hl.1 rfl (Nat.le_of_ble_eq_true rfl) ⟨Nat.zero_le _, Nat.zero_le _⟩ dX7_judge_103 (fun H locs hw => ?_)
      refine lv_goto (tgt := 134) hx hb dX7_judge_106 (by decide) ?_
      exact hb134 _ hk32 _ _ _ _ _ h _ _ _ hw (lv_sub hl [1, 2, 3, 0] rfl)
  have hb92 : ∀ (k32 : Mm → Nat → Int32 → Int32 → Int32 → Option (Mm × Int32)) (hk32 : ∀ (M : Mm) (x0 : Nat) (x1 : Int32) (x3 : Int32) (x4 : Int32), k32 M x0 x1 x3 x4 = some res → ∀ (H : Heap) (locs : List Loc) (ls : Array Slot), Wd D cy shM ad nM (Aw ad nM) s.heap M H locs → lv_has ls 6 [(0, .ref (ad x0)), (1, .int x1), (3, .int x3), (4, .int x4)] → W p l e (headSpec (wU yX7_judge cX7_judge 6 (some .int)) rmX7_judge).room s m args below meth c H locs 0 0 (QI D cy shM ad nM adK adV below args s res) (F0 m 32 ls [])), ∀ (M : Mm) (x0 : Nat) (x1 : Int32) (x3 : Int32) (x5 : Int32), f_X7_judge_b92 k32 M x0 x1 x3 x5 = some res → ∀ (H : Heap) (locs : List Loc) (ls : Array Slot), Wd D cy shM ad nM (Aw ad nM) s.heap M H locs → lv_has ls 6 [(0, .ref (ad x0)), (1, .int x1), (3, .int x3), (5, .int x5)] → W p l e (headSpec (wU yX7_judge cX7_judge 6 (some .int)) rmX7_judge).room s m args below meth c H locs 0 0 (QI D cy shM ad nM adK adV below args s res) (F0 m 92 ls []) := by
    intro k32 hk32
    intro M x0 x1 x3 x5 h H locs ls hw hl
    unfold f_X7_judge_b92 at h
    refine lv_iconst (v := (0 : Int32)) hx hb dX7_judge_92 (by decide) ?_
    exact hb93 _ hk32 _ _ _ _ _ _ h _ _ _ hw (lv_sub hl [0, 1, 2, 3] rfl)
  have hb32 : ∀ (nn : Nat), ∀ (M : Mm) (x0 : Nat) (x1 : Int32) (x3 : Int32) (x4 : Int32), f_X7_judge_b32 nn M x0 x1 x3 x4 = some res → ∀ (H : Heap) (locs : List Loc) (ls : Array Slot), Wd D cy shM ad nM (Aw ad nM) s.heap M H locs → lv_has ls 6 [(0, .ref (ad x0)), (1, .int x1), (3, .int x3), (4, .int x4)] → W p l e (headSpec (wU yX7_judge cX7_judge 6 (some .int)) rmX7_judge).room s m args below meth c H locs 0 0 (QI D cy shM ad nM adK adV below args s res) (F0 m 32 ls []) := by
    intro nn
    induction nn with
    | zero => intro M x0 x1 x3 x4 h; simp [f_X7_judge_b32] at h
    | succ nn ih =>
      intro M x0 x1 x3 x4 h H locs ls hw hl
      unfold f_X7_judge_b32 at h
      refine lv_iload_n hx hb dX7_judge_32 rfl (lv_at hl 2 rfl) ?_
      refine lv_aload_n hx hb dX7_judge_33 rfl (lv_at hl 0 rfl) ?_
      replace h := gd_some h
      obtain ⟨g11, h⟩ := h
      replace h := bd_some h
      obtain ⟨q12, eq12, h⟩ := h
      refine r_getR hx hb hts iw7 hown hK hw x0 27 g11 (by decide) rfl (by decide) rfl (hq _ qw915) (fun _ h9 => h9) dX7_judge_34 eq12 ?_
      refine lv_iload_n hx hb dX7_judge_37 rfl (lv_at hl 1 rfl) ?_
      replace h := gd_some h
      obtain ⟨g13, h⟩ := h
      refine r_iald hx hb hK hw q12 g13 dX7_judge_38 ?_
      refine lv_icmp_ge (tgt := 150) hx hb dX7_judge_39 (by decide) (fun c14 => ?_) (fun c14 => ?_)
      · replace h := if_some_t c14 h
        exact hb150 _ _ _ _ h _ _ _ hw (lv_sub hl [0, 2, 3] rfl)
      · replace h := if_some_f c14 h
        refine lv_iload hx hb dX7_judge_42 (lv_at hl 3 rfl) ?_
        refine lv_if_eq (tgt := 150) hx hb dX7_judge_44 (by decide) (fun c15 => ?_) (fun c15 => ?_)
        · replace h := if_some_t c15 h
          exact hb150 _ _ _ _ h _ _ _ hw (lv_sub hl [0, 2, 3] rfl)
        · replace h := if_some_f c15 h
          refine lv_aload_n hx hb dX7_judge_47 rfl (lv_at hl 0 rfl) ?_
          replace h := bd_some h
          obtain ⟨q16, eq16, h⟩ := h
          refine r_getR hx hb hts iw7 hown hK hw x0 28 g11 (by decide) rfl (by decide) rfl (hq _ qw916) (fun _ h9 => h9) dX7_judge_48 eq16 ?_
          refine lv_bipush (v := (40 : Int32)) hx hb dX7_judge_51 (by decide) ?_
          refine lv_iload_n hx hb dX7_judge_53 rfl (lv_at hl 1 rfl) ?_
          refine lv_imul hx hb dX7_judge_54 ?_
          refine lv_iload_n hx hb dX7_judge_55 rfl (lv_at hl 2 rfl) ?_
          refine lv_iadd hx hb dX7_judge_56 ?_
          replace h := gd_some h
          obtain ⟨g17, h⟩ := h
          refine r_iald hx hb hK hw q16 g17 dX7_judge_57 ?_
          refine lv_topi (fun y18 ey18 => ?_)
          replace h := lt_at ey18 h
          refine lv_istore (lv' := [(5, .int y18), (0, .ref (ad x0)), (1, .int x1), (3, .int x3), (4, .int x4)]) hx hb dX7_judge_58 hl (by decide) rfl (fun ls hl => ?_)
          refine lv_iload_n hx hb dX7_judge_60 rfl (lv_at hl 3 rfl) ?_
          refine lv_iconst (v := (2 : Int32)) hx hb dX7_judge_61 (by decide) ?_
          refine lv_irem hx hb dX7_judge_62 (by decide) ?_
          refine lv_if_ne (tgt := 109) hx hb dX7_judge_63 (by decide) (fun c19 => ?_) (fun c19 => ?_)
          · replace h := if_some_f c19 h
            refine lv_iload hx hb dX7_judge_109 (lv_at hl 0 rfl) ?_
            refine lv_aload_n hx hb dX7_judge_111 rfl (lv_at hl 1 rfl) ?_
            refine lv_aload_n hx hb dX7_judge_112 rfl (lv_at hl 1 rfl) ?_
            replace h := bd_some h
            obtain ⟨q20, eq20, h⟩ := h
            refine r_getR hx hb hts iw7 hown hK hw x0 0 g11 (by decide) rfl (by decide) rfl (hq _ qw888) (fun _ h9 => h9) dX7_judge_113 eq20 ?_
            refine lv_iconst (v := (2 : Int32)) hx hb dX7_judge_116 (by decide) ?_
            replace h := gd_some h
            obtain ⟨g21, h⟩ := h
            refine r_iald hx hb hK hw q20 g21 dX7_judge_117 ?_
            refine lv_iconst (v := (1 : Int32)) hx hb dX7_judge_118 (by decide) ?_
            refine lv_isub hx hb dX7_judge_119 ?_
            refine lv_iconst (v := (4 : Int32)) hx hb dX7_judge_120 (by decide) ?_
            replace h := bd_some h
            obtain ⟨r22, er22, h⟩ := h
            refine r_callVi (As := [.int ((M.1 q20 (2 : Int32).toNatClampNeg) - (1 : Int32)), .int (4 : Int32)]) (rest := [.int y18]) hF (c_X7_of l D cy ad adK adV M x0 ((M.1 q20 (2 : Int32).toNatClampNeg) - (1 : Int32)) (4 : Int32) r22 er22) (gW_goodV hcm qw1010 qw1007 qw1009 qw22 qw67) hdX7_of rfl ⟨Nat.le_of_ble_eq_true rfl, Nat.le_of_ble_eq_true rfl⟩ rfl rfl hZ hK hw g11 (by decide) rfl rfl hl.1 rfl (Nat.le_of_ble_eq_true rfl) ⟨Nat.zero_le _, Nat.zero_le _⟩ dX7_judge_121 (fun H locs hw => ?_)
            refine lv_icmp_ne (tgt := 131) hx hb dX7_judge_124 (by decide) (fun c23 => ?_) (fun c23 => ?_)
            · replace h := if_some_f c23 h
              refine lv_iconst (v := (0 : Int32)) hx hb dX7_judge_131 (by decide) ?_
              exact hb132 _ ih _ _ _ _ _ h _ _ _ hw (lv_sub hl [1, 2, 3] rfl)
            · replace h := if_some_t c23 h
              refine lv_iconst (v := (1 : Int32)) hx hb dX7_judge_127 (by decide) ?_
              refine lv_goto (tgt := 132) hx hb dX7_judge_128 (by decide) ?_
              exact hb132 _ ih _ _ _ _ _ h _ _ _ hw (lv_sub hl [1, 2, 3] rfl)
          · replace h := if_some_t c19 h
            refine lv_aload_n hx hb dX7_judge_66 rfl (lv_at hl 1 rfl) ?_
            replace h := bd_some h
            obtain ⟨r24, er24, h⟩ := h
            refine r_callVi (As := []) (rest := []) hF (c_X7_isOver l D cy ad adK adV M x0 r24 er24) (gW_goodV hcm qw1138 qw1135 qw1137 qw41 qw67) hdX7_isOver rfl ⟨Nat.le_of_ble_eq_true rfl, Nat.le_of_ble_eq_true rfl⟩ rfl rfl hZ hK hw g11 (by decide) rfl rfl hl.1 rfl (Nat.le_of_ble_eq_true rfl) ⟨Nat.zero_le _, Nat.zero_le _⟩ dX7_judge_67 (fun H locs hw => ?_)
            refine lv_if_ne (tgt := 92) hx hb dX7_judge_70 (by decide) (fun c25 => ?_) (fun c25 => ?_)
            · replace h := if_some_f c25 h
              exact hb92 _ ih _ _ _ _ _ h _ _ _ hw (lv_sub hl [1, 2, 3, 0] rfl)
            · replace h := if_some_t c25 h
              refine lv_aload_n hx hb dX7_judge_73 rfl (lv_at hl 1 rfl) ?_
              refine lv_iload hx hb dX7_judge_74 (lv_at hl 0 rfl) ?_
              refine lv_aload_n hx hb dX7_judge_76 rfl (lv_at hl 1 rfl) ?_
              replace h := bd_some h
              obtain ⟨q26, eq26, h⟩ := h
              refine r_getR hx hb hts iw7 hown hK hw x0 0 g11 (by decide) rfl (by decide) rfl (hq _ qw888) (fun _ h9 => h9) dX7_judge_77 eq26 ?_
              refine lv_iconst (v := (2 : Int32)) hx hb dX7_judge_80 (by decide) ?_
              replace h := gd_some h
              obtain ⟨g27, h⟩ := h
              refine r_iald hx hb hK hw q26 g27 dX7_judge_81 ?_
              replace h := bd_some h
              obtain ⟨r28, er28, h⟩ := h
              refine r_callVi (As := [.int y18, .int (r24.1.1 q26 (2 : Int32).toNatClampNeg)]) (rest := []) hF (c_X7_plays l D cy ad adK adV r24.1 x0 y18 (r24.1.1 q26 (2 : Int32).toNatClampNeg) r28 er28) (gW_goodV hcm qw1018 qw1015 qw1017 qw24 qw67) hdX7_plays rfl ⟨Nat.le_of_ble_eq_true rfl, Nat.le_of_ble_eq_true rfl⟩ rfl rfl hZ hK hw g11 (by decide) rfl rfl hl.1 rfl (Nat.le_of_ble_eq_true rfl) ⟨Nat.zero_le _, Nat.zero_le _⟩ dX7_judge_82 (fun H locs hw => ?_)
              refine lv_if_eq (tgt := 92) hx hb dX7_judge_85 (by decide) (fun c29 => ?_) (fun c29 => ?_)
              · replace h := if_some_t c29 h
                exact hb92 _ ih _ _ _ _ _ h _ _ _ hw (lv_sub hl [1, 2, 3, 0] rfl)
              · replace h := if_some_f c29 h
                refine lv_iconst (v := (1 : Int32)) hx hb dX7_judge_88 (by decide) ?_
                refine lv_goto (tgt := 93) hx hb dX7_judge_89 (by decide) ?_
                exact hb93 _ ih _ _ _ _ _ _ h _ _ _ hw (lv_sub hl [1, 2, 3, 0] rfl)
  unfold f_X7_judge at h
  refine lv_aload_n hx hb dX7_judge_0 rfl (lv_at hl 0 rfl) ?_
  refine lv_iload_n hx hb dX7_judge_1 rfl (lv_at hl 1 rfl) ?_
  replace h := gd_some h
  obtain ⟨g31, h⟩ := h
  replace h := bd_some h
  obtain ⟨r30, er30, h⟩ := h
  refine r_callVi (As := [.int a1]) (rest := []) hF (c_X7_lacks l D cy ad adK adV M o0 a1 r30 er30) (gW_goodV hcm qw1328 qw1325 qw1327 qw58 qw67) hdX7_lacks rfl ⟨Nat.le_of_ble_eq_true rfl, Nat.le_of_ble_eq_true rfl⟩ rfl rfl hZ hK hw g31 (by decide) rfl rfl hl.1 rfl (Nat.le_of_ble_eq_true rfl) ⟨Nat.zero_le _, Nat.zero_le _⟩ dX7_judge_2 (fun H locs hw => ?_)
  refine lv_istore_n (lv' := [(2, .int r30.2), (0, .ref (ad o0)), (1, .int a1)]) hx hb dX7_judge_5 rfl hl (by decide) rfl (fun ls hl => ?_)
  refine lv_iload_n hx hb dX7_judge_6 rfl (lv_at hl 0 rfl) ?_
  refine lv_if_lt (tgt := 16) hx hb dX7_judge_7 (by decide) (fun c32 => ?_) (fun c32 => ?_)
  · replace h := if_some_t c32 h
    refine lv_aload_n hx hb dX7_judge_16 rfl (lv_at hl 1 rfl) ?_
    replace h := bd_some h
    obtain ⟨q33, eq33, h⟩ := h
    refine r_getR hx hb hts iw7 hown hK hw o0 0 g31 (by decide) rfl (by decide) rfl (hq _ qw888) (fun _ h9 => h9) dX7_judge_17 eq33 ?_
    refine lv_aload_n hx hb dX7_judge_20 rfl (lv_at hl 1 rfl) ?_
    replace h := bd_some h
    obtain ⟨q34, eq34, h⟩ := h
    refine r_getR hx hb hts iw7 hown hK hw o0 2 g31 (by decide) rfl (by decide) rfl (hq _ qw890) (fun _ h9 => h9) dX7_judge_21 eq34 ?_
    replace h := bd_some h
    obtain ⟨r35, er35, h⟩ := h
    refine r_callSv (As := [.ref (ad q33), .ref (ad q34)]) (rest := []) hF (c_X7_carry l D cy ad adK adV r30.1 q33 q34 r35 er35) (gW_goodS hcm qw1077 qw1075 qw1076 qw67) hdX7_carry ⟨Nat.le_of_ble_eq_true rfl, Nat.le_of_ble_eq_true rfl⟩ rfl rfl hZ hK hw rfl hl.1 rfl (Nat.le_of_ble_eq_true rfl) ⟨Nat.zero_le _, Nat.zero_le _⟩ dX7_judge_24 (fun H locs hw => ?_)
    refine lv_iconst (v := (0 : Int32)) hx hb dX7_judge_27 (by decide) ?_
    refine lv_istore_n (lv' := [(3, .int (0 : Int32)), (2, .int r30.2), (0, .ref (ad o0)), (1, .int a1)]) hx hb dX7_judge_28 rfl hl (by decide) rfl (fun ls hl => ?_)
    refine lv_iconst (v := (1 : Int32)) hx hb dX7_judge_29 (by decide) ?_
    refine lv_istore (lv' := [(4, .int (1 : Int32)), (3, .int (0 : Int32)), (2, .int r30.2), (0, .ref (ad o0)), (1, .int a1)]) hx hb dX7_judge_30 hl (by decide) rfl (fun ls hl => ?_)
    exact hb32 1000 _ _ _ _ _ h _ _ _ hw (lv_sub hl [3, 4, 1, 0] rfl)
  · replace h := if_some_f c32 h
    refine lv_aload_n hx hb dX7_judge_10 rfl (lv_at hl 1 rfl) ?_
    refine lv_iload_n hx hb dX7_judge_11 rfl (lv_at hl 0 rfl) ?_
    replace h := bd_some h
    obtain ⟨r36, er36, h⟩ := h
    refine r_callVi (As := [.int r30.2]) (rest := []) hF (c_X7_finding l D cy ad adK adV r30.1 o0 r30.2 r36 er36) (gW_goodV hcm qw989 qw986 qw988 qw18 qw67) hdX7_finding rfl ⟨Nat.le_of_ble_eq_true rfl, Nat.le_of_ble_eq_true rfl⟩ rfl rfl hZ hK hw g31 (by decide) rfl rfl hl.1 rfl (Nat.le_of_ble_eq_true rfl) ⟨Nat.zero_le _, Nat.zero_le _⟩ dX7_judge_12 (fun H locs hw => ?_)
    exact r_iret hx hb hr rfl hlocks hZ hK hw h dX7_judge_15
theorem dX7_image_0 : decode cX7_image 0 = .ok (.aload_n 0, 1) := by decide +kernel
theorem dX7_image_1 : decode cX7_image 1 = .ok (.getfield 7, 3) := by decide +kernel
theorem dX7_image_4 : decode cX7_image 4 = .ok (.aload_n 0, 1) := by decide +kernel
theorem dX7_image_5 : decode cX7_image 5 = .ok (.getfield 13, 3) := by decide +kernel
theorem dX7_image_8 : decode cX7_image 8 = .ok (.invokestatic 220, 3) := by decide +kernel
theorem dX7_image_11 : decode cX7_image 11 = .ok (.aload_n 0, 1) := by decide +kernel
theorem dX7_image_12 : decode cX7_image 12 = .ok (.iconst 1, 1) := by decide +kernel
theorem dX7_image_13 : decode cX7_image 13 = .ok (.putfield 293, 3) := by decide +kernel
theorem dX7_image_16 : decode cX7_image 16 = .ok (.iconst 1, 1) := by decide +kernel
theorem dX7_image_17 : decode cX7_image 17 = .ok (.ireturn, 1) := by decide +kernel
set_option maxHeartbeats 4000000 in
set_option maxRecDepth 100000 in
theorem c_X7_image (l : Launch) (D : va_G) (cy : Nat → ClassId) (ad adK adV : Nat → Nat) (M : Mm) (o0 : Nat) (res : Mm × Int32) (h : f_X7_image M o0 = some res) : Met l yX7_image (wU yX7_image cX7_image 1 (some .int)) rmX7_image (va_Pc [.ref (ad o0)] (Pre D cy shM ad nM adK adV M)) (va_Qi (fun r (M2 : Mm) => r = res.2 ∧ M2 = res.1) (Pre D cy shM ad nM adK adV) (Aw ad nM)) 0 0 (Aw ad nM) := by
  refine Met.ofW (cc := cX7_image) (maxL := 1) (ret := (some .int)) (by decide) rfl ?_
  intro p e s m args below meth c s₁ B hml hv
  obtain ⟨hargs, hPre⟩ := hv
  have hx := B.exec
  have hb := B.bytes
  have hr := B.returns
  have hts := atoms_spec (ws := wU yX7_image cX7_image 1 (some .int)) B.pre
  have hq : ∀ w ∈ gW, w.before args s = true := fun w hw => hts w (List.mem_cons_of_mem _ hw)
  have hcm : ∀ w ∈ gW, w ∈ wU yX7_image cX7_image 1 (some .int) := fun w hw => List.mem_cons_of_mem _ hw
  have hown : s.vm.findClass RX7 = some m.cls := findClass_of_methodNamed B.named
  have hlocks := B.notSynchronized
  have hF : CallFix p m c cX7_image 1 s args (wU yX7_image cX7_image 1 (some .int)) RX7 := ⟨hx, hb, hml, hown, hts⟩
  have hK := hPre.2.1
  have hZ := hPre.2.2.2
  have hw : Wd D cy shM ad nM (Aw ad nM) s.heap M s.heap [] := ⟨hPre.1, hPre.2.2.1, va_S.rf⟩
  have iw7 : ∀ w ∈ u_ws RX7 TX7 30, w ∈ wU yX7_image cX7_image 1 (some .int) := fun w hw => List.mem_cons_of_mem _ (iX7 w hw)
  rw [show entryFrame m args 1 = entryFrame m ([.ref (ad o0)] : List Value).toArray 1 from by rw [hargs]]
  have hl := lv_entry ([.ref (ad o0)]) (n := 1) (Nat.le_of_ble_eq_true rfl)
  rw [lg_entry_eq]
  generalize (lg_sl ([.ref (ad o0)]) ++ List.replicate (1 - (lg_sl ([.ref (ad o0)])).length) Slot.unset).toArray = ls at hl ⊢
  have hl : lv_has ls 1 [(0, .ref (ad o0))] := hl
  unfold f_X7_image at h
  refine lv_aload_n hx hb dX7_image_0 rfl (lv_at hl 0 rfl) ?_
  replace h := gd_some h
  obtain ⟨g1, h⟩ := h
  replace h := bd_some h
  obtain ⟨q2, eq2, h⟩ := h
  refine r_getR hx hb hts iw7 hown hK hw o0 0 g1 (by decide) rfl (by decide) rfl (hq _ qw888) (fun _ h9 => h9) dX7_image_1 eq2 ?_
  refine lv_aload_n hx hb dX7_image_4 rfl (lv_at hl 0 rfl) ?_
  replace h := bd_some h
  obtain ⟨q3, eq3, h⟩ := h
  refine r_getR hx hb hts iw7 hown hK hw o0 1 g1 (by decide) rfl (by decide) rfl (hq _ qw889) (fun _ h9 => h9) dX7_image_5 eq3 ?_
  replace h := bd_some h
  obtain ⟨r4, er4, h⟩ := h
  refine r_callSv (As := [.ref (ad q2), .ref (ad q3)]) (rest := []) hF (c_X7_carry l D cy ad adK adV M q2 q3 r4 er4) (gW_goodS hcm qw1077 qw1075 qw1076 qw67) hdX7_carry ⟨Nat.le_of_ble_eq_true rfl, Nat.le_of_ble_eq_true rfl⟩ rfl rfl hZ hK hw rfl hl.1 rfl (Nat.le_of_ble_eq_true rfl) ⟨Nat.zero_le _, Nat.zero_le _⟩ dX7_image_8 (fun H locs hw => ?_)
  refine lv_aload_n hx hb dX7_image_11 rfl (lv_at hl 0 rfl) ?_
  refine lv_iconst (v := (1 : Int32)) hx hb dX7_image_12 (by decide) ?_
  refine r_putI hx hb hts iw7 tyX7 tyX7_ok nmX7 hown hK hw o0 3 g1 (by decide) rfl (by decide) rfl (hq _ qw891) (fun _ h9 => h9) rfl rfl rfl dX7_image_13 (fun H locs hw => ?_)
  replace h := lt_some h
  obtain ⟨M5, eM5, h⟩ := h
  rw [← eM5] at hw
  refine lv_iconst (v := (1 : Int32)) hx hb dX7_image_16 (by decide) ?_
  exact r_iret hx hb hr rfl hlocks hZ hK hw h dX7_image_17
theorem dX7_undo_0 : decode cX7_undo 0 = .ok (.aload_n 0, 1) := by decide +kernel
theorem dX7_undo_1 : decode cX7_undo 1 = .ok (.getfield 293, 3) := by decide +kernel
theorem dX7_undo_4 : decode cX7_undo 4 = .ok (.ifCond .ne 9, 3) := by decide +kernel
theorem dX7_undo_7 : decode cX7_undo 7 = .ok (.aload_n 0, 1) := by decide +kernel
theorem dX7_undo_8 : decode cX7_undo 8 = .ok (.iconst 3, 1) := by decide +kernel
theorem dX7_undo_9 : decode cX7_undo 9 = .ok (.invokevirtual 115, 3) := by decide +kernel
theorem dX7_undo_12 : decode cX7_undo 12 = .ok (.ireturn, 1) := by decide +kernel
theorem dX7_undo_13 : decode cX7_undo 13 = .ok (.aload_n 0, 1) := by decide +kernel
theorem dX7_undo_14 : decode cX7_undo 14 = .ok (.getfield 13, 3) := by decide +kernel
theorem dX7_undo_17 : decode cX7_undo 17 = .ok (.aload_n 0, 1) := by decide +kernel
theorem dX7_undo_18 : decode cX7_undo 18 = .ok (.getfield 7, 3) := by decide +kernel
theorem dX7_undo_21 : decode cX7_undo 21 = .ok (.invokestatic 220, 3) := by decide +kernel
theorem dX7_undo_24 : decode cX7_undo 24 = .ok (.aload_n 0, 1) := by decide +kernel
theorem dX7_undo_25 : decode cX7_undo 25 = .ok (.getfield 7, 3) := by decide +kernel
theorem dX7_undo_28 : decode cX7_undo 28 = .ok (.iconst 2, 1) := by decide +kernel
theorem dX7_undo_29 : decode cX7_undo 29 = .ok (.iaload, 1) := by decide +kernel
theorem dX7_undo_30 : decode cX7_undo 30 = .ok (.ireturn, 1) := by decide +kernel
set_option maxHeartbeats 4000000 in
set_option maxRecDepth 100000 in
theorem c_X7_undo (l : Launch) (D : va_G) (cy : Nat → ClassId) (ad adK adV : Nat → Nat) (M : Mm) (o0 : Nat) (res : Mm × Int32) (h : f_X7_undo M o0 = some res) : Met l yX7_undo (wU yX7_undo cX7_undo 1 (some .int)) rmX7_undo (va_Pc [.ref (ad o0)] (Pre D cy shM ad nM adK adV M)) (va_Qi (fun r (M2 : Mm) => r = res.2 ∧ M2 = res.1) (Pre D cy shM ad nM adK adV) (Aw ad nM)) 0 0 (Aw ad nM) := by
  refine Met.ofW (cc := cX7_undo) (maxL := 1) (ret := (some .int)) (by decide) rfl ?_
  intro p e s m args below meth c s₁ B hml hv
  obtain ⟨hargs, hPre⟩ := hv
  have hx := B.exec
  have hb := B.bytes
  have hr := B.returns
  have hts := atoms_spec (ws := wU yX7_undo cX7_undo 1 (some .int)) B.pre
  have hq : ∀ w ∈ gW, w.before args s = true := fun w hw => hts w (List.mem_cons_of_mem _ hw)
  have hcm : ∀ w ∈ gW, w ∈ wU yX7_undo cX7_undo 1 (some .int) := fun w hw => List.mem_cons_of_mem _ hw
  have hown : s.vm.findClass RX7 = some m.cls := findClass_of_methodNamed B.named
  have hlocks := B.notSynchronized
  have hF : CallFix p m c cX7_undo 1 s args (wU yX7_undo cX7_undo 1 (some .int)) RX7 := ⟨hx, hb, hml, hown, hts⟩
  have hK := hPre.2.1
  have hZ := hPre.2.2.2
  have hw : Wd D cy shM ad nM (Aw ad nM) s.heap M s.heap [] := ⟨hPre.1, hPre.2.2.1, va_S.rf⟩
  have iw7 : ∀ w ∈ u_ws RX7 TX7 30, w ∈ wU yX7_undo cX7_undo 1 (some .int) := fun w hw => List.mem_cons_of_mem _ (iX7 w hw)
  rw [show entryFrame m args 1 = entryFrame m ([.ref (ad o0)] : List Value).toArray 1 from by rw [hargs]]
  have hl := lv_entry ([.ref (ad o0)]) (n := 1) (Nat.le_of_ble_eq_true rfl)
  rw [lg_entry_eq]
  generalize (lg_sl ([.ref (ad o0)]) ++ List.replicate (1 - (lg_sl ([.ref (ad o0)])).length) Slot.unset).toArray = ls at hl ⊢
  have hl : lv_has ls 1 [(0, .ref (ad o0))] := hl
  unfold f_X7_undo at h
  refine lv_aload_n hx hb dX7_undo_0 rfl (lv_at hl 0 rfl) ?_
  replace h := gd_some h
  obtain ⟨g1, h⟩ := h
  refine r_getI hx hb hts iw7 hown hK hw o0 3 g1 (by decide) rfl (by decide) rfl (hq _ qw891) (fun _ h9 => h9) dX7_undo_1 ?_
  refine lv_if_ne (tgt := 13) hx hb dX7_undo_4 (by decide) (fun c2 => ?_) (fun c2 => ?_)
  · replace h := if_some_f c2 h
    refine lv_aload_n hx hb dX7_undo_13 rfl (lv_at hl 0 rfl) ?_
    replace h := bd_some h
    obtain ⟨q3, eq3, h⟩ := h
    refine r_getR hx hb hts iw7 hown hK hw o0 1 g1 (by decide) rfl (by decide) rfl (hq _ qw889) (fun _ h9 => h9) dX7_undo_14 eq3 ?_
    refine lv_aload_n hx hb dX7_undo_17 rfl (lv_at hl 0 rfl) ?_
    replace h := bd_some h
    obtain ⟨q4, eq4, h⟩ := h
    refine r_getR hx hb hts iw7 hown hK hw o0 0 g1 (by decide) rfl (by decide) rfl (hq _ qw888) (fun _ h9 => h9) dX7_undo_18 eq4 ?_
    replace h := bd_some h
    obtain ⟨r5, er5, h⟩ := h
    refine r_callSv (As := [.ref (ad q3), .ref (ad q4)]) (rest := []) hF (c_X7_carry l D cy ad adK adV M q3 q4 r5 er5) (gW_goodS hcm qw1077 qw1075 qw1076 qw67) hdX7_carry ⟨Nat.le_of_ble_eq_true rfl, Nat.le_of_ble_eq_true rfl⟩ rfl rfl hZ hK hw rfl hl.1 rfl (Nat.le_of_ble_eq_true rfl) ⟨Nat.zero_le _, Nat.zero_le _⟩ dX7_undo_21 (fun H locs hw => ?_)
    refine lv_aload_n hx hb dX7_undo_24 rfl (lv_at hl 0 rfl) ?_
    replace h := bd_some h
    obtain ⟨q6, eq6, h⟩ := h
    refine r_getR hx hb hts iw7 hown hK hw o0 0 g1 (by decide) rfl (by decide) rfl (hq _ qw888) (fun _ h9 => h9) dX7_undo_25 eq6 ?_
    refine lv_iconst (v := (2 : Int32)) hx hb dX7_undo_28 (by decide) ?_
    replace h := gd_some h
    obtain ⟨g7, h⟩ := h
    refine r_iald hx hb hK hw q6 g7 dX7_undo_29 ?_
    exact r_iret hx hb hr rfl hlocks hZ hK hw h dX7_undo_30
  · replace h := if_some_t c2 h
    refine lv_aload_n hx hb dX7_undo_7 rfl (lv_at hl 0 rfl) ?_
    refine lv_iconst (v := (3 : Int32)) hx hb dX7_undo_8 (by decide) ?_
    replace h := bd_some h
    obtain ⟨r8, er8, h⟩ := h
    refine r_callVi (As := [.int (3 : Int32)]) (rest := []) hF (c_X7_finding l D cy ad adK adV M o0 (3 : Int32) r8 er8) (gW_goodV hcm qw989 qw986 qw988 qw18 qw67) hdX7_finding rfl ⟨Nat.le_of_ble_eq_true rfl, Nat.le_of_ble_eq_true rfl⟩ rfl rfl hZ hK hw g1 (by decide) rfl rfl hl.1 rfl (Nat.le_of_ble_eq_true rfl) ⟨Nat.zero_le _, Nat.zero_le _⟩ dX7_undo_9 (fun H locs hw => ?_)
    exact r_iret hx hb hr rfl hlocks hZ hK hw h dX7_undo_12
theorem dX7_tear_0 : decode cX7_tear 0 = .ok (.aload_n 0, 1) := by decide +kernel
theorem dX7_tear_1 : decode cX7_tear 1 = .ok (.getfield 293, 3) := by decide +kernel
theorem dX7_tear_4 : decode cX7_tear 4 = .ok (.ifCond .eq 7, 3) := by decide +kernel
theorem dX7_tear_7 : decode cX7_tear 7 = .ok (.iconst 1, 1) := by decide +kernel
theorem dX7_tear_8 : decode cX7_tear 8 = .ok (.goto 4, 3) := by decide +kernel
theorem dX7_tear_11 : decode cX7_tear 11 = .ok (.iconst 0, 1) := by decide +kernel
theorem dX7_tear_12 : decode cX7_tear 12 = .ok (.istore_n 1, 1) := by decide +kernel
theorem dX7_tear_13 : decode cX7_tear 13 = .ok (.aload_n 0, 1) := by decide +kernel
theorem dX7_tear_14 : decode cX7_tear 14 = .ok (.iconst 0, 1) := by decide +kernel
theorem dX7_tear_15 : decode cX7_tear 15 = .ok (.putfield 293, 3) := by decide +kernel
theorem dX7_tear_18 : decode cX7_tear 18 = .ok (.iload_n 1, 1) := by decide +kernel
theorem dX7_tear_19 : decode cX7_tear 19 = .ok (.ireturn, 1) := by decide +kernel
set_option maxHeartbeats 4000000 in
set_option maxRecDepth 100000 in
theorem c_X7_tear (l : Launch) (D : va_G) (cy : Nat → ClassId) (ad adK adV : Nat → Nat) (M : Mm) (o0 : Nat) (res : Mm × Int32) (h : f_X7_tear M o0 = some res) : Met l yX7_tear (wU yX7_tear cX7_tear 2 (some .int)) rmX7_tear (va_Pc [.ref (ad o0)] (Pre D cy shM ad nM adK adV M)) (va_Qi (fun r (M2 : Mm) => r = res.2 ∧ M2 = res.1) (Pre D cy shM ad nM adK adV) (Aw ad nM)) 0 0 (Aw ad nM) := by
  refine Met.ofW (cc := cX7_tear) (maxL := 2) (ret := (some .int)) (by decide) rfl ?_
  intro p e s m args below meth c s₁ B hml hv
  obtain ⟨hargs, hPre⟩ := hv
  have hx := B.exec
  have hb := B.bytes
  have hr := B.returns
  have hts := atoms_spec (ws := wU yX7_tear cX7_tear 2 (some .int)) B.pre
  have hq : ∀ w ∈ gW, w.before args s = true := fun w hw => hts w (List.mem_cons_of_mem _ hw)
  have hcm : ∀ w ∈ gW, w ∈ wU yX7_tear cX7_tear 2 (some .int) := fun w hw => List.mem_cons_of_mem _ hw
  have hown : s.vm.findClass RX7 = some m.cls := findClass_of_methodNamed B.named
  have hlocks := B.notSynchronized
  have hF : CallFix p m c cX7_tear 2 s args (wU yX7_tear cX7_tear 2 (some .int)) RX7 := ⟨hx, hb, hml, hown, hts⟩
  have hK := hPre.2.1
  have hZ := hPre.2.2.2
  have hw : Wd D cy shM ad nM (Aw ad nM) s.heap M s.heap [] := ⟨hPre.1, hPre.2.2.1, va_S.rf⟩
  have iw7 : ∀ w ∈ u_ws RX7 TX7 30, w ∈ wU yX7_tear cX7_tear 2 (some .int) := fun w hw => List.mem_cons_of_mem _ (iX7 w hw)
  rw [show entryFrame m args 2 = entryFrame m ([.ref (ad o0)] : List Value).toArray 2 from by rw [hargs]]
  have hl := lv_entry ([.ref (ad o0)]) (n := 2) (Nat.le_of_ble_eq_true rfl)
  rw [lg_entry_eq]
  generalize (lg_sl ([.ref (ad o0)]) ++ List.replicate (2 - (lg_sl ([.ref (ad o0)])).length) Slot.unset).toArray = ls at hl ⊢
  have hl : lv_has ls 2 [(0, .ref (ad o0))] := hl
  have hb12 : ∀ (M : Mm) (x0 : Nat) (t0 : Int32), f_X7_tear_b12 M x0 t0 = some res → ∀ (H : Heap) (locs : List Loc) (ls : Array Slot), Wd D cy shM ad nM (Aw ad nM) s.heap M H locs → lv_has ls 2 [(0, .ref (ad x0))] → W p l e (headSpec (wU yX7_tear cX7_tear 2 (some .int)) rmX7_tear).room s m args below meth c H locs 0 0 (QI D cy shM ad nM adK adV below args s res) (F0 m 12 ls [.int t0]) := by
    intro M x0 t0 h H locs ls hw hl
    unfold f_X7_tear_b12 at h
    refine lv_istore_n (lv' := [(1, .int t0), (0, .ref (ad x0))]) hx hb dX7_tear_12 rfl hl (by decide) rfl (fun ls hl => ?_)
    refine lv_aload_n hx hb dX7_tear_13 rfl (lv_at hl 1 rfl) ?_
    refine lv_iconst (v := (0 : Int32)) hx hb dX7_tear_14 (by decide) ?_
    replace h := gd_some h
    obtain ⟨g1, h⟩ := h
    refine r_putI hx hb hts iw7 tyX7 tyX7_ok nmX7 hown hK hw x0 3 g1 (by decide) rfl (by decide) rfl (hq _ qw891) (fun _ h9 => h9) rfl rfl rfl dX7_tear_15 (fun H locs hw => ?_)
    replace h := lt_some h
    obtain ⟨M2, eM2, h⟩ := h
    rw [← eM2] at hw
    refine lv_iload_n hx hb dX7_tear_18 rfl (lv_at hl 0 rfl) ?_
    exact r_iret hx hb hr rfl hlocks hZ hK hw h dX7_tear_19
  unfold f_X7_tear at h
  refine lv_aload_n hx hb dX7_tear_0 rfl (lv_at hl 0 rfl) ?_
  replace h := gd_some h
  obtain ⟨g3, h⟩ := h
  refine r_getI hx hb hts iw7 hown hK hw o0 3 g3 (by decide) rfl (by decide) rfl (hq _ qw891) (fun _ h9 => h9) dX7_tear_1 ?_
  refine lv_if_eq (tgt := 11) hx hb dX7_tear_4 (by decide) (fun c4 => ?_) (fun c4 => ?_)
  · replace h := if_some_t c4 h
    refine lv_iconst (v := (0 : Int32)) hx hb dX7_tear_11 (by decide) ?_
    exact hb12 _ _ _ h _ _ _ hw (lv_sub hl [0] rfl)
  · replace h := if_some_f c4 h
    refine lv_iconst (v := (1 : Int32)) hx hb dX7_tear_7 (by decide) ?_
    refine lv_goto (tgt := 12) hx hb dX7_tear_8 (by decide) ?_
    exact hb12 _ _ _ h _ _ _ hw (lv_sub hl [0] rfl)

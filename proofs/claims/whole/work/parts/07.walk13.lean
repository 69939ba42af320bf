theorem dX7_count_0 : decode cX7_count 0 = .ok (.iload_n 1, 1) := by decide +kernel
theorem dX7_count_1 : decode cX7_count 1 = .ok (.tableswitch 122 0 6 #[43, 50, 57, 64, 71, 76, 83], 43) := by decide +kernel
theorem dX7_count_44 : decode cX7_count 44 = .ok (.aload_n 0, 1) := by decide +kernel
theorem dX7_count_45 : decode cX7_count 45 = .ok (.getfield 7, 3) := by decide +kernel
theorem dX7_count_48 : decode cX7_count 48 = .ok (.iconst 0, 1) := by decide +kernel
theorem dX7_count_49 : decode cX7_count 49 = .ok (.iaload, 1) := by decide +kernel
theorem dX7_count_50 : decode cX7_count 50 = .ok (.ireturn, 1) := by decide +kernel
theorem dX7_count_51 : decode cX7_count 51 = .ok (.aload_n 0, 1) := by decide +kernel
theorem dX7_count_52 : decode cX7_count 52 = .ok (.getfield 7, 3) := by decide +kernel
theorem dX7_count_55 : decode cX7_count 55 = .ok (.iconst 1, 1) := by decide +kernel
theorem dX7_count_56 : decode cX7_count 56 = .ok (.iaload, 1) := by decide +kernel
theorem dX7_count_57 : decode cX7_count 57 = .ok (.ireturn, 1) := by decide +kernel
theorem dX7_count_58 : decode cX7_count 58 = .ok (.aload_n 0, 1) := by decide +kernel
theorem dX7_count_59 : decode cX7_count 59 = .ok (.getfield 7, 3) := by decide +kernel
theorem dX7_count_62 : decode cX7_count 62 = .ok (.iconst 2, 1) := by decide +kernel
theorem dX7_count_63 : decode cX7_count 63 = .ok (.iaload, 1) := by decide +kernel
theorem dX7_count_64 : decode cX7_count 64 = .ok (.ireturn, 1) := by decide +kernel
theorem dX7_count_65 : decode cX7_count 65 = .ok (.aload_n 0, 1) := by decide +kernel
theorem dX7_count_66 : decode cX7_count 66 = .ok (.getfield 7, 3) := by decide +kernel
theorem dX7_count_69 : decode cX7_count 69 = .ok (.iconst 3, 1) := by decide +kernel
theorem dX7_count_70 : decode cX7_count 70 = .ok (.iaload, 1) := by decide +kernel
theorem dX7_count_71 : decode cX7_count 71 = .ok (.ireturn, 1) := by decide +kernel
theorem dX7_count_72 : decode cX7_count 72 = .ok (.aload_n 0, 1) := by decide +kernel
theorem dX7_count_73 : decode cX7_count 73 = .ok (.getfield 138, 3) := by decide +kernel
theorem dX7_count_76 : decode cX7_count 76 = .ok (.ireturn, 1) := by decide +kernel
theorem dX7_count_77 : decode cX7_count 77 = .ok (.aload_n 0, 1) := by decide +kernel
theorem dX7_count_78 : decode cX7_count 78 = .ok (.getfield 7, 3) := by decide +kernel
theorem dX7_count_81 : decode cX7_count 81 = .ok (.iconst 4, 1) := by decide +kernel
theorem dX7_count_82 : decode cX7_count 82 = .ok (.iaload, 1) := by decide +kernel
theorem dX7_count_83 : decode cX7_count 83 = .ok (.ireturn, 1) := by decide +kernel
theorem dX7_count_84 : decode cX7_count 84 = .ok (.iconst 0, 1) := by decide +kernel
theorem dX7_count_85 : decode cX7_count 85 = .ok (.istore_n 2, 1) := by decide +kernel
theorem dX7_count_86 : decode cX7_count 86 = .ok (.iconst 0, 1) := by decide +kernel
theorem dX7_count_87 : decode cX7_count 87 = .ok (.istore_n 3, 1) := by decide +kernel
theorem dX7_count_88 : decode cX7_count 88 = .ok (.iload_n 3, 1) := by decide +kernel
theorem dX7_count_89 : decode cX7_count 89 = .ok (.bipush 10, 2) := by decide +kernel
theorem dX7_count_91 : decode cX7_count 91 = .ok (.if_icmp .ge 30, 3) := by decide +kernel
theorem dX7_count_94 : decode cX7_count 94 = .ok (.iload_n 2, 1) := by decide +kernel
theorem dX7_count_95 : decode cX7_count 95 = .ok (.aload_n 0, 1) := by decide +kernel
theorem dX7_count_96 : decode cX7_count 96 = .ok (.getfield 7, 3) := by decide +kernel
theorem dX7_count_99 : decode cX7_count 99 = .ok (.bipush 79, 2) := by decide +kernel
theorem dX7_count_101 : decode cX7_count 101 = .ok (.iload_n 3, 1) := by decide +kernel
theorem dX7_count_102 : decode cX7_count 102 = .ok (.iadd, 1) := by decide +kernel
theorem dX7_count_103 : decode cX7_count 103 = .ok (.iaload, 1) := by decide +kernel
theorem dX7_count_104 : decode cX7_count 104 = .ok (.iconst (-1), 1) := by decide +kernel
theorem dX7_count_105 : decode cX7_count 105 = .ok (.if_icmp .ne 7, 3) := by decide +kernel
theorem dX7_count_108 : decode cX7_count 108 = .ok (.iconst 0, 1) := by decide +kernel
theorem dX7_count_109 : decode cX7_count 109 = .ok (.goto 4, 3) := by decide +kernel
theorem dX7_count_112 : decode cX7_count 112 = .ok (.iconst 1, 1) := by decide +kernel
theorem dX7_count_113 : decode cX7_count 113 = .ok (.iadd, 1) := by decide +kernel
theorem dX7_count_114 : decode cX7_count 114 = .ok (.istore_n 2, 1) := by decide +kernel
theorem dX7_count_115 : decode cX7_count 115 = .ok (.iinc 3 1, 3) := by decide +kernel
theorem dX7_count_118 : decode cX7_count 118 = .ok (.goto (-30), 3) := by decide +kernel
theorem dX7_count_121 : decode cX7_count 121 = .ok (.iload_n 2, 1) := by decide +kernel
theorem dX7_count_122 : decode cX7_count 122 = .ok (.ireturn, 1) := by decide +kernel
theorem dX7_count_123 : decode cX7_count 123 = .ok (.aload_n 0, 1) := by decide +kernel
theorem dX7_count_124 : decode cX7_count 124 = .ok (.iconst 0, 1) := by decide +kernel
theorem dX7_count_125 : decode cX7_count 125 = .ok (.invokevirtual 115, 3) := by decide +kernel
theorem dX7_count_128 : decode cX7_count 128 = .ok (.ireturn, 1) := by decide +kernel
set_option maxHeartbeats 4000000 in
set_option maxRecDepth 100000 in
theorem c_X7_count (l : Launch) (D : va_G) (cy : Nat → ClassId) (ad adK adV : Nat → Nat) (M : Mm) (o0 : Nat) (a1 : Int32) (res : Mm × Int32) (h : f_X7_count M o0 a1 = some res) : Met l yX7_count (wU yX7_count cX7_count 4 (some .int)) rmX7_count (va_Pc [.ref (ad o0), .int a1] (Pre D cy shM ad nM adK adV M)) (va_Qi (fun r (M2 : Mm) => r = res.2 ∧ M2 = res.1) (Pre D cy shM ad nM adK adV) (Aw ad nM)) 0 0 (Aw ad nM) := by
  refine Met.ofW (cc := cX7_count) (maxL := 4) (ret := (some .int)) (by decide) rfl ?_
  intro p e s m args below meth c s₁ B hml hv
  obtain ⟨hargs, hPre⟩ := hv
  have hx := B.exec
  have hb := B.bytes
  have hr := B.returns
  have hts := atoms_spec (ws := wU yX7_count cX7_count 4 (some .int)) B.pre
  have hq : ∀ w ∈ gW, w.before args s = true := fun w hw => hts w (List.mem_cons_of_mem _ hw)
  have hcm : ∀ w ∈ gW, w ∈ wU yX7_count cX7_count 4 (some .int) := fun w hw => List.mem_cons_of_mem _ hw
  have hown : s.vm.findClass RX7 = some m.cls := findClass_of_methodNamed B.named
  have hlocks := B.notSynchronized
  have hF : CallFix p m c cX7_count 4 s args (wU yX7_count cX7_count 4 (some .int)) RX7 := ⟨hx, hb, hml, hown, hts⟩
  have hK := hPre.2.1
  have hZ := hPre.2.2.2
  have hw : Wd D cy shM ad nM (Aw ad nM) s.heap M s.heap [] := ⟨hPre.1, hPre.2.2.1, va_S.rf⟩
  have iw7 : ∀ w ∈ u_ws RX7 TX7 30, w ∈ wU yX7_count cX7_count 4 (some .int) := fun w hw => List.mem_cons_of_mem _ (iX7 w hw)
  rw [show entryFrame m args 4 = entryFrame m ([.ref (ad o0), .int a1] : List Value).toArray 4 from by rw [hargs]]
  have hl := lv_entry ([.ref (ad o0), .int a1]) (n := 4) (Nat.le_of_ble_eq_true rfl)
  rw [lg_entry_eq]
  generalize (lg_sl ([.ref (ad o0), .int a1]) ++ List.replicate (4 - (lg_sl ([.ref (ad o0), .int a1])).length) Slot.unset).toArray = ls at hl ⊢
  have hl : lv_has ls 4 [(0, .ref (ad o0)), (1, .int a1)] := hl
  have hb113 : ∀ (k88 : Mm → Nat → Int32 → Int32 → Option (Mm × Int32)) (hk88 : ∀ (M : Mm) (x0 : Nat) (x2 : Int32) (x3 : Int32), k88 M x0 x2 x3 = some res → ∀ (H : Heap) (locs : List Loc) (ls : Array Slot), Wd D cy shM ad nM (Aw ad nM) s.heap M H locs → lv_has ls 4 [(0, .ref (ad x0)), (2, .int x2), (3, .int x3)] → W p l e (headSpec (wU yX7_count cX7_count 4 (some .int)) rmX7_count).room s m args below meth c H locs 0 0 (QI D cy shM ad nM adK adV below args s res) (F0 m 88 ls [])), ∀ (M : Mm) (x0 : Nat) (x3 : Int32) (t0 : Int32) (t1 : Int32), f_X7_count_b113 k88 M x0 x3 t0 t1 = some res → ∀ (H : Heap) (locs : List Loc) (ls : Array Slot), Wd D cy shM ad nM (Aw ad nM) s.heap M H locs → lv_has ls 4 [(0, .ref (ad x0)), (3, .int x3)] → W p l e (headSpec (wU yX7_count cX7_count 4 (some .int)) rmX7_count).room s m args below meth c H locs 0 0 (QI D cy shM ad nM adK adV below args s res) (F0 m 113 ls [.int t1, .int t0]) := by
    intro k88 hk88
    intro M x0 x3 t0 t1 h H locs ls hw hl
    unfold f_X7_count_b113 at h
    refine lv_iadd hx hb dX7_count_113 ?_
    refine lv_istore_n (lv' := [(2, .int (t0 + t1)), (0, .ref (ad x0)), (3, .int x3)]) hx hb dX7_count_114 rfl hl (by decide) rfl (fun ls hl => ?_)
    refine lv_iinc (v := x3 + (1 : Int32)) (lv' := [(3, .int (x3 + (1 : Int32))), (2, .int (t0 + t1)), (0, .ref (ad x0))]) hx hb dX7_count_115 hl (k := 2) rfl (congrArg (fun z => x3 + z) (by decide)) (by decide) rfl (fun ls hl => ?_)
    refine lv_goto (tgt := 88) hx hb dX7_count_118 (by decide) ?_
    exact hk88 _ _ _ _ h _ _ _ hw (lv_sub hl [2, 1, 0] rfl)
  have hb88 : ∀ (nn : Nat), ∀ (M : Mm) (x0 : Nat) (x2 : Int32) (x3 : Int32), f_X7_count_b88 nn M x0 x2 x3 = some res → ∀ (H : Heap) (locs : List Loc) (ls : Array Slot), Wd D cy shM ad nM (Aw ad nM) s.heap M H locs → lv_has ls 4 [(0, .ref (ad x0)), (2, .int x2), (3, .int x3)] → W p l e (headSpec (wU yX7_count cX7_count 4 (some .int)) rmX7_count).room s m args below meth c H locs 0 0 (QI D cy shM ad nM adK adV below args s res) (F0 m 88 ls []) := by
    intro nn
    induction nn with
    | zero => intro M x0 x2 x3 h; simp [f_X7_count_b88] at h
    | succ nn ih =>
      intro M x0 x2 x3 h H locs ls hw hl
      unfold f_X7_count_b88 at h
      refine lv_iload_n hx hb dX7_count_88 rfl (lv_at hl 2 rfl) ?_
      refine lv_bipush (v := (10 : Int32)) hx hb dX7_count_89 (by decide) ?_
      refine lv_icmp_ge (tgt := 121) hx hb dX7_count_91 (by decide) (fun c1 => ?_) (fun c1 => ?_)
      · replace h := if_some_t c1 h
        refine lv_iload_n hx hb dX7_count_121 rfl (lv_at hl 1 rfl) ?_
        exact r_iret hx hb hr rfl hlocks hZ hK hw h dX7_count_122
      · replace h := if_some_f c1 h
        refine lv_iload_n hx hb dX7_count_94 rfl (lv_at hl 1 rfl) ?_
        refine lv_aload_n hx hb dX7_count_95 rfl (lv_at hl 0 rfl) ?_
        replace h := gd_some h
        obtain ⟨g2, h⟩ := h
        replace h := bd_some h
        obtain ⟨q3, eq3, h⟩ := h
        refine r_getR hx hb hts iw7 hown hK hw x0 0 g2 (by decide) rfl (by decide) rfl (hq _ qw888) (fun _ h9 => h9) dX7_count_96 eq3 ?_
        refine lv_bipush (v := (79 : Int32)) hx hb dX7_count_99 (by decide) ?_
        refine lv_iload_n hx hb dX7_count_101 rfl (lv_at hl 2 rfl) ?_
        refine lv_iadd hx hb dX7_count_102 ?_
        replace h := gd_some h
        obtain ⟨g4, h⟩ := h
        refine r_iald hx hb hK hw q3 g4 dX7_count_103 ?_
        refine lv_iconst (v := (-1 : Int32)) hx hb dX7_count_104 (by decide) ?_
        refine lv_icmp_ne (tgt := 112) hx hb dX7_count_105 (by decide) (fun c5 => ?_) (fun c5 => ?_)
        · replace h := if_some_f c5 h
          refine lv_iconst (v := (1 : Int32)) hx hb dX7_count_112 (by decide) ?_
          exact hb113 _ ih _ _ _ _ _ h _ _ _ hw (lv_sub hl [0, 2] rfl)
        · replace h := if_some_t c5 h
          refine lv_iconst (v := (0 : Int32)) hx hb dX7_count_108 (by decide) ?_
          refine lv_goto (tgt := 113) hx hb dX7_count_109 (by decide) ?_
          exact hb113 _ ih _ _ _ _ _ h _ _ _ hw (lv_sub hl [0, 2] rfl)
  unfold f_X7_count at h
  refine lv_iload_n hx hb dX7_count_0 rfl (lv_at hl 1 rfl) ?_
  by_cases s6 : a1 = 0
  · replace h := if_some_t s6 h
    refine lv_tableIn (off := 43) (tgt := 44) hx hb dX7_count_1 (by rw [s6]; decide) (by rw [s6]; decide) (by rw [s6]; decide) (by decide) ?_
    refine lv_aload_n hx hb dX7_count_44 rfl (lv_at hl 0 rfl) ?_
    replace h := gd_some h
    obtain ⟨g7, h⟩ := h
    replace h := bd_some h
    obtain ⟨q8, eq8, h⟩ := h
    refine r_getR hx hb hts iw7 hown hK hw o0 0 g7 (by decide) rfl (by decide) rfl (hq _ qw888) (fun _ h9 => h9) dX7_count_45 eq8 ?_
    refine lv_iconst (v := (0 : Int32)) hx hb dX7_count_48 (by decide) ?_
    replace h := gd_some h
    obtain ⟨g9, h⟩ := h
    refine r_iald hx hb hK hw q8 g9 dX7_count_49 ?_
    exact r_iret hx hb hr rfl hlocks hZ hK hw h dX7_count_50
  replace h := if_some_f s6 h
  by_cases s10 : a1 = 1
  · replace h := if_some_t s10 h
    refine lv_tableIn (off := 50) (tgt := 51) hx hb dX7_count_1 (by rw [s10]; decide) (by rw [s10]; decide) (by rw [s10]; decide) (by decide) ?_
    refine lv_aload_n hx hb dX7_count_51 rfl (lv_at hl 0 rfl) ?_
    replace h := gd_some h
    obtain ⟨g11, h⟩ := h
    replace h := bd_some h
    obtain ⟨q12, eq12, h⟩ := h
    refine r_getR hx hb hts iw7 hown hK hw o0 0 g11 (by decide) rfl (by decide) rfl (hq _ qw888) (fun _ h9 => h9) dX7_count_52 eq12 ?_
    refine lv_iconst (v := (1 : Int32)) hx hb dX7_count_55 (by decide) ?_
    replace h := gd_some h
    obtain ⟨g13, h⟩ := h
    refine r_iald hx hb hK hw q12 g13 dX7_count_56 ?_
    exact r_iret hx hb hr rfl hlocks hZ hK hw h dX7_count_57
  replace h := if_some_f s10 h
  by_cases s14 : a1 = 2
  · replace h := if_some_t s14 h
    refine lv_tableIn (off := 57) (tgt := 58) hx hb dX7_count_1 (by rw [s14]; decide) (by rw [s14]; decide) (by rw [s14]; decide) (by decide) ?_
    refine lv_aload_n hx hb dX7_count_58 rfl (lv_at hl 0 rfl) ?_
    replace h := gd_some h
    obtain ⟨g15, h⟩ := h
    replace h := bd_some h
    obtain ⟨q16, eq16, h⟩ := h
    refine r_getR hx hb hts iw7 hown hK hw o0 0 g15 (by decide) rfl (by decide) rfl (hq _ qw888) (fun _ h9 => h9) dX7_count_59 eq16 ?_
    refine lv_iconst (v := (2 : Int32)) hx hb dX7_count_62 (by decide) ?_
    replace h := gd_some h
    obtain ⟨g17, h⟩ := h
    refine r_iald hx hb hK hw q16 g17 dX7_count_63 ?_
    exact r_iret hx hb hr rfl hlocks hZ hK hw h dX7_count_64
  replace h := if_some_f s14 h
  by_cases s18 : a1 = 3
  · replace h := if_some_t s18 h
    refine lv_tableIn (off := 64) (tgt := 65) hx hb dX7_count_1 (by rw [s18]; decide) (by rw [s18]; decide) (by rw [s18]; decide) (by decide) ?_
    refine lv_aload_n hx hb dX7_count_65 rfl (lv_at hl 0 rfl) ?_
    replace h := gd_some h
    obtain ⟨g19, h⟩ := h
    replace h := bd_some h
    obtain ⟨q20, eq20, h⟩ := h
    refine r_getR hx hb hts iw7 hown hK hw o0 0 g19 (by decide) rfl (by decide) rfl (hq _ qw888) (fun _ h9 => h9) dX7_count_66 eq20 ?_
    refine lv_iconst (v := (3 : Int32)) hx hb dX7_count_69 (by decide) ?_
    replace h := gd_some h
    obtain ⟨g21, h⟩ := h
    refine r_iald hx hb hK hw q20 g21 dX7_count_70 ?_
    exact r_iret hx hb hr rfl hlocks hZ hK hw h dX7_count_71
  replace h := if_some_f s18 h
  by_cases s22 : a1 = 4
  · replace h := if_some_t s22 h
    refine lv_tableIn (off := 71) (tgt := 72) hx hb dX7_count_1 (by rw [s22]; decide) (by rw [s22]; decide) (by rw [s22]; decide) (by decide) ?_
    refine lv_aload_n hx hb dX7_count_72 rfl (lv_at hl 0 rfl) ?_
    replace h := gd_some h
    obtain ⟨g23, h⟩ := h
    refine r_getI hx hb hts iw7 hown hK hw o0 9 g23 (by decide) rfl (by decide) rfl (hq _ qw897) (fun _ h9 => h9) dX7_count_73 ?_
    exact r_iret hx hb hr rfl hlocks hZ hK hw h dX7_count_76
  replace h := if_some_f s22 h
  by_cases s24 : a1 = 5
  · replace h := if_some_t s24 h
    refine lv_tableIn (off := 76) (tgt := 77) hx hb dX7_count_1 (by rw [s24]; decide) (by rw [s24]; decide) (by rw [s24]; decide) (by decide) ?_
    refine lv_aload_n hx hb dX7_count_77 rfl (lv_at hl 0 rfl) ?_
    replace h := gd_some h
    obtain ⟨g25, h⟩ := h
    replace h := bd_some h
    obtain ⟨q26, eq26, h⟩ := h
    refine r_getR hx hb hts iw7 hown hK hw o0 0 g25 (by decide) rfl (by decide) rfl (hq _ qw888) (fun _ h9 => h9) dX7_count_78 eq26 ?_
    refine lv_iconst (v := (4 : Int32)) hx hb dX7_count_81 (by decide) ?_
    replace h := gd_some h
    obtain ⟨g27, h⟩ := h
    refine r_iald hx hb hK hw q26 g27 dX7_count_82 ?_
    exact r_iret hx hb hr rfl hlocks hZ hK hw h dX7_count_83
  replace h := if_some_f s24 h
  by_cases s28 : a1 = 6
  · replace h := if_some_t s28 h
    refine lv_tableIn (off := 83) (tgt := 84) hx hb dX7_count_1 (by rw [s28]; decide) (by rw [s28]; decide) (by rw [s28]; decide) (by decide) ?_
    refine lv_iconst (v := (0 : Int32)) hx hb dX7_count_84 (by decide) ?_
    refine lv_istore_n (lv' := [(2, .int (0 : Int32)), (0, .ref (ad o0)), (1, .int a1)]) hx hb dX7_count_85 rfl hl (by decide) rfl (fun ls hl => ?_)
    refine lv_iconst (v := (0 : Int32)) hx hb dX7_count_86 (by decide) ?_
    refine lv_istore_n (lv' := [(3, .int (0 : Int32)), (2, .int (0 : Int32)), (0, .ref (ad o0)), (1, .int a1)]) hx hb dX7_count_87 rfl hl (by decide) rfl (fun ls hl => ?_)
    exact hb88 1000 _ _ _ _ h _ _ _ hw (lv_sub hl [2, 1, 0] rfl)
  replace h := if_some_f s28 h
  have hout31 : a1.toInt < 0 ∨ 6 < a1.toInt := by
    refine tsw_out (fun cz h1 h2 => ?_)
    rcases (show cz = 0 ∨ cz = 1 ∨ cz = 2 ∨ cz = 3 ∨ cz = 4 ∨ cz = 5 ∨ cz = 6 by omega) with rfl | rfl | rfl | rfl | rfl | rfl | rfl
    · exact fun e9 => s6 (e9.trans (by decide))
    · exact fun e9 => s10 (e9.trans (by decide))
    · exact fun e9 => s14 (e9.trans (by decide))
    · exact fun e9 => s18 (e9.trans (by decide))
    · exact fun e9 => s22 (e9.trans (by decide))
    · exact fun e9 => s24 (e9.trans (by decide))
    · exact fun e9 => s28 (e9.trans (by decide))
  refine lv_tableOut (tgt := 123) hx hb dX7_count_1 hout31 (by decide) ?_
  refine lv_aload_n hx hb dX7_count_123 rfl (lv_at hl 0 rfl) ?_
  refine lv_iconst (v := (0 : Int32)) hx hb dX7_count_124 (by decide) ?_
  replace h := gd_some h
  obtain ⟨g30, h⟩ := h
  replace h := bd_some h
  obtain ⟨r29, er29, h⟩ := h
  refine r_callVi (As := [.int (0 : Int32)]) (rest := []) hF (c_X7_finding l D cy ad adK adV M o0 (0 : Int32) r29 er29) (gW_goodV hcm qw989 qw986 qw988 qw18 qw67) hdX7_finding rfl ⟨Nat.le_of_ble_eq_true rfl, Nat.le_of_ble_eq_true rfl⟩ rfl rfl hZ hK hw g30 (by decide) rfl rfl hl.1 rfl (Nat.le_of_ble_eq_true rfl) ⟨Nat.zero_le _, Nat.zero_le _⟩ dX7_count_125 (fun H locs hw => ?_)
  exact r_iret hx hb hr rfl hlocks hZ hK hw h dX7_count_128
theorem dX7_status_0 : decode cX7_status 0 = .ok (.iload_n 1, 1) := by decide +kernel
theorem dX7_status_1 : decode cX7_status 1 = .ok (.iconst (-1), 1) := by decide +kernel
theorem dX7_status_2 : decode cX7_status 2 = .ok (.bipush 6, 2) := by decide +kernel
theorem dX7_status_4 : decode cX7_status 4 = .ok (.invokestatic 67, 3) := by decide +kernel
theorem dX7_status_7 : decode cX7_status 7 = .ok (.ifCond .ne 9, 3) := by decide +kernel
theorem dX7_status_10 : decode cX7_status 10 = .ok (.aload_n 0, 1) := by decide +kernel
theorem dX7_status_11 : decode cX7_status 11 = .ok (.iconst 0, 1) := by decide +kernel
theorem dX7_status_12 : decode cX7_status 12 = .ok (.invokevirtual 115, 3) := by decide +kernel
theorem dX7_status_15 : decode cX7_status 15 = .ok (.ireturn, 1) := by decide +kernel
theorem dX7_status_16 : decode cX7_status 16 = .ok (.iconst 0, 1) := by decide +kernel
theorem dX7_status_17 : decode cX7_status 17 = .ok (.istore_n 2, 1) := by decide +kernel
theorem dX7_status_18 : decode cX7_status 18 = .ok (.iconst 0, 1) := by decide +kernel
theorem dX7_status_19 : decode cX7_status 19 = .ok (.istore_n 3, 1) := by decide +kernel
theorem dX7_status_20 : decode cX7_status 20 = .ok (.iload_n 3, 1) := by decide +kernel
theorem dX7_status_21 : decode cX7_status 21 = .ok (.bipush 7, 2) := by decide +kernel
theorem dX7_status_23 : decode cX7_status 23 = .ok (.if_icmp .ge 32, 3) := by decide +kernel
theorem dX7_status_26 : decode cX7_status 26 = .ok (.iload_n 2, 1) := by decide +kernel
theorem dX7_status_27 : decode cX7_status 27 = .ok (.iload_n 1, 1) := by decide +kernel
theorem dX7_status_28 : decode cX7_status 28 = .ok (.iconst (-1), 1) := by decide +kernel
theorem dX7_status_29 : decode cX7_status 29 = .ok (.if_icmp .eq 8, 3) := by decide +kernel
theorem dX7_status_32 : decode cX7_status 32 = .ok (.iload_n 1, 1) := by decide +kernel
theorem dX7_status_33 : decode cX7_status 33 = .ok (.iload_n 3, 1) := by decide +kernel
theorem dX7_status_34 : decode cX7_status 34 = .ok (.if_icmp .ne 12, 3) := by decide +kernel
theorem dX7_status_37 : decode cX7_status 37 = .ok (.aload_n 0, 1) := by decide +kernel
theorem dX7_status_38 : decode cX7_status 38 = .ok (.getfield 19, 3) := by decide +kernel
theorem dX7_status_41 : decode cX7_status 41 = .ok (.iload_n 3, 1) := by decide +kernel
theorem dX7_status_42 : decode cX7_status 42 = .ok (.iaload, 1) := by decide +kernel
theorem dX7_status_43 : decode cX7_status 43 = .ok (.goto 4, 3) := by decide +kernel
theorem dX7_status_46 : decode cX7_status 46 = .ok (.iconst 0, 1) := by decide +kernel
theorem dX7_status_47 : decode cX7_status 47 = .ok (.iadd, 1) := by decide +kernel
theorem dX7_status_48 : decode cX7_status 48 = .ok (.istore_n 2, 1) := by decide +kernel
theorem dX7_status_49 : decode cX7_status 49 = .ok (.iinc 3 1, 3) := by decide +kernel
theorem dX7_status_52 : decode cX7_status 52 = .ok (.goto (-32), 3) := by decide +kernel
theorem dX7_status_55 : decode cX7_status 55 = .ok (.iload_n 2, 1) := by decide +kernel
theorem dX7_status_56 : decode cX7_status 56 = .ok (.ireturn, 1) := by decide +kernel
set_option maxHeartbeats 4000000 in
set_option maxRecDepth 100000 in
theorem c_X7_status (l : Launch) (D : va_G) (cy : Nat → ClassId) (ad adK adV : Nat → Nat) (M : Mm) (o0 : Nat) (a1 : Int32) (res : Mm × Int32) (h : f_X7_status M o0 a1 = some res) : Met l yX7_status (wU yX7_status cX7_status 4 (some .int)) rmX7_status (va_Pc [.ref (ad o0), .int a1] (Pre D cy shM ad nM adK adV M)) (va_Qi (fun r (M2 : Mm) => r = res.2 ∧ M2 = res.1) (Pre D cy shM ad nM adK adV) (Aw ad nM)) 0 0 (Aw ad nM) := by
  refine Met.ofW (cc := cX7_status) (maxL := 4) (ret := (some .int)) (by decide) rfl ?_
  intro p e s m args below meth c s₁ B hml hv
  obtain ⟨hargs, hPre⟩ := hv
  have hx := B.exec
  have hb := B.bytes
  have hr := B.returns
  have hts := atoms_spec (ws := wU yX7_status cX7_status 4 (some .int)) B.pre
  have hq : ∀ w ∈ gW, w.before args s = true := fun w hw => hts w (List.mem_cons_of_mem _ hw)
  have hcm : ∀ w ∈ gW, w ∈ wU yX7_status cX7_status 4 (some .int) := fun w hw => List.mem_cons_of_mem _ hw
  have hown : s.vm.findClass RX7 = some m.cls := findClass_of_methodNamed B.named
  have hlocks := B.notSynchronized
  have hF : CallFix p m c cX7_status 4 s args (wU yX7_status cX7_status 4 (some .int)) RX7 := ⟨hx, hb, hml, hown, hts⟩
  have hK := hPre.2.1
  have hZ := hPre.2.2.2
  have hw : Wd D cy shM ad nM (Aw ad nM) s.heap M s.heap [] := ⟨hPre.1, hPre.2.2.1, va_S.rf⟩
  have iw7 : ∀ w ∈ u_ws RX7 TX7 30, w ∈ wU yX7_status cX7_status 4 (some .int) := fun w hw => List.mem_cons_of_mem _ (iX7 w hw)
  rw [show entryFrame m args 4 = entryFrame m ([.ref (ad o0), .int a1] : List Value).toArray 4 from by rw [hargs]]
  have hl := lv_entry ([.ref (ad o0), .int a1]) (n := 4) (Nat.le_of_ble_eq_true rfl)
  rw [lg_entry_eq]
  generalize (lg_sl ([.ref (ad o0), .int a1]) ++ List.replicate (4 - (lg_sl ([.ref (ad o0), .int a1])).length) Slot.unset).toArray = ls at hl ⊢
  have hl : lv_has ls 4 [(0, .ref (ad o0)), (1, .int a1)] := hl
  have hb47 : ∀ (k20 : Mm → Nat → Int32 → Int32 → Int32 → Option (Mm × Int32)) (hk20 : ∀ (M : Mm) (x0 : Nat) (x1 : Int32) (x2 : Int32) (x3 : Int32), k20 M x0 x1 x2 x3 = some res → ∀ (H : Heap) (locs : List Loc) (ls : Array Slot), Wd D cy shM ad nM (Aw ad nM) s.heap M H locs → lv_has ls 4 [(0, .ref (ad x0)), (1, .int x1), (2, .int x2), (3, .int x3)] → W p l e (headSpec (wU yX7_status cX7_status 4 (some .int)) rmX7_status).room s m args below meth c H locs 0 0 (QI D cy shM ad nM adK adV below args s res) (F0 m 20 ls [])), ∀ (M : Mm) (x0 : Nat) (x1 : Int32) (x3 : Int32) (t0 : Int32) (t1 : Int32), f_X7_status_b47 k20 M x0 x1 x3 t0 t1 = some res → ∀ (H : Heap) (locs : List Loc) (ls : Array Slot), Wd D cy shM ad nM (Aw ad nM) s.heap M H locs → lv_has ls 4 [(0, .ref (ad x0)), (1, .int x1), (3, .int x3)] → W p l e (headSpec (wU yX7_status cX7_status 4 (some .int)) rmX7_status).room s m args below meth c H locs 0 0 (QI D cy shM ad nM adK adV below args s res) (F0 m 47 ls [.int t1, .int t0]) := by
    intro k20 hk20
    intro M x0 x1 x3 t0 t1 h H locs ls hw hl
    unfold f_X7_status_b47 at h
    refine lv_iadd hx hb dX7_status_47 ?_
    refine lv_istore_n (lv' := [(2, .int (t0 + t1)), (0, .ref (ad x0)), (1, .int x1), (3, .int x3)]) hx hb dX7_status_48 rfl hl (by decide) rfl (fun ls hl => ?_)
    refine lv_iinc (v := x3 + (1 : Int32)) (lv' := [(3, .int (x3 + (1 : Int32))), (2, .int (t0 + t1)), (0, .ref (ad x0)), (1, .int x1)]) hx hb dX7_status_49 hl (k := 3) rfl (congrArg (fun z => x3 + z) (by decide)) (by decide) rfl (fun ls hl => ?_)
    refine lv_goto (tgt := 20) hx hb dX7_status_52 (by decide) ?_
    exact hk20 _ _ _ _ _ h _ _ _ hw (lv_sub hl [2, 3, 1, 0] rfl)
  have hb37 : ∀ (k20 : Mm → Nat → Int32 → Int32 → Int32 → Option (Mm × Int32)) (hk20 : ∀ (M : Mm) (x0 : Nat) (x1 : Int32) (x2 : Int32) (x3 : Int32), k20 M x0 x1 x2 x3 = some res → ∀ (H : Heap) (locs : List Loc) (ls : Array Slot), Wd D cy shM ad nM (Aw ad nM) s.heap M H locs → lv_has ls 4 [(0, .ref (ad x0)), (1, .int x1), (2, .int x2), (3, .int x3)] → W p l e (headSpec (wU yX7_status cX7_status 4 (some .int)) rmX7_status).room s m args below meth c H locs 0 0 (QI D cy shM ad nM adK adV below args s res) (F0 m 20 ls [])), ∀ (M : Mm) (x0 : Nat) (x1 : Int32) (x3 : Int32) (t0 : Int32), f_X7_status_b37 k20 M x0 x1 x3 t0 = some res → ∀ (H : Heap) (locs : List Loc) (ls : Array Slot), Wd D cy shM ad nM (Aw ad nM) s.heap M H locs → lv_has ls 4 [(0, .ref (ad x0)), (1, .int x1), (3, .int x3)] → W p l e (headSpec (wU yX7_status cX7_status 4 (some .int)) rmX7_status).room s m args below meth c H locs 0 0 (QI D cy shM ad nM adK adV below args s res) (F0 m 37 ls [.int t0]) := by
    intro k20 hk20
    intro M x0 x1 x3 t0 h H locs ls hw hl
    unfold f_X7_status_b37 at h
    refine lv_aload_n hx hb dX7_status_37 rfl (lv_at hl 0 rfl) ?_
    replace h := gd_some h
    obtain ⟨g1, h⟩ := h
    replace h := bd_some h
    obtain ⟨q2, eq2, h⟩ := h
    refine r_getR hx hb hts iw7 hown hK hw x0 4 g1 (by decide) rfl (by decide) rfl (hq _ qw892) (fun _ h9 => h9) dX7_status_38 eq2 ?_
    refine lv_iload_n hx hb dX7_status_41 rfl (lv_at hl 2 rfl) ?_
    replace h := gd_some h
    obtain ⟨g3, h⟩ := h
    refine r_iald hx hb hK hw q2 g3 dX7_status_42 ?_
    refine lv_goto (tgt := 47) hx hb dX7_status_43 (by decide) ?_
    exact hb47 _ hk20 _ _ _ _ _ _ h _ _ _ hw (lv_sub hl [0, 1, 2] rfl)
  have hb20 : ∀ (nn : Nat), ∀ (M : Mm) (x0 : Nat) (x1 : Int32) (x2 : Int32) (x3 : Int32), f_X7_status_b20 nn M x0 x1 x2 x3 = some res → ∀ (H : Heap) (locs : List Loc) (ls : Array Slot), Wd D cy shM ad nM (Aw ad nM) s.heap M H locs → lv_has ls 4 [(0, .ref (ad x0)), (1, .int x1), (2, .int x2), (3, .int x3)] → W p l e (headSpec (wU yX7_status cX7_status 4 (some .int)) rmX7_status).room s m args below meth c H locs 0 0 (QI D cy shM ad nM adK adV below args s res) (F0 m 20 ls []) := by
    intro nn
    induction nn with
    | zero => intro M x0 x1 x2 x3 h; simp [f_X7_status_b20] at h
    | succ nn ih =>
      intro M x0 x1 x2 x3 h H locs ls hw hl
      unfold f_X7_status_b20 at h
      refine lv_iload_n hx hb dX7_status_20 rfl (lv_at hl 3 rfl) ?_
      refine lv_bipush (v := (7 : Int32)) hx hb dX7_status_21 (by decide) ?_
      refine lv_icmp_ge (tgt := 55) hx hb dX7_status_23 (by decide) (fun c4 => ?_) (fun c4 => ?_)
      · replace h := if_some_t c4 h
        refine lv_iload_n hx hb dX7_status_55 rfl (lv_at hl 2 rfl) ?_
        exact r_iret hx hb hr rfl hlocks hZ hK hw h dX7_status_56
      · replace h := if_some_f c4 h
        refine lv_iload_n hx hb dX7_status_26 rfl (lv_at hl 2 rfl) ?_
        refine lv_iload_n hx hb dX7_status_27 rfl (lv_at hl 1 rfl) ?_
        refine lv_iconst (v := (-1 : Int32)) hx hb dX7_status_28 (by decide) ?_
        refine lv_icmp_eq (tgt := 37) hx hb dX7_status_29 (by decide) (fun c5 => ?_) (fun c5 => ?_)
        · replace h := if_some_t c5 h
          exact hb37 _ ih _ _ _ _ _ h _ _ _ hw (lv_sub hl [0, 1, 3] rfl)
        · replace h := if_some_f c5 h
          refine lv_iload_n hx hb dX7_status_32 rfl (lv_at hl 1 rfl) ?_
          refine lv_iload_n hx hb dX7_status_33 rfl (lv_at hl 3 rfl) ?_
          refine lv_icmp_ne (tgt := 46) hx hb dX7_status_34 (by decide) (fun c6 => ?_) (fun c6 => ?_)
          · replace h := if_some_f c6 h
            refine lv_iconst (v := (0 : Int32)) hx hb dX7_status_46 (by decide) ?_
            exact hb47 _ ih _ _ _ _ _ _ h _ _ _ hw (lv_sub hl [0, 1, 3] rfl)
          · replace h := if_some_t c6 h
            exact hb37 _ ih _ _ _ _ _ h _ _ _ hw (lv_sub hl [0, 1, 3] rfl)
  unfold f_X7_status at h
  refine lv_iload_n hx hb dX7_status_0 rfl (lv_at hl 1 rfl) ?_
  refine lv_iconst (v := (-1 : Int32)) hx hb dX7_status_1 (by decide) ?_
  refine lv_bipush (v := (6 : Int32)) hx hb dX7_status_2 (by decide) ?_
  replace h := bd_some h
  obtain ⟨r7, er7, h⟩ := h
  refine r_callSi (As := [.int a1, .int (-1 : Int32), .int (6 : Int32)]) (rest := []) hF (c_X7_in l D cy ad adK adV M a1 (-1 : Int32) (6 : Int32) r7 er7) (gW_goodS hcm qw985 qw983 qw984 qw67) hdX7_in ⟨Nat.le_of_ble_eq_true rfl, Nat.le_of_ble_eq_true rfl⟩ rfl rfl hZ hK hw rfl hl.1 rfl (Nat.le_of_ble_eq_true rfl) ⟨Nat.zero_le _, Nat.zero_le _⟩ dX7_status_4 (fun H locs hw => ?_)
  refine lv_if_ne (tgt := 16) hx hb dX7_status_7 (by decide) (fun c8 => ?_) (fun c8 => ?_)
  · replace h := if_some_f c8 h
    refine lv_iconst (v := (0 : Int32)) hx hb dX7_status_16 (by decide) ?_
    refine lv_istore_n (lv' := [(2, .int (0 : Int32)), (0, .ref (ad o0)), (1, .int a1)]) hx hb dX7_status_17 rfl hl (by decide) rfl (fun ls hl => ?_)
    refine lv_iconst (v := (0 : Int32)) hx hb dX7_status_18 (by decide) ?_
    refine lv_istore_n (lv' := [(3, .int (0 : Int32)), (2, .int (0 : Int32)), (0, .ref (ad o0)), (1, .int a1)]) hx hb dX7_status_19 rfl hl (by decide) rfl (fun ls hl => ?_)
    exact hb20 1000 _ _ _ _ _ h _ _ _ hw (lv_sub hl [2, 3, 1, 0] rfl)
  · replace h := if_some_t c8 h
    refine lv_aload_n hx hb dX7_status_10 rfl (lv_at hl 0 rfl) ?_
    refine lv_iconst (v := (0 : Int32)) hx hb dX7_status_11 (by decide) ?_
    replace h := gd_some h
    obtain ⟨g10, h⟩ := h
    replace h := bd_some h
    obtain ⟨r9, er9, h⟩ := h
    refine r_callVi (As := [.int (0 : Int32)]) (rest := []) hF (c_X7_finding l D cy ad adK adV r7.1 o0 (0 : Int32) r9 er9) (gW_goodV hcm qw989 qw986 qw988 qw18 qw67) hdX7_finding rfl ⟨Nat.le_of_ble_eq_true rfl, Nat.le_of_ble_eq_true rfl⟩ rfl rfl hZ hK hw g10 (by decide) rfl rfl hl.1 rfl (Nat.le_of_ble_eq_true rfl) ⟨Nat.zero_le _, Nat.zero_le _⟩ dX7_status_12 (fun H locs hw => ?_)
    exact r_iret hx hb hr rfl hlocks hZ hK hw h dX7_status_15

theorem dX7_nextToken_0 : decode cX7_nextToken 0 = .ok (.aload_n 0, 1) := by decide +kernel
theorem dX7_nextToken_1 : decode cX7_nextToken 1 = .ok (.aload_n 0, 1) := by decide +kernel
theorem dX7_nextToken_2 : decode cX7_nextToken 2 = .ok (.getfield 141, 3) := by decide +kernel
theorem dX7_nextToken_5 : decode cX7_nextToken 5 = .ok (.invokevirtual 144, 3) := by decide +kernel
theorem dX7_nextToken_8 : decode cX7_nextToken 8 = .ok (.bipush 32, 2) := by decide +kernel
theorem dX7_nextToken_10 : decode cX7_nextToken 10 = .ok (.if_icmp .ne 16, 3) := by decide +kernel
theorem dX7_nextToken_13 : decode cX7_nextToken 13 = .ok (.aload_n 0, 1) := by decide +kernel
theorem dX7_nextToken_14 : decode cX7_nextToken 14 = .ok (.dup, 1) := by decide +kernel
theorem dX7_nextToken_15 : decode cX7_nextToken 15 = .ok (.getfield 141, 3) := by decide +kernel
theorem dX7_nextToken_18 : decode cX7_nextToken 18 = .ok (.iconst 1, 1) := by decide +kernel
theorem dX7_nextToken_19 : decode cX7_nextToken 19 = .ok (.iadd, 1) := by decide +kernel
theorem dX7_nextToken_20 : decode cX7_nextToken 20 = .ok (.putfield 141, 3) := by decide +kernel
theorem dX7_nextToken_23 : decode cX7_nextToken 23 = .ok (.goto (-23), 3) := by decide +kernel
theorem dX7_nextToken_26 : decode cX7_nextToken 26 = .ok (.aload_n 0, 1) := by decide +kernel
theorem dX7_nextToken_27 : decode cX7_nextToken 27 = .ok (.aload_n 0, 1) := by decide +kernel
theorem dX7_nextToken_28 : decode cX7_nextToken 28 = .ok (.getfield 141, 3) := by decide +kernel
theorem dX7_nextToken_31 : decode cX7_nextToken 31 = .ok (.putfield 147, 3) := by decide +kernel
theorem dX7_nextToken_34 : decode cX7_nextToken 34 = .ok (.aload_n 0, 1) := by decide +kernel
theorem dX7_nextToken_35 : decode cX7_nextToken 35 = .ok (.aload_n 0, 1) := by decide +kernel
theorem dX7_nextToken_36 : decode cX7_nextToken 36 = .ok (.getfield 141, 3) := by decide +kernel
theorem dX7_nextToken_39 : decode cX7_nextToken 39 = .ok (.invokevirtual 144, 3) := by decide +kernel
theorem dX7_nextToken_42 : decode cX7_nextToken 42 = .ok (.istore_n 1, 1) := by decide +kernel
theorem dX7_nextToken_43 : decode cX7_nextToken 43 = .ok (.iload_n 1, 1) := by decide +kernel
theorem dX7_nextToken_44 : decode cX7_nextToken 44 = .ok (.ifCond .ge 11, 3) := by decide +kernel
theorem dX7_nextToken_47 : decode cX7_nextToken 47 = .ok (.aload_n 0, 1) := by decide +kernel
theorem dX7_nextToken_48 : decode cX7_nextToken 48 = .ok (.iconst 0, 1) := by decide +kernel
theorem dX7_nextToken_49 : decode cX7_nextToken 49 = .ok (.putfield 150, 3) := by decide +kernel
theorem dX7_nextToken_52 : decode cX7_nextToken 52 = .ok (.goto 167, 3) := by decide +kernel
theorem dX7_nextToken_55 : decode cX7_nextToken 55 = .ok (.iload_n 1, 1) := by decide +kernel
theorem dX7_nextToken_56 : decode cX7_nextToken 56 = .ok (.bipush 97, 2) := by decide +kernel
theorem dX7_nextToken_58 : decode cX7_nextToken 58 = .ok (.bipush 122, 2) := by decide +kernel
theorem dX7_nextToken_60 : decode cX7_nextToken 60 = .ok (.invokestatic 67, 3) := by decide +kernel
theorem dX7_nextToken_63 : decode cX7_nextToken 63 = .ok (.ifCond .eq 39, 3) := by decide +kernel
theorem dX7_nextToken_66 : decode cX7_nextToken 66 = .ok (.aload_n 0, 1) := by decide +kernel
theorem dX7_nextToken_67 : decode cX7_nextToken 67 = .ok (.iconst 1, 1) := by decide +kernel
theorem dX7_nextToken_68 : decode cX7_nextToken 68 = .ok (.putfield 150, 3) := by decide +kernel
theorem dX7_nextToken_71 : decode cX7_nextToken 71 = .ok (.aload_n 0, 1) := by decide +kernel
theorem dX7_nextToken_72 : decode cX7_nextToken 72 = .ok (.aload_n 0, 1) := by decide +kernel
theorem dX7_nextToken_73 : decode cX7_nextToken 73 = .ok (.getfield 141, 3) := by decide +kernel
theorem dX7_nextToken_76 : decode cX7_nextToken 76 = .ok (.invokevirtual 144, 3) := by decide +kernel
theorem dX7_nextToken_79 : decode cX7_nextToken 79 = .ok (.bipush 97, 2) := by decide +kernel
theorem dX7_nextToken_81 : decode cX7_nextToken 81 = .ok (.bipush 122, 2) := by decide +kernel
theorem dX7_nextToken_83 : decode cX7_nextToken 83 = .ok (.invokestatic 67, 3) := by decide +kernel
theorem dX7_nextToken_86 : decode cX7_nextToken 86 = .ok (.ifCond .eq 133, 3) := by decide +kernel
theorem dX7_nextToken_89 : decode cX7_nextToken 89 = .ok (.aload_n 0, 1) := by decide +kernel
theorem dX7_nextToken_90 : decode cX7_nextToken 90 = .ok (.dup, 1) := by decide +kernel
theorem dX7_nextToken_91 : decode cX7_nextToken 91 = .ok (.getfield 141, 3) := by decide +kernel
theorem dX7_nextToken_94 : decode cX7_nextToken 94 = .ok (.iconst 1, 1) := by decide +kernel
theorem dX7_nextToken_95 : decode cX7_nextToken 95 = .ok (.iadd, 1) := by decide +kernel
theorem dX7_nextToken_96 : decode cX7_nextToken 96 = .ok (.putfield 141, 3) := by decide +kernel
theorem dX7_nextToken_99 : decode cX7_nextToken 99 = .ok (.goto (-28), 3) := by decide +kernel
theorem dX7_nextToken_102 : decode cX7_nextToken 102 = .ok (.iload_n 1, 1) := by decide +kernel
theorem dX7_nextToken_103 : decode cX7_nextToken 103 = .ok (.bipush 48, 2) := by decide +kernel
theorem dX7_nextToken_105 : decode cX7_nextToken 105 = .ok (.bipush 57, 2) := by decide +kernel
theorem dX7_nextToken_107 : decode cX7_nextToken 107 = .ok (.invokestatic 67, 3) := by decide +kernel
theorem dX7_nextToken_110 : decode cX7_nextToken 110 = .ok (.ifCond .eq 84, 3) := by decide +kernel
theorem dX7_nextToken_113 : decode cX7_nextToken 113 = .ok (.aload_n 0, 1) := by decide +kernel
theorem dX7_nextToken_114 : decode cX7_nextToken 114 = .ok (.iconst 2, 1) := by decide +kernel
theorem dX7_nextToken_115 : decode cX7_nextToken 115 = .ok (.putfield 150, 3) := by decide +kernel
theorem dX7_nextToken_118 : decode cX7_nextToken 118 = .ok (.aload_n 0, 1) := by decide +kernel
theorem dX7_nextToken_119 : decode cX7_nextToken 119 = .ok (.iconst 0, 1) := by decide +kernel
theorem dX7_nextToken_120 : decode cX7_nextToken 120 = .ok (.putfield 153, 3) := by decide +kernel
theorem dX7_nextToken_123 : decode cX7_nextToken 123 = .ok (.aload_n 0, 1) := by decide +kernel
theorem dX7_nextToken_124 : decode cX7_nextToken 124 = .ok (.aload_n 0, 1) := by decide +kernel
theorem dX7_nextToken_125 : decode cX7_nextToken 125 = .ok (.getfield 141, 3) := by decide +kernel
theorem dX7_nextToken_128 : decode cX7_nextToken 128 = .ok (.invokevirtual 144, 3) := by decide +kernel
theorem dX7_nextToken_131 : decode cX7_nextToken 131 = .ok (.bipush 48, 2) := by decide +kernel
theorem dX7_nextToken_133 : decode cX7_nextToken 133 = .ok (.bipush 57, 2) := by decide +kernel
theorem dX7_nextToken_135 : decode cX7_nextToken 135 = .ok (.invokestatic 67, 3) := by decide +kernel
theorem dX7_nextToken_138 : decode cX7_nextToken 138 = .ok (.ifCond .eq 81, 3) := by decide +kernel
theorem dX7_nextToken_141 : decode cX7_nextToken 141 = .ok (.aload_n 0, 1) := by decide +kernel
theorem dX7_nextToken_142 : decode cX7_nextToken 142 = .ok (.aload_n 0, 1) := by decide +kernel
theorem dX7_nextToken_143 : decode cX7_nextToken 143 = .ok (.getfield 153, 3) := by decide +kernel
theorem dX7_nextToken_146 : decode cX7_nextToken 146 = .ok (.sipush 999, 3) := by decide +kernel
theorem dX7_nextToken_149 : decode cX7_nextToken 149 = .ok (.if_icmp .le 10, 3) := by decide +kernel
theorem dX7_nextToken_152 : decode cX7_nextToken 152 = .ok (.aload_n 0, 1) := by decide +kernel
theorem dX7_nextToken_153 : decode cX7_nextToken 153 = .ok (.getfield 153, 3) := by decide +kernel
theorem dX7_nextToken_156 : decode cX7_nextToken 156 = .ok (.goto 22, 3) := by decide +kernel
theorem dX7_nextToken_159 : decode cX7_nextToken 159 = .ok (.bipush 10, 2) := by decide +kernel
theorem dX7_nextToken_161 : decode cX7_nextToken 161 = .ok (.aload_n 0, 1) := by decide +kernel
theorem dX7_nextToken_162 : decode cX7_nextToken 162 = .ok (.getfield 153, 3) := by decide +kernel
theorem dX7_nextToken_165 : decode cX7_nextToken 165 = .ok (.imul, 1) := by decide +kernel
theorem dX7_nextToken_166 : decode cX7_nextToken 166 = .ok (.aload_n 0, 1) := by decide +kernel
theorem dX7_nextToken_167 : decode cX7_nextToken 167 = .ok (.aload_n 0, 1) := by decide +kernel
theorem dX7_nextToken_168 : decode cX7_nextToken 168 = .ok (.getfield 141, 3) := by decide +kernel
theorem dX7_nextToken_171 : decode cX7_nextToken 171 = .ok (.invokevirtual 144, 3) := by decide +kernel
theorem dX7_nextToken_174 : decode cX7_nextToken 174 = .ok (.iadd, 1) := by decide +kernel
theorem dX7_nextToken_175 : decode cX7_nextToken 175 = .ok (.bipush 48, 2) := by decide +kernel
theorem dX7_nextToken_177 : decode cX7_nextToken 177 = .ok (.isub, 1) := by decide +kernel
theorem dX7_nextToken_178 : decode cX7_nextToken 178 = .ok (.putfield 153, 3) := by decide +kernel
theorem dX7_nextToken_181 : decode cX7_nextToken 181 = .ok (.aload_n 0, 1) := by decide +kernel
theorem dX7_nextToken_182 : decode cX7_nextToken 182 = .ok (.dup, 1) := by decide +kernel
theorem dX7_nextToken_183 : decode cX7_nextToken 183 = .ok (.getfield 141, 3) := by decide +kernel
theorem dX7_nextToken_186 : decode cX7_nextToken 186 = .ok (.iconst 1, 1) := by decide +kernel
theorem dX7_nextToken_187 : decode cX7_nextToken 187 = .ok (.iadd, 1) := by decide +kernel
theorem dX7_nextToken_188 : decode cX7_nextToken 188 = .ok (.putfield 141, 3) := by decide +kernel
theorem dX7_nextToken_191 : decode cX7_nextToken 191 = .ok (.goto (-68), 3) := by decide +kernel
theorem dX7_nextToken_194 : decode cX7_nextToken 194 = .ok (.aload_n 0, 1) := by decide +kernel
theorem dX7_nextToken_195 : decode cX7_nextToken 195 = .ok (.iload_n 1, 1) := by decide +kernel
theorem dX7_nextToken_196 : decode cX7_nextToken 196 = .ok (.bipush 59, 2) := by decide +kernel
theorem dX7_nextToken_198 : decode cX7_nextToken 198 = .ok (.if_icmp .ne 7, 3) := by decide +kernel
theorem dX7_nextToken_201 : decode cX7_nextToken 201 = .ok (.iconst 3, 1) := by decide +kernel
theorem dX7_nextToken_202 : decode cX7_nextToken 202 = .ok (.goto 4, 3) := by decide +kernel
theorem dX7_nextToken_205 : decode cX7_nextToken 205 = .ok (.iconst 4, 1) := by decide +kernel
theorem dX7_nextToken_206 : decode cX7_nextToken 206 = .ok (.putfield 150, 3) := by decide +kernel
theorem dX7_nextToken_209 : decode cX7_nextToken 209 = .ok (.aload_n 0, 1) := by decide +kernel
theorem dX7_nextToken_210 : decode cX7_nextToken 210 = .ok (.dup, 1) := by decide +kernel
theorem dX7_nextToken_211 : decode cX7_nextToken 211 = .ok (.getfield 141, 3) := by decide +kernel
theorem dX7_nextToken_214 : decode cX7_nextToken 214 = .ok (.iconst 1, 1) := by decide +kernel
theorem dX7_nextToken_215 : decode cX7_nextToken 215 = .ok (.iadd, 1) := by decide +kernel
theorem dX7_nextToken_216 : decode cX7_nextToken 216 = .ok (.putfield 141, 3) := by decide +kernel
theorem dX7_nextToken_219 : decode cX7_nextToken 219 = .ok (.return_, 1) := by decide +kernel
set_option maxHeartbeats 4000000 in
set_option maxRecDepth 100000 in
theorem c_X7_nextToken (l : Launch) (D : va_G) (cy : Nat → ClassId) (ad adK adV : Nat → Nat) (M : Mm) (o0 : Nat) (res : Mm × Unit) (h : f_X7_nextToken M o0 = some res) : Met l yX7_nextToken (wU yX7_nextToken cX7_nextToken 2 none) rmX7_nextToken (va_Pc [.ref (ad o0)] (Pre D cy shM ad nM adK adV M)) (va_Qv (fun (M2 : Mm) => M2 = res.1) (Pre D cy shM ad nM adK adV) (Aw ad nM)) 0 0 (Aw ad nM) := by
  refine Met.ofW (cc := cX7_nextToken) (maxL := 2) (ret := none) (by decide) rfl ?_
  intro p e s m args below meth c s₁ B hml hv
  obtain ⟨hargs, hPre⟩ := hv
  have hx := B.exec
  have hb := B.bytes
  have hr := B.returns
  have hts := atoms_spec (ws := wU yX7_nextToken cX7_nextToken 2 none) B.pre
  have hq : ∀ w ∈ gW, w.before args s = true := fun w hw => hts w (List.mem_cons_of_mem _ hw)
  have hcm : ∀ w ∈ gW, w ∈ wU yX7_nextToken cX7_nextToken 2 none := fun w hw => List.mem_cons_of_mem _ hw
  have hown : s.vm.findClass RX7 = some m.cls := findClass_of_methodNamed B.named
  have hlocks := B.notSynchronized
  have hF : CallFix p m c cX7_nextToken 2 s args (wU yX7_nextToken cX7_nextToken 2 none) RX7 := ⟨hx, hb, hml, hown, hts⟩
  have hK := hPre.2.1
  have hZ := hPre.2.2.2
  have hw : Wd D cy shM ad nM (Aw ad nM) s.heap M s.heap [] := ⟨hPre.1, hPre.2.2.1, va_S.rf⟩
  have iw7 : ∀ w ∈ u_ws RX7 TX7 30, w ∈ wU yX7_nextToken cX7_nextToken 2 none := fun w hw => List.mem_cons_of_mem _ (iX7 w hw)
  rw [show entryFrame m args 2 = entryFrame m ([.ref (ad o0)] : List Value).toArray 2 from by rw [hargs]]
  have hl := lv_entry ([.ref (ad o0)]) (n := 2) (Nat.le_of_ble_eq_true rfl)
  rw [lg_entry_eq]
  generalize (lg_sl ([.ref (ad o0)]) ++ List.replicate (2 - (lg_sl ([.ref (ad o0)])).length) Slot.unset).toArray = ls at hl ⊢
  have hl : lv_has ls 2 [(0, .ref (ad o0))] := hl
  have hb206 : ∀ (M : Mm) (x0 : Nat) (t0 : Nat) (t1 : Int32), f_X7_nextToken_b206 M x0 t0 t1 = some res → ∀ (H : Heap) (locs : List Loc) (ls : Array Slot), Wd D cy shM ad nM (Aw ad nM) s.heap M H locs → lv_has ls 2 [(0, .ref (ad x0))] → W p l e (headSpec (wU yX7_nextToken cX7_nextToken 2 none) rmX7_nextToken).room s m args below meth c H locs 0 0 (QV D cy shM ad nM adK adV below args s res) (F0 m 206 ls [.int t1, .ref (ad t0)]) := by
    intro M x0 t0 t1 h H locs ls hw hl
    unfold f_X7_nextToken_b206 at h
    replace h := gd_some h
    obtain ⟨g1, h⟩ := h
    refine r_putI hx hb hts iw7 tyX7 tyX7_ok nmX7 hown hK hw t0 11 g1 (by decide) rfl (by decide) rfl (hq _ qw899) (fun _ h9 => h9) rfl rfl rfl dX7_nextToken_206 (fun H locs hw => ?_)
    replace h := lt_some h
    obtain ⟨M2, eM2, h⟩ := h
    rw [← eM2] at hw
    refine lv_aload_n hx hb dX7_nextToken_209 rfl (lv_at hl 0 rfl) ?_
    refine lv_dup hx hb dX7_nextToken_210 rfl ?_
    replace h := gd_some h
    obtain ⟨g3, h⟩ := h
    refine r_getI hx hb hts iw7 hown hK hw x0 10 g3 (by decide) rfl (by decide) rfl (hq _ qw898) (fun _ h9 => h9) dX7_nextToken_211 ?_
    refine lv_iconst (v := (1 : Int32)) hx hb dX7_nextToken_214 (by decide) ?_
    refine lv_iadd hx hb dX7_nextToken_215 ?_
    refine r_putI hx hb hts iw7 tyX7 tyX7_ok nmX7 hown hK hw x0 10 g3 (by decide) rfl (by decide) rfl (hq _ qw898) (fun _ h9 => h9) rfl rfl rfl dX7_nextToken_216 (fun H locs hw => ?_)
    replace h := lt_some h
    obtain ⟨M4, eM4, h⟩ := h
    rw [← eM4] at hw
    exact r_vret hx hb hr hlocks hZ hK hw h dX7_nextToken_219
  have hb178 : ∀ (k123 : Mm → Nat → Option (Mm × Unit)) (hk123 : ∀ (M : Mm) (x0 : Nat), k123 M x0 = some res → ∀ (H : Heap) (locs : List Loc) (ls : Array Slot), Wd D cy shM ad nM (Aw ad nM) s.heap M H locs → lv_has ls 2 [(0, .ref (ad x0))] → W p l e (headSpec (wU yX7_nextToken cX7_nextToken 2 none) rmX7_nextToken).room s m args below meth c H locs 0 0 (QV D cy shM ad nM adK adV below args s res) (F0 m 123 ls [])), ∀ (M : Mm) (x0 : Nat) (t0 : Nat) (t1 : Int32), f_X7_nextToken_b178 k123 M x0 t0 t1 = some res → ∀ (H : Heap) (locs : List Loc) (ls : Array Slot), Wd D cy shM ad nM (Aw ad nM) s.heap M H locs → lv_has ls 2 [(0, .ref (ad x0))] → W p l e (headSpec (wU yX7_nextToken cX7_nextToken 2 none) rmX7_nextToken).room s m args below meth c H locs 0 0 (QV D cy shM ad nM adK adV below args s res) (F0 m 178 ls [.int t1, .ref (ad t0)]) := by
    intro k123 hk123
    intro M x0 t0 t1 h H locs ls hw hl
    unfold f_X7_nextToken_b178 at h
    replace h := gd_some h
    obtain ⟨g5, h⟩ := h
    refine r_putI hx hb hts iw7 tyX7 tyX7_ok nmX7 hown hK hw t0 13 g5 (by decide) rfl (by decide) rfl (hq _ qw901) (fun _ h9 => h9) rfl rfl rfl dX7_nextToken_178 (fun H locs hw => ?_)
    replace h := lt_some h
    obtain ⟨M6, eM6, h⟩ := h
    rw [← eM6] at hw
    refine lv_aload_n hx hb dX7_nextToken_181 rfl (lv_at hl 0 rfl) ?_
    refine lv_dup hx hb dX7_nextToken_182 rfl ?_
    replace h := gd_some h
    obtain ⟨g7, h⟩ := h
    refine r_getI hx hb hts iw7 hown hK hw x0 10 g7 (by decide) rfl (by decide) rfl (hq _ qw898) (fun _ h9 => h9) dX7_nextToken_183 ?_
    refine lv_iconst (v := (1 : Int32)) hx hb dX7_nextToken_186 (by decide) ?_
    refine lv_iadd hx hb dX7_nextToken_187 ?_
    refine r_putI hx hb hts iw7 tyX7 tyX7_ok nmX7 hown hK hw x0 10 g7 (by decide) rfl (by decide) rfl (hq _ qw898) (fun _ h9 => h9) rfl rfl rfl dX7_nextToken_188 (fun H locs hw => ?_)
    replace h := lt_some h
    obtain ⟨M8, eM8, h⟩ := h
    rw [← eM8] at hw
    refine lv_goto (tgt := 123) hx hb dX7_nextToken_191 (by decide) ?_
    exact hk123 _ _ h _ _ _ hw (lv_sub hl [0] rfl)
  have hb123 : ∀ (nn : Nat), ∀ (M : Mm) (x0 : Nat), f_X7_nextToken_b123 nn M x0 = some res → ∀ (H : Heap) (locs : List Loc) (ls : Array Slot), Wd D cy shM ad nM (Aw ad nM) s.heap M H locs → lv_has ls 2 [(0, .ref (ad x0))] → W p l e (headSpec (wU yX7_nextToken cX7_nextToken 2 none) rmX7_nextToken).room s m args below meth c H locs 0 0 (QV D cy shM ad nM adK adV below args s res) (F0 m 123 ls []) := by
    intro nn
    induction nn with
    | zero => intro M x0 h; simp [f_X7_nextToken_b123] at h
    | succ nn ih =>
      intro M x0 h H locs ls hw hl
      unfold f_X7_nextToken_b123 at h
      refine lv_aload_n hx hb dX7_nextToken_123 rfl (lv_at hl 0 rfl) ?_
      refine lv_aload_n hx hb dX7_nextToken_124 rfl (lv_at hl 0 rfl) ?_
      replace h := gd_some h
      obtain ⟨g9, h⟩ := h
      refine r_getI hx hb hts iw7 hown hK hw x0 10 g9 (by decide) rfl (by decide) rfl (hq _ qw898) (fun _ h9 => h9) dX7_nextToken_125 ?_
      replace h := bd_some h
      obtain ⟨r10, er10, h⟩ := h
      refine r_callVi (As := [.int (M.1 x0 10)]) (rest := []) hF (c_X7_byteAt l D cy ad adK adV M x0 (M.1 x0 10) r10 er10) (gW_goodV hcm qw1089 qw1086 qw1088 qw33 qw67) hdX7_byteAt rfl ⟨Nat.le_of_ble_eq_true rfl, Nat.le_of_ble_eq_true rfl⟩ rfl rfl hZ hK hw g9 (by decide) rfl rfl hl.1 rfl (Nat.le_of_ble_eq_true rfl) ⟨Nat.zero_le _, Nat.zero_le _⟩ dX7_nextToken_128 (fun H locs hw => ?_)
      refine lv_bipush (v := (48 : Int32)) hx hb dX7_nextToken_131 (by decide) ?_
      refine lv_bipush (v := (57 : Int32)) hx hb dX7_nextToken_133 (by decide) ?_
      replace h := bd_some h
      obtain ⟨r11, er11, h⟩ := h
      refine r_callSi (As := [.int r10.2, .int (48 : Int32), .int (57 : Int32)]) (rest := []) hF (c_X7_in l D cy ad adK adV r10.1 r10.2 (48 : Int32) (57 : Int32) r11 er11) (gW_goodS hcm qw985 qw983 qw984 qw67) hdX7_in ⟨Nat.le_of_ble_eq_true rfl, Nat.le_of_ble_eq_true rfl⟩ rfl rfl hZ hK hw rfl hl.1 rfl (Nat.le_of_ble_eq_true rfl) ⟨Nat.zero_le _, Nat.zero_le _⟩ dX7_nextToken_135 (fun H locs hw => ?_)
      refine lv_if_eq (tgt := 219) hx hb dX7_nextToken_138 (by decide) (fun c12 => ?_) (fun c12 => ?_)
      · replace h := if_some_t c12 h
        exact r_vret hx hb hr hlocks hZ hK hw h dX7_nextToken_219
      · replace h := if_some_f c12 h
        refine lv_aload_n hx hb dX7_nextToken_141 rfl (lv_at hl 0 rfl) ?_
        refine lv_aload_n hx hb dX7_nextToken_142 rfl (lv_at hl 0 rfl) ?_
        refine r_getI hx hb hts iw7 hown hK hw x0 13 g9 (by decide) rfl (by decide) rfl (hq _ qw901) (fun _ h9 => h9) dX7_nextToken_143 ?_
        refine lv_sipush (v := (999 : Int32)) hx hb dX7_nextToken_146 (by decide) ?_
        refine lv_icmp_le (tgt := 159) hx hb dX7_nextToken_149 (by decide) (fun c13 => ?_) (fun c13 => ?_)
        · replace h := if_some_t c13 h
          refine lv_bipush (v := (10 : Int32)) hx hb dX7_nextToken_159 (by decide) ?_
          refine lv_aload_n hx hb dX7_nextToken_161 rfl (lv_at hl 0 rfl) ?_
          refine r_getI hx hb hts iw7 hown hK hw x0 13 g9 (by decide) rfl (by decide) rfl (hq _ qw901) (fun _ h9 => h9) dX7_nextToken_162 ?_
          refine lv_imul hx hb dX7_nextToken_165 ?_
          refine lv_aload_n hx hb dX7_nextToken_166 rfl (lv_at hl 0 rfl) ?_
          refine lv_aload_n hx hb dX7_nextToken_167 rfl (lv_at hl 0 rfl) ?_
          refine r_getI hx hb hts iw7 hown hK hw x0 10 g9 (by decide) rfl (by decide) rfl (hq _ qw898) (fun _ h9 => h9) dX7_nextToken_168 ?_
          replace h := bd_some h
          obtain ⟨r14, er14, h⟩ := h
          refine r_callVi (As := [.int (r11.1.1 x0 10)]) (rest := [.int ((10 : Int32) * (r11.1.1 x0 13)), .ref (ad x0)]) hF (c_X7_byteAt l D cy ad adK adV r11.1 x0 (r11.1.1 x0 10) r14 er14) (gW_goodV hcm qw1089 qw1086 qw1088 qw33 qw67) hdX7_byteAt rfl ⟨Nat.le_of_ble_eq_true rfl, Nat.le_of_ble_eq_true rfl⟩ rfl rfl hZ hK hw g9 (by decide) rfl rfl hl.1 rfl (Nat.le_of_ble_eq_true rfl) ⟨Nat.zero_le _, Nat.zero_le _⟩ dX7_nextToken_171 (fun H locs hw => ?_)
          refine lv_iadd hx hb dX7_nextToken_174 ?_
          refine lv_bipush (v := (48 : Int32)) hx hb dX7_nextToken_175 (by decide) ?_
          refine lv_isub hx hb dX7_nextToken_177 ?_
          exact hb178 _ ih _ _ _ _ h _ _ _ hw (lv_sub hl [0] rfl)
        · replace h := if_some_f c13 h
          refine lv_aload_n hx hb dX7_nextToken_152 rfl (lv_at hl 0 rfl) ?_
          refine r_getI hx hb hts iw7 hown hK hw x0 13 g9 (by decide) rfl (by decide) rfl (hq _ qw901) (fun _ h9 => h9) dX7_nextToken_153 ?_
          refine lv_goto (tgt := 178) hx hb dX7_nextToken_156 (by decide) ?_
          exact hb178 _ ih _ _ _ _ h _ _ _ hw (lv_sub hl [0] rfl)
  have hb71 : ∀ (nn : Nat), ∀ (M : Mm) (x0 : Nat), f_X7_nextToken_b71 nn M x0 = some res → ∀ (H : Heap) (locs : List Loc) (ls : Array Slot), Wd D cy shM ad nM (Aw ad nM) s.heap M H locs → lv_has ls 2 [(0, .ref (ad x0))] → W p l e (headSpec (wU yX7_nextToken cX7_nextToken 2 none) rmX7_nextToken).room s m args below meth c H locs 0 0 (QV D cy shM ad nM adK adV below args s res) (F0 m 71 ls []) := by
    intro nn
    induction nn with
    | zero => intro M x0 h; simp [f_X7_nextToken_b71] at h
    | succ nn ih =>
      intro M x0 h H locs ls hw hl
      unfold f_X7_nextToken_b71 at h
      refine lv_aload_n hx hb dX7_nextToken_71 rfl (lv_at hl 0 rfl) ?_
      refine lv_aload_n hx hb dX7_nextToken_72 rfl (lv_at hl 0 rfl) ?_
      replace h := gd_some h
      obtain ⟨g15, h⟩ := h
      refine r_getI hx hb hts iw7 hown hK hw x0 10 g15 (by decide) rfl (by decide) rfl (hq _ qw898) (fun _ h9 => h9) dX7_nextToken_73 ?_
      replace h := bd_some h
      obtain ⟨r16, er16, h⟩ := h
      refine r_callVi (As := [.int (M.1 x0 10)]) (rest := []) hF (c_X7_byteAt l D cy ad adK adV M x0 (M.1 x0 10) r16 er16) (gW_goodV hcm qw1089 qw1086 qw1088 qw33 qw67) hdX7_byteAt rfl ⟨Nat.le_of_ble_eq_true rfl, Nat.le_of_ble_eq_true rfl⟩ rfl rfl hZ hK hw g15 (by decide) rfl rfl hl.1 rfl (Nat.le_of_ble_eq_true rfl) ⟨Nat.zero_le _, Nat.zero_le _⟩ dX7_nextToken_76 (fun H locs hw => ?_)
      refine lv_bipush (v := (97 : Int32)) hx hb dX7_nextToken_79 (by decide) ?_
      refine lv_bipush (v := (122 : Int32)) hx hb dX7_nextToken_81 (by decide) ?_
      replace h := bd_some h
      obtain ⟨r17, er17, h⟩ := h
      refine r_callSi (As := [.int r16.2, .int (97 : Int32), .int (122 : Int32)]) (rest := []) hF (c_X7_in l D cy ad adK adV r16.1 r16.2 (97 : Int32) (122 : Int32) r17 er17) (gW_goodS hcm qw985 qw983 qw984 qw67) hdX7_in ⟨Nat.le_of_ble_eq_true rfl, Nat.le_of_ble_eq_true rfl⟩ rfl rfl hZ hK hw rfl hl.1 rfl (Nat.le_of_ble_eq_true rfl) ⟨Nat.zero_le _, Nat.zero_le _⟩ dX7_nextToken_83 (fun H locs hw => ?_)
      refine lv_if_eq (tgt := 219) hx hb dX7_nextToken_86 (by decide) (fun c18 => ?_) (fun c18 => ?_)
      · replace h := if_some_t c18 h
        exact r_vret hx hb hr hlocks hZ hK hw h dX7_nextToken_219
      · replace h := if_some_f c18 h
        refine lv_aload_n hx hb dX7_nextToken_89 rfl (lv_at hl 0 rfl) ?_
        refine lv_dup hx hb dX7_nextToken_90 rfl ?_
        refine r_getI hx hb hts iw7 hown hK hw x0 10 g15 (by decide) rfl (by decide) rfl (hq _ qw898) (fun _ h9 => h9) dX7_nextToken_91 ?_
        refine lv_iconst (v := (1 : Int32)) hx hb dX7_nextToken_94 (by decide) ?_
        refine lv_iadd hx hb dX7_nextToken_95 ?_
        refine r_putI hx hb hts iw7 tyX7 tyX7_ok nmX7 hown hK hw x0 10 g15 (by decide) rfl (by decide) rfl (hq _ qw898) (fun _ h9 => h9) rfl rfl rfl dX7_nextToken_96 (fun H locs hw => ?_)
        replace h := lt_some h
        obtain ⟨M19, eM19, h⟩ := h
        rw [← eM19] at hw
        refine lv_goto (tgt := 71) hx hb dX7_nextToken_99 (by decide) ?_
        exact ih _ _ h _ _ _ hw (lv_sub hl [0] rfl)
  have hb0 : ∀ (nn : Nat), ∀ (M : Mm) (x0 : Nat), f_X7_nextToken_b0 nn M x0 = some res → ∀ (H : Heap) (locs : List Loc) (ls : Array Slot), Wd D cy shM ad nM (Aw ad nM) s.heap M H locs → lv_has ls 2 [(0, .ref (ad x0))] → W p l e (headSpec (wU yX7_nextToken cX7_nextToken 2 none) rmX7_nextToken).room s m args below meth c H locs 0 0 (QV D cy shM ad nM adK adV below args s res) (F0 m 0 ls []) := by
    intro nn
    induction nn with
    | zero => intro M x0 h; simp [f_X7_nextToken_b0] at h
    | succ nn ih =>
      intro M x0 h H locs ls hw hl
      unfold f_X7_nextToken_b0 at h
      refine lv_aload_n hx hb dX7_nextToken_0 rfl (lv_at hl 0 rfl) ?_
      refine lv_aload_n hx hb dX7_nextToken_1 rfl (lv_at hl 0 rfl) ?_
      replace h := gd_some h
      obtain ⟨g20, h⟩ := h
      refine r_getI hx hb hts iw7 hown hK hw x0 10 g20 (by decide) rfl (by decide) rfl (hq _ qw898) (fun _ h9 => h9) dX7_nextToken_2 ?_
      replace h := bd_some h
      obtain ⟨r21, er21, h⟩ := h
      refine r_callVi (As := [.int (M.1 x0 10)]) (rest := []) hF (c_X7_byteAt l D cy ad adK adV M x0 (M.1 x0 10) r21 er21) (gW_goodV hcm qw1089 qw1086 qw1088 qw33 qw67) hdX7_byteAt rfl ⟨Nat.le_of_ble_eq_true rfl, Nat.le_of_ble_eq_true rfl⟩ rfl rfl hZ hK hw g20 (by decide) rfl rfl hl.1 rfl (Nat.le_of_ble_eq_true rfl) ⟨Nat.zero_le _, Nat.zero_le _⟩ dX7_nextToken_5 (fun H locs hw => ?_)
      refine lv_bipush (v := (32 : Int32)) hx hb dX7_nextToken_8 (by decide) ?_
      refine lv_icmp_ne (tgt := 26) hx hb dX7_nextToken_10 (by decide) (fun c22 => ?_) (fun c22 => ?_)
      · replace h := if_some_f c22 h
        refine lv_aload_n hx hb dX7_nextToken_26 rfl (lv_at hl 0 rfl) ?_
        refine lv_aload_n hx hb dX7_nextToken_27 rfl (lv_at hl 0 rfl) ?_
        refine r_getI hx hb hts iw7 hown hK hw x0 10 g20 (by decide) rfl (by decide) rfl (hq _ qw898) (fun _ h9 => h9) dX7_nextToken_28 ?_
        refine r_putI hx hb hts iw7 tyX7 tyX7_ok nmX7 hown hK hw x0 12 g20 (by decide) rfl (by decide) rfl (hq _ qw900) (fun _ h9 => h9) rfl rfl rfl dX7_nextToken_31 (fun H locs hw => ?_)
        replace h := lt_some h
        obtain ⟨M23, eM23, h⟩ := h
        rw [← eM23] at hw
        refine lv_aload_n hx hb dX7_nextToken_34 rfl (lv_at hl 0 rfl) ?_
        refine lv_aload_n hx hb dX7_nextToken_35 rfl (lv_at hl 0 rfl) ?_
        refine r_getI hx hb hts iw7 hown hK hw x0 10 g20 (by decide) rfl (by decide) rfl (hq _ qw898) (fun _ h9 => h9) dX7_nextToken_36 ?_
        replace h := bd_some h
        obtain ⟨r24, er24, h⟩ := h
        refine r_callVi (As := [.int (M23.1 x0 10)]) (rest := []) hF (c_X7_byteAt l D cy ad adK adV M23 x0 (M23.1 x0 10) r24 er24) (gW_goodV hcm qw1089 qw1086 qw1088 qw33 qw67) hdX7_byteAt rfl ⟨Nat.le_of_ble_eq_true rfl, Nat.le_of_ble_eq_true rfl⟩ rfl rfl hZ hK hw g20 (by decide) rfl rfl hl.1 rfl (Nat.le_of_ble_eq_true rfl) ⟨Nat.zero_le _, Nat.zero_le _⟩ dX7_nextToken_39 (fun H locs hw => ?_)
        refine lv_istore_n (lv' := [(1, .int r24.2), (0, .ref (ad x0))]) hx hb dX7_nextToken_42 rfl hl (by decide) rfl (fun ls hl => ?_)
        refine lv_iload_n hx hb dX7_nextToken_43 rfl (lv_at hl 0 rfl) ?_
        refine lv_if_ge (tgt := 55) hx hb dX7_nextToken_44 (by decide) (fun c25 => ?_) (fun c25 => ?_)
        · replace h := if_some_t c25 h
          refine lv_iload_n hx hb dX7_nextToken_55 rfl (lv_at hl 0 rfl) ?_
          refine lv_bipush (v := (97 : Int32)) hx hb dX7_nextToken_56 (by decide) ?_
          refine lv_bipush (v := (122 : Int32)) hx hb dX7_nextToken_58 (by decide) ?_
          replace h := bd_some h
          obtain ⟨r26, er26, h⟩ := h
          refine r_callSi (As := [.int r24.2, .int (97 : Int32), .int (122 : Int32)]) (rest := []) hF (c_X7_in l D cy ad adK adV r24.1 r24.2 (97 : Int32) (122 : Int32) r26 er26) (gW_goodS hcm qw985 qw983 qw984 qw67) hdX7_in ⟨Nat.le_of_ble_eq_true rfl, Nat.le_of_ble_eq_true rfl⟩ rfl rfl hZ hK hw rfl hl.1 rfl (Nat.le_of_ble_eq_true rfl) ⟨Nat.zero_le _, Nat.zero_le _⟩ dX7_nextToken_60 (fun H locs hw => ?_)
          refine lv_if_eq (tgt := 102) hx hb dX7_nextToken_63 (by decide) (fun c27 => ?_) (fun c27 => ?_)
          · replace h := if_some_t c27 h
            refine lv_iload_n hx hb dX7_nextToken_102 rfl (lv_at hl 0 rfl) ?_
            refine lv_bipush (v := (48 : Int32)) hx hb dX7_nextToken_103 (by decide) ?_
            refine lv_bipush (v := (57 : Int32)) hx hb dX7_nextToken_105 (by decide) ?_
            replace h := bd_some h
            obtain ⟨r28, er28, h⟩ := h
            refine r_callSi (As := [.int r24.2, .int (48 : Int32), .int (57 : Int32)]) (rest := []) hF (c_X7_in l D cy ad adK adV r26.1 r24.2 (48 : Int32) (57 : Int32) r28 er28) (gW_goodS hcm qw985 qw983 qw984 qw67) hdX7_in ⟨Nat.le_of_ble_eq_true rfl, Nat.le_of_ble_eq_true rfl⟩ rfl rfl hZ hK hw rfl hl.1 rfl (Nat.le_of_ble_eq_true rfl) ⟨Nat.zero_le _, Nat.zero_le _⟩ dX7_nextToken_107 (fun H locs hw => ?_)
            refine lv_if_eq (tgt := 194) hx hb dX7_nextToken_110 (by decide) (fun c29 => ?_) (fun c29 => ?_)
            · replace h := if_some_t c29 h
              refine lv_aload_n hx hb dX7_nextToken_194 rfl (lv_at hl 1 rfl) ?_
              refine lv_iload_n hx hb dX7_nextToken_195 rfl (lv_at hl 0 rfl) ?_
              refine lv_bipush (v := (59 : Int32)) hx hb dX7_nextToken_196 (by decide) ?_
              refine lv_icmp_ne (tgt := 205) hx hb dX7_nextToken_198 (by decide) (fun c30 => ?_) (fun c30 => ?_)
              · replace h := if_some_f c30 h
                refine lv_iconst (v := (4 : Int32)) hx hb dX7_nextToken_205 (by decide) ?_
                exact hb206 _ _ _ _ h _ _ _ hw (lv_sub hl [1] rfl)
              · replace h := if_some_t c30 h
                refine lv_iconst (v := (3 : Int32)) hx hb dX7_nextToken_201 (by decide) ?_
                refine lv_goto (tgt := 206) hx hb dX7_nextToken_202 (by decide) ?_
                exact hb206 _ _ _ _ h _ _ _ hw (lv_sub hl [1] rfl)
            · replace h := if_some_f c29 h
              refine lv_aload_n hx hb dX7_nextToken_113 rfl (lv_at hl 1 rfl) ?_
              refine lv_iconst (v := (2 : Int32)) hx hb dX7_nextToken_114 (by decide) ?_
              refine r_putI hx hb hts iw7 tyX7 tyX7_ok nmX7 hown hK hw x0 11 g20 (by decide) rfl (by decide) rfl (hq _ qw899) (fun _ h9 => h9) rfl rfl rfl dX7_nextToken_115 (fun H locs hw => ?_)
              replace h := lt_some h
              obtain ⟨M31, eM31, h⟩ := h
              rw [← eM31] at hw
              refine lv_aload_n hx hb dX7_nextToken_118 rfl (lv_at hl 1 rfl) ?_
              refine lv_iconst (v := (0 : Int32)) hx hb dX7_nextToken_119 (by decide) ?_
              refine r_putI hx hb hts iw7 tyX7 tyX7_ok nmX7 hown hK hw x0 13 g20 (by decide) rfl (by decide) rfl (hq _ qw901) (fun _ h9 => h9) rfl rfl rfl dX7_nextToken_120 (fun H locs hw => ?_)
              replace h := lt_some h
              obtain ⟨M32, eM32, h⟩ := h
              rw [← eM32] at hw
              exact hb123 1000 _ _ h _ _ _ hw (lv_sub hl [1] rfl)
          · replace h := if_some_f c27 h
            refine lv_aload_n hx hb dX7_nextToken_66 rfl (lv_at hl 1 rfl) ?_
            refine lv_iconst (v := (1 : Int32)) hx hb dX7_nextToken_67 (by decide) ?_
            refine r_putI hx hb hts iw7 tyX7 tyX7_ok nmX7 hown hK hw x0 11 g20 (by decide) rfl (by decide) rfl (hq _ qw899) (fun _ h9 => h9) rfl rfl rfl dX7_nextToken_68 (fun H locs hw => ?_)
            replace h := lt_some h
            obtain ⟨M33, eM33, h⟩ := h
            rw [← eM33] at hw
            exact hb71 1000 _ _ h _ _ _ hw (lv_sub hl [1] rfl)
        · replace h := if_some_f c25 h
          refine lv_aload_n hx hb dX7_nextToken_47 rfl (lv_at hl 1 rfl) ?_
          refine lv_iconst (v := (0 : Int32)) hx hb dX7_nextToken_48 (by decide) ?_
          refine r_putI hx hb hts iw7 tyX7 tyX7_ok nmX7 hown hK hw x0 11 g20 (by decide) rfl (by decide) rfl (hq _ qw899) (fun _ h9 => h9) rfl rfl rfl dX7_nextToken_49 (fun H locs hw => ?_)
          replace h := lt_some h
          obtain ⟨M34, eM34, h⟩ := h
          rw [← eM34] at hw
          refine lv_goto (tgt := 219) hx hb dX7_nextToken_52 (by decide) ?_
          exact r_vret hx hb hr hlocks hZ hK hw h dX7_nextToken_219
      · replace h := if_some_t c22 h
        refine lv_aload_n hx hb dX7_nextToken_13 rfl (lv_at hl 0 rfl) ?_
        refine lv_dup hx hb dX7_nextToken_14 rfl ?_
        refine r_getI hx hb hts iw7 hown hK hw x0 10 g20 (by decide) rfl (by decide) rfl (hq _ qw898) (fun _ h9 => h9) dX7_nextToken_15 ?_
        refine lv_iconst (v := (1 : Int32)) hx hb dX7_nextToken_18 (by decide) ?_
        refine lv_iadd hx hb dX7_nextToken_19 ?_
        refine r_putI hx hb hts iw7 tyX7 tyX7_ok nmX7 hown hK hw x0 10 g20 (by decide) rfl (by decide) rfl (hq _ qw898) (fun _ h9 => h9) rfl rfl rfl dX7_nextToken_20 (fun H locs hw => ?_)
        replace h := lt_some h
        obtain ⟨M35, eM35, h⟩ := h
        rw [← eM35] at hw
        refine lv_goto (tgt := 0) hx hb dX7_nextToken_23 (by decide) ?_
        exact ih _ _ h _ _ _ hw (lv_sub hl [0] rfl)
  unfold f_X7_nextToken at h
  exact hb0 1000 _ _ h _ _ _ hw (lv_sub hl [0] rfl)
theorem dX7_isWord_0 : decode cX7_isWord 0 = .ok (.aload_n 0, 1) := by decide +kernel
theorem dX7_isWord_1 : decode cX7_isWord 1 = .ok (.getfield 150, 3) := by decide +kernel
theorem dX7_isWord_4 : decode cX7_isWord 4 = .ok (.iconst 1, 1) := by decide +kernel
theorem dX7_isWord_5 : decode cX7_isWord 5 = .ok (.if_icmp .ne 23, 3) := by decide +kernel
theorem dX7_isWord_8 : decode cX7_isWord 8 = .ok (.aload_n 0, 1) := by decide +kernel
theorem dX7_isWord_9 : decode cX7_isWord 9 = .ok (.getfield 141, 3) := by decide +kernel
theorem dX7_isWord_12 : decode cX7_isWord 12 = .ok (.aload_n 0, 1) := by decide +kernel
theorem dX7_isWord_13 : decode cX7_isWord 13 = .ok (.getfield 147, 3) := by decide +kernel
theorem dX7_isWord_16 : decode cX7_isWord 16 = .ok (.isub, 1) := by decide +kernel
theorem dX7_isWord_17 : decode cX7_isWord 17 = .ok (.aload_n 1, 1) := by decide +kernel
theorem dX7_isWord_18 : decode cX7_isWord 18 = .ok (.invokevirtual 156, 3) := by decide +kernel
theorem dX7_isWord_21 : decode cX7_isWord 21 = .ok (.if_icmp .ne 7, 3) := by decide +kernel
theorem dX7_isWord_24 : decode cX7_isWord 24 = .ok (.iconst 1, 1) := by decide +kernel
theorem dX7_isWord_25 : decode cX7_isWord 25 = .ok (.goto 4, 3) := by decide +kernel
theorem dX7_isWord_28 : decode cX7_isWord 28 = .ok (.iconst 0, 1) := by decide +kernel
theorem dX7_isWord_29 : decode cX7_isWord 29 = .ok (.istore_n 2, 1) := by decide +kernel
theorem dX7_isWord_30 : decode cX7_isWord 30 = .ok (.iconst 0, 1) := by decide +kernel
theorem dX7_isWord_31 : decode cX7_isWord 31 = .ok (.istore_n 3, 1) := by decide +kernel
theorem dX7_isWord_32 : decode cX7_isWord 32 = .ok (.iload_n 3, 1) := by decide +kernel
theorem dX7_isWord_33 : decode cX7_isWord 33 = .ok (.aload_n 1, 1) := by decide +kernel
theorem dX7_isWord_34 : decode cX7_isWord 34 = .ok (.invokevirtual 156, 3) := by decide +kernel
theorem dX7_isWord_37 : decode cX7_isWord 37 = .ok (.if_icmp .ge 38, 3) := by decide +kernel
theorem dX7_isWord_40 : decode cX7_isWord 40 = .ok (.iload_n 2, 1) := by decide +kernel
theorem dX7_isWord_41 : decode cX7_isWord 41 = .ok (.ifCond .eq 34, 3) := by decide +kernel
theorem dX7_isWord_44 : decode cX7_isWord 44 = .ok (.aload_n 0, 1) := by decide +kernel
theorem dX7_isWord_45 : decode cX7_isWord 45 = .ok (.getfield 26, 3) := by decide +kernel
theorem dX7_isWord_48 : decode cX7_isWord 48 = .ok (.aload_n 0, 1) := by decide +kernel
theorem dX7_isWord_49 : decode cX7_isWord 49 = .ok (.getfield 147, 3) := by decide +kernel
theorem dX7_isWord_52 : decode cX7_isWord 52 = .ok (.iload_n 3, 1) := by decide +kernel
theorem dX7_isWord_53 : decode cX7_isWord 53 = .ok (.iadd, 1) := by decide +kernel
theorem dX7_isWord_54 : decode cX7_isWord 54 = .ok (.iaload, 1) := by decide +kernel
theorem dX7_isWord_55 : decode cX7_isWord 55 = .ok (.aload_n 1, 1) := by decide +kernel
theorem dX7_isWord_56 : decode cX7_isWord 56 = .ok (.iload_n 3, 1) := by decide +kernel
theorem dX7_isWord_57 : decode cX7_isWord 57 = .ok (.invokevirtual 162, 3) := by decide +kernel
theorem dX7_isWord_60 : decode cX7_isWord 60 = .ok (.if_icmp .ne 7, 3) := by decide +kernel
theorem dX7_isWord_63 : decode cX7_isWord 63 = .ok (.iconst 1, 1) := by decide +kernel
theorem dX7_isWord_64 : decode cX7_isWord 64 = .ok (.goto 4, 3) := by decide +kernel
theorem dX7_isWord_67 : decode cX7_isWord 67 = .ok (.iconst 0, 1) := by decide +kernel
theorem dX7_isWord_68 : decode cX7_isWord 68 = .ok (.istore_n 2, 1) := by decide +kernel
theorem dX7_isWord_69 : decode cX7_isWord 69 = .ok (.iinc 3 1, 3) := by decide +kernel
theorem dX7_isWord_72 : decode cX7_isWord 72 = .ok (.goto (-40), 3) := by decide +kernel
theorem dX7_isWord_75 : decode cX7_isWord 75 = .ok (.iload_n 2, 1) := by decide +kernel
theorem dX7_isWord_76 : decode cX7_isWord 76 = .ok (.ireturn, 1) := by decide +kernel
set_option maxHeartbeats 4000000 in
set_option maxRecDepth 100000 in
theorem c_X7_isWord (l : Launch) (D : va_G) (cy : Nat → ClassId) (ad adK adV : Nat → Nat) (M : Mm) (o0 : Nat) (a1 : Nat) (res : Mm × Int32) (h : f_X7_isWord M o0 a1 = some res) : Met l yX7_isWord (wU yX7_isWord cX7_isWord 4 (some .boolean)) rmX7_isWord (va_Pc [.ref (ad o0), .ref (adK a1)] (Pre D cy shM ad nM adK adV M)) (va_Qi (fun r (M2 : Mm) => r = res.2 ∧ M2 = res.1) (Pre D cy shM ad nM adK adV) (Aw ad nM)) 0 0 (Aw ad nM) := by
  refine Met.ofW (cc := cX7_isWord) (maxL := 4) (ret := (some .boolean)) (by decide) rfl ?_
  intro p e s m args below meth c s₁ B hml hv
  obtain ⟨hargs, hPre⟩ := hv
  have hx := B.exec
  have hb := B.bytes
  have hr := B.returns
  have hts := atoms_spec (ws := wU yX7_isWord cX7_isWord 4 (some .boolean)) B.pre
  have hq : ∀ w ∈ gW, w.before args s = true := fun w hw => hts w (List.mem_cons_of_mem _ hw)
  have hcm : ∀ w ∈ gW, w ∈ wU yX7_isWord cX7_isWord 4 (some .boolean) := fun w hw => List.mem_cons_of_mem _ hw
  have hown : s.vm.findClass RX7 = some m.cls := findClass_of_methodNamed B.named
  have hlocks := B.notSynchronized
  have hF : CallFix p m c cX7_isWord 4 s args (wU yX7_isWord cX7_isWord 4 (some .boolean)) RX7 := ⟨hx, hb, hml, hown, hts⟩
  have hK := hPre.2.1
  have hZ := hPre.2.2.2
  have hw : Wd D cy shM ad nM (Aw ad nM) s.heap M s.heap [] := ⟨hPre.1, hPre.2.2.1, va_S.rf⟩
  have iw7 : ∀ w ∈ u_ws RX7 TX7 30, w ∈ wU yX7_isWord cX7_isWord 4 (some .boolean) := fun w hw => List.mem_cons_of_mem _ (iX7 w hw)
  rw [show entryFrame m args 4 = entryFrame m ([.ref (ad o0), .ref (adK a1)] : List Value).toArray 4 from by rw [hargs]]
  have hl := lv_entry ([.ref (ad o0), .ref (adK a1)]) (n := 4) (Nat.le_of_ble_eq_true rfl)
  rw [lg_entry_eq]
  generalize (lg_sl ([.ref (ad o0), .ref (adK a1)]) ++ List.replicate (4 - (lg_sl ([.ref (ad o0), .ref (adK a1)])).length) Slot.unset).toArray = ls at hl ⊢
  have hl : lv_has ls 4 [(0, .ref (ad o0)), (1, .ref (adK a1))] := hl
  have hb68 : ∀ (k32 : Mm → Nat → Nat → Int32 → Int32 → Option (Mm × Int32)) (hk32 : ∀ (M : Mm) (x0 : Nat) (x1 : Nat) (x2 : Int32) (x3 : Int32), k32 M x0 x1 x2 x3 = some res → ∀ (H : Heap) (locs : List Loc) (ls : Array Slot), Wd D cy shM ad nM (Aw ad nM) s.heap M H locs → lv_has ls 4 [(0, .ref (ad x0)), (1, .ref (adK x1)), (2, .int x2), (3, .int x3)] → W p l e (headSpec (wU yX7_isWord cX7_isWord 4 (some .boolean)) rmX7_isWord).room s m args below meth c H locs 0 0 (QI D cy shM ad nM adK adV below args s res) (F0 m 32 ls [])), ∀ (M : Mm) (x0 : Nat) (x1 : Nat) (x3 : Int32) (t0 : Int32), f_X7_isWord_b68 k32 M x0 x1 x3 t0 = some res → ∀ (H : Heap) (locs : List Loc) (ls : Array Slot), Wd D cy shM ad nM (Aw ad nM) s.heap M H locs → lv_has ls 4 [(0, .ref (ad x0)), (1, .ref (adK x1)), (3, .int x3)] → W p l e (headSpec (wU yX7_isWord cX7_isWord 4 (some .boolean)) rmX7_isWord).room s m args below meth c H locs 0 0 (QI D cy shM ad nM adK adV below args s res) (F0 m 68 ls [.int t0]) := by
    intro k32 hk32
    intro M x0 x1 x3 t0 h H locs ls hw hl
    unfold f_X7_isWord_b68 at h
    refine lv_istore_n (lv' := [(2, .int t0), (0, .ref (ad x0)), (1, .ref (adK x1)), (3, .int x3)]) hx hb dX7_isWord_68 rfl hl (by decide) rfl (fun ls hl => ?_)
    refine lv_iinc (v := x3 + (1 : Int32)) (lv' := [(3, .int (x3 + (1 : Int32))), (2, .int t0), (0, .ref (ad x0)), (1, .ref (adK x1))]) hx hb dX7_isWord_69 hl (k := 3) rfl (congrArg (fun z => x3 + z) (by decide)) (by decide) rfl (fun ls hl => ?_)
    refine lv_goto (tgt := 32) hx hb dX7_isWord_72 (by decide) ?_
    exact hk32 _ _ _ _ _ h _ _ _ hw (lv_sub hl [2, 3, 1, 0] rfl)
  have hb32 : ∀ (nn : Nat), ∀ (M : Mm) (x0 : Nat) (x1 : Nat) (x2 : Int32) (x3 : Int32), f_X7_isWord_b32 nn M x0 x1 x2 x3 = some res → ∀ (H : Heap) (locs : List Loc) (ls : Array Slot), Wd D cy shM ad nM (Aw ad nM) s.heap M H locs → lv_has ls 4 [(0, .ref (ad x0)), (1, .ref (adK x1)), (2, .int x2), (3, .int x3)] → W p l e (headSpec (wU yX7_isWord cX7_isWord 4 (some .boolean)) rmX7_isWord).room s m args below meth c H locs 0 0 (QI D cy shM ad nM adK adV below args s res) (F0 m 32 ls []) := by
    intro nn
    induction nn with
    | zero => intro M x0 x1 x2 x3 h; simp [f_X7_isWord_b32] at h
    | succ nn ih =>
      intro M x0 x1 x2 x3 h H locs ls hw hl
      unfold f_X7_isWord_b32 at h
      refine lv_iload_n hx hb dX7_isWord_32 rfl (lv_at hl 3 rfl) ?_
      refine lv_aload_n hx hb dX7_isWord_33 rfl (lv_at hl 1 rfl) ?_
      replace h := gd_some h
      obtain ⟨g1, h⟩ := h
      refine r_slength (rest := [.int x3]) hF hZ hK hw g1 qw1103 hl.1 (Nat.le_of_ble_eq_true rfl) ⟨Nat.le_of_ble_eq_true rfl, Nat.le_of_ble_eq_true rfl⟩ ⟨Nat.zero_le _, Nat.zero_le _⟩ dX7_isWord_34 (fun H locs hw => ?_)
      refine lv_icmp_ge (tgt := 75) hx hb dX7_isWord_37 (by decide) (fun c2 => ?_) (fun c2 => ?_)
      · replace h := if_some_t c2 h
        refine lv_iload_n hx hb dX7_isWord_75 rfl (lv_at hl 2 rfl) ?_
        replace h := gd_some h
        obtain ⟨z3, h⟩ := h
        exact r_iret hx hb hr (nar_bz z3) hlocks hZ hK hw h dX7_isWord_76
      · replace h := if_some_f c2 h
        refine lv_iload_n hx hb dX7_isWord_40 rfl (lv_at hl 2 rfl) ?_
        refine lv_if_eq (tgt := 75) hx hb dX7_isWord_41 (by decide) (fun c4 => ?_) (fun c4 => ?_)
        · replace h := if_some_t c4 h
          refine lv_iload_n hx hb dX7_isWord_75 rfl (lv_at hl 2 rfl) ?_
          replace h := gd_some h
          obtain ⟨z5, h⟩ := h
          exact r_iret hx hb hr (nar_bz z5) hlocks hZ hK hw h dX7_isWord_76
        · replace h := if_some_f c4 h
          refine lv_aload_n hx hb dX7_isWord_44 rfl (lv_at hl 0 rfl) ?_
          replace h := gd_some h
          obtain ⟨g6, h⟩ := h
          replace h := bd_some h
          obtain ⟨q7, eq7, h⟩ := h
          refine r_getR hx hb hts iw7 hown hK hw x0 8 g6 (by decide) rfl (by decide) rfl (hq _ qw896) (fun _ h9 => h9) dX7_isWord_45 eq7 ?_
          refine lv_aload_n hx hb dX7_isWord_48 rfl (lv_at hl 0 rfl) ?_
          refine r_getI hx hb hts iw7 hown hK hw x0 12 g6 (by decide) rfl (by decide) rfl (hq _ qw900) (fun _ h9 => h9) dX7_isWord_49 ?_
          refine lv_iload_n hx hb dX7_isWord_52 rfl (lv_at hl 3 rfl) ?_
          refine lv_iadd hx hb dX7_isWord_53 ?_
          replace h := gd_some h
          obtain ⟨g8, h⟩ := h
          refine r_iald hx hb hK hw q7 g8 dX7_isWord_54 ?_
          refine lv_aload_n hx hb dX7_isWord_55 rfl (lv_at hl 1 rfl) ?_
          refine lv_iload_n hx hb dX7_isWord_56 rfl (lv_at hl 3 rfl) ?_
          replace h := gd_some h
          obtain ⟨g9, h⟩ := h
          refine r_scharAt (rest := [.int (M.1 q7 ((M.1 x0 12) + x3).toNatClampNeg)]) hF hZ hK hw g9 qw1104 hl.1 (Nat.le_of_ble_eq_true rfl) ⟨Nat.le_of_ble_eq_true rfl, Nat.le_of_ble_eq_true rfl⟩ ⟨Nat.zero_le _, Nat.zero_le _⟩ dX7_isWord_57 (fun H locs hw => ?_)
          refine lv_icmp_ne (tgt := 67) hx hb dX7_isWord_60 (by decide) (fun c10 => ?_) (fun c10 => ?_)
          · replace h := if_some_f c10 h
            refine lv_iconst (v := (0 : Int32)) hx hb dX7_isWord_67 (by decide) ?_
            exact hb68 _ ih _ _ _ _ _ h _ _ _ hw (lv_sub hl [0, 1, 3] rfl)
          · replace h := if_some_t c10 h
            refine lv_iconst (v := (1 : Int32)) hx hb dX7_isWord_63 (by decide) ?_
            refine lv_goto (tgt := 68) hx hb dX7_isWord_64 (by decide) ?_
            exact hb68 _ ih _ _ _ _ _ h _ _ _ hw (lv_sub hl [0, 1, 3] rfl)
  have hb29 : ∀ (M : Mm) (x0 : Nat) (x1 : Nat) (t0 : Int32), f_X7_isWord_b29 M x0 x1 t0 = some res → ∀ (H : Heap) (locs : List Loc) (ls : Array Slot), Wd D cy shM ad nM (Aw ad nM) s.heap M H locs → lv_has ls 4 [(0, .ref (ad x0)), (1, .ref (adK x1))] → W p l e (headSpec (wU yX7_isWord cX7_isWord 4 (some .boolean)) rmX7_isWord).room s m args below meth c H locs 0 0 (QI D cy shM ad nM adK adV below args s res) (F0 m 29 ls [.int t0]) := by
    intro M x0 x1 t0 h H locs ls hw hl
    unfold f_X7_isWord_b29 at h
    refine lv_istore_n (lv' := [(2, .int t0), (0, .ref (ad x0)), (1, .ref (adK x1))]) hx hb dX7_isWord_29 rfl hl (by decide) rfl (fun ls hl => ?_)
    refine lv_iconst (v := (0 : Int32)) hx hb dX7_isWord_30 (by decide) ?_
    refine lv_istore_n (lv' := [(3, .int (0 : Int32)), (2, .int t0), (0, .ref (ad x0)), (1, .ref (adK x1))]) hx hb dX7_isWord_31 rfl hl (by decide) rfl (fun ls hl => ?_)
    exact hb32 1000 _ _ _ _ _ h _ _ _ hw (lv_sub hl [2, 3, 1, 0] rfl)
  have hb28 : ∀ (M : Mm) (x0 : Nat) (x1 : Nat), f_X7_isWord_b28 M x0 x1 = some res → ∀ (H : Heap) (locs : List Loc) (ls : Array Slot), Wd D cy shM ad nM (Aw ad nM) s.heap M H locs → lv_has ls 4 [(0, .ref (ad x0)), (1, .ref (adK x1))] → W p l e (headSpec (wU yX7_isWord cX7_isWord 4 (some .boolean)) rmX7_isWord).room s m args below meth c H locs 0 0 (QI D cy shM ad nM adK adV below args s res) (F0 m 28 ls []) := by
    intro M x0 x1 h H locs ls hw hl
    unfold f_X7_isWord_b28 at h
    refine lv_iconst (v := (0 : Int32)) hx hb dX7_isWord_28 (by decide) ?_
    exact hb29 _ _ _ _ h _ _ _ hw (lv_sub hl [0, 1] rfl)
  unfold f_X7_isWord at h
  refine lv_aload_n hx hb dX7_isWord_0 rfl (lv_at hl 0 rfl) ?_
  replace h := gd_some h
  obtain ⟨g11, h⟩ := h
  refine r_getI hx hb hts iw7 hown hK hw o0 11 g11 (by decide) rfl (by decide) rfl (hq _ qw899) (fun _ h9 => h9) dX7_isWord_1 ?_
  refine lv_iconst (v := (1 : Int32)) hx hb dX7_isWord_4 (by decide) ?_
  refine lv_icmp_ne (tgt := 28) hx hb dX7_isWord_5 (by decide) (fun c12 => ?_) (fun c12 => ?_)
  · replace h := if_some_f c12 h
    exact hb28 _ _ _ h _ _ _ hw (lv_sub hl [0, 1] rfl)
  · replace h := if_some_t c12 h
    refine lv_aload_n hx hb dX7_isWord_8 rfl (lv_at hl 0 rfl) ?_
    refine r_getI hx hb hts iw7 hown hK hw o0 10 g11 (by decide) rfl (by decide) rfl (hq _ qw898) (fun _ h9 => h9) dX7_isWord_9 ?_
    refine lv_aload_n hx hb dX7_isWord_12 rfl (lv_at hl 0 rfl) ?_
    refine r_getI hx hb hts iw7 hown hK hw o0 12 g11 (by decide) rfl (by decide) rfl (hq _ qw900) (fun _ h9 => h9) dX7_isWord_13 ?_
    refine lv_isub hx hb dX7_isWord_16 ?_
    refine lv_aload_n hx hb dX7_isWord_17 rfl (lv_at hl 1 rfl) ?_
    replace h := gd_some h
    obtain ⟨g13, h⟩ := h
    refine r_slength (rest := [.int ((M.1 o0 10) - (M.1 o0 12))]) hF hZ hK hw g13 qw1103 hl.1 (Nat.le_of_ble_eq_true rfl) ⟨Nat.le_of_ble_eq_true rfl, Nat.le_of_ble_eq_true rfl⟩ ⟨Nat.zero_le _, Nat.zero_le _⟩ dX7_isWord_18 (fun H locs hw => ?_)
    refine lv_icmp_ne (tgt := 28) hx hb dX7_isWord_21 (by decide) (fun c14 => ?_) (fun c14 => ?_)
    · replace h := if_some_f c14 h
      exact hb28 _ _ _ h _ _ _ hw (lv_sub hl [0, 1] rfl)
    · replace h := if_some_t c14 h
      refine lv_iconst (v := (1 : Int32)) hx hb dX7_isWord_24 (by decide) ?_
      refine lv_goto (tgt := 29) hx hb dX7_isWord_25 (by decide) ?_
      exact hb29 _ _ _ _ h _ _ _ hw (lv_sub hl [0, 1] rfl)
theorem dX7_isNumber_0 : decode cX7_isNumber 0 = .ok (.aload_n 0, 1) := by decide +kernel
theorem dX7_isNumber_1 : decode cX7_isNumber 1 = .ok (.getfield 150, 3) := by decide +kernel
theorem dX7_isNumber_4 : decode cX7_isNumber 4 = .ok (.iconst 2, 1) := by decide +kernel
theorem dX7_isNumber_5 : decode cX7_isNumber 5 = .ok (.if_icmp .ne 19, 3) := by decide +kernel
theorem dX7_isNumber_8 : decode cX7_isNumber 8 = .ok (.aload_n 0, 1) := by decide +kernel
theorem dX7_isNumber_9 : decode cX7_isNumber 9 = .ok (.getfield 153, 3) := by decide +kernel
theorem dX7_isNumber_12 : decode cX7_isNumber 12 = .ok (.iload_n 1, 1) := by decide +kernel
theorem dX7_isNumber_13 : decode cX7_isNumber 13 = .ok (.iload_n 2, 1) := by decide +kernel
theorem dX7_isNumber_14 : decode cX7_isNumber 14 = .ok (.invokestatic 67, 3) := by decide +kernel
theorem dX7_isNumber_17 : decode cX7_isNumber 17 = .ok (.ifCond .eq 7, 3) := by decide +kernel
theorem dX7_isNumber_20 : decode cX7_isNumber 20 = .ok (.iconst 1, 1) := by decide +kernel
theorem dX7_isNumber_21 : decode cX7_isNumber 21 = .ok (.goto 4, 3) := by decide +kernel
theorem dX7_isNumber_24 : decode cX7_isNumber 24 = .ok (.iconst 0, 1) := by decide +kernel
theorem dX7_isNumber_25 : decode cX7_isNumber 25 = .ok (.ireturn, 1) := by decide +kernel
set_option maxHeartbeats 4000000 in
set_option maxRecDepth 100000 in
theorem c_X7_isNumber (l : Launch) (D : va_G) (cy : Nat → ClassId) (ad adK adV : Nat → Nat) (M : Mm) (o0 : Nat) (a1 : Int32) (a2 : Int32) (res : Mm × Int32) (h : f_X7_isNumber M o0 a1 a2 = some res) : Met l yX7_isNumber (wU yX7_isNumber cX7_isNumber 3 (some .boolean)) rmX7_isNumber (va_Pc [.ref (ad o0), .int a1, .int a2] (Pre D cy shM ad nM adK adV M)) (va_Qi (fun r (M2 : Mm) => r = res.2 ∧ M2 = res.1) (Pre D cy shM ad nM adK adV) (Aw ad nM)) 0 0 (Aw ad nM) := by
  refine Met.ofW (cc := cX7_isNumber) (maxL := 3) (ret := (some .boolean)) (by decide) rfl ?_
  intro p e s m args below meth c s₁ B hml hv
  obtain ⟨hargs, hPre⟩ := hv
  have hx := B.exec
  have hb := B.bytes
  have hr := B.returns
  have hts := atoms_spec (ws := wU yX7_isNumber cX7_isNumber 3 (some .boolean)) B.pre
  have hq : ∀ w ∈ gW, w.before args s = true := fun w hw => hts w (List.mem_cons_of_mem _ hw)
  have hcm : ∀ w ∈ gW, w ∈ wU yX7_isNumber cX7_isNumber 3 (some .boolean) := fun w hw => List.mem_cons_of_mem _ hw
  have hown : s.vm.findClass RX7 = some m.cls := findClass_of_methodNamed B.named
  have hlocks := B.notSynchronized
  have hF : CallFix p m c cX7_isNumber 3 s args (wU yX7_isNumber cX7_isNumber 3 (some .boolean)) RX7 := ⟨hx, hb, hml, hown, hts⟩
  have hK := hPre.2.1
  have hZ := hPre.2.2.2
  have hw : Wd D cy shM ad nM (Aw ad nM) s.heap M s.heap [] := ⟨hPre.1, hPre.2.2.1, va_S.rf⟩
  have iw7 : ∀ w ∈ u_ws RX7 TX7 30, w ∈ wU yX7_isNumber cX7_isNumber 3 (some .boolean) := fun w hw => List.mem_cons_of_mem _ (iX7 w hw)
  rw [show entryFrame m args 3 = entryFrame m ([.ref (ad o0), .int a1, .int a2] : List Value).toArray 3 from by rw [hargs]]
  have hl := lv_entry ([.ref (ad o0), .int a1, .int a2]) (n := 3) (Nat.le_of_ble_eq_true rfl)
  rw [lg_entry_eq]
  generalize (lg_sl ([.ref (ad o0), .int a1, .int a2]) ++ List.replicate (3 - (lg_sl ([.ref (ad o0), .int a1, .int a2])).length) Slot.unset).toArray = ls at hl ⊢
  have hl : lv_has ls 3 [(0, .ref (ad o0)), (1, .int a1), (2, .int a2)] := hl
  unfold f_X7_isNumber at h
  refine lv_aload_n hx hb dX7_isNumber_0 rfl (lv_at hl 0 rfl) ?_
  replace h := gd_some h
  obtain ⟨g1, h⟩ := h
  refine r_getI hx hb hts iw7 hown hK hw o0 11 g1 (by decide) rfl (by decide) rfl (hq _ qw899) (fun _ h9 => h9) dX7_isNumber_1 ?_
  refine lv_iconst (v := (2 : Int32)) hx hb dX7_isNumber_4 (by decide) ?_
  refine lv_icmp_ne (tgt := 24) hx hb dX7_isNumber_5 (by decide) (fun c2 => ?_) (fun c2 => ?_)
  · replace h := if_some_f c2 h
    refine lv_iconst (v := (0 : Int32)) hx hb dX7_isNumber_24 (by decide) ?_
    exact r_iret hx hb hr rfl hlocks hZ hK hw h dX7_isNumber_25
  · replace h := if_some_t c2 h
    refine lv_aload_n hx hb dX7_isNumber_8 rfl (lv_at hl 0 rfl) ?_
    refine r_getI hx hb hts iw7 hown hK hw o0 13 g1 (by decide) rfl (by decide) rfl (hq _ qw901) (fun _ h9 => h9) dX7_isNumber_9 ?_
    refine lv_iload_n hx hb dX7_isNumber_12 rfl (lv_at hl 1 rfl) ?_
    refine lv_iload_n hx hb dX7_isNumber_13 rfl (lv_at hl 2 rfl) ?_
    replace h := bd_some h
    obtain ⟨r3, er3, h⟩ := h
    refine r_callSi (As := [.int (M.1 o0 13), .int a1, .int a2]) (rest := []) hF (c_X7_in l D cy ad adK adV M (M.1 o0 13) a1 a2 r3 er3) (gW_goodS hcm qw985 qw983 qw984 qw67) hdX7_in ⟨Nat.le_of_ble_eq_true rfl, Nat.le_of_ble_eq_true rfl⟩ rfl rfl hZ hK hw rfl hl.1 rfl (Nat.le_of_ble_eq_true rfl) ⟨Nat.zero_le _, Nat.zero_le _⟩ dX7_isNumber_14 (fun H locs hw => ?_)
    refine lv_if_eq (tgt := 24) hx hb dX7_isNumber_17 (by decide) (fun c4 => ?_) (fun c4 => ?_)
    · replace h := if_some_t c4 h
      refine lv_iconst (v := (0 : Int32)) hx hb dX7_isNumber_24 (by decide) ?_
      exact r_iret hx hb hr rfl hlocks hZ hK hw h dX7_isNumber_25
    · replace h := if_some_f c4 h
      refine lv_iconst (v := (1 : Int32)) hx hb dX7_isNumber_20 (by decide) ?_
      refine lv_goto (tgt := 25) hx hb dX7_isNumber_21 (by decide) ?_
      exact r_iret hx hb hr rfl hlocks hZ hK hw h dX7_isNumber_25
theorem dX7_takes_0 : decode cX7_takes 0 = .ok (.aload_n 0, 1) := by decide +kernel
theorem dX7_takes_1 : decode cX7_takes 1 = .ok (.aload_n 1, 1) := by decide +kernel
theorem dX7_takes_2 : decode cX7_takes 2 = .ok (.invokevirtual 166, 3) := by decide +kernel
theorem dX7_takes_5 : decode cX7_takes 5 = .ok (.ifCond .ne 5, 3) := by decide +kernel
theorem dX7_takes_8 : decode cX7_takes 8 = .ok (.iconst 0, 1) := by decide +kernel
theorem dX7_takes_9 : decode cX7_takes 9 = .ok (.ireturn, 1) := by decide +kernel
theorem dX7_takes_10 : decode cX7_takes 10 = .ok (.aload_n 0, 1) := by decide +kernel
theorem dX7_takes_11 : decode cX7_takes 11 = .ok (.invokevirtual 170, 3) := by decide +kernel
theorem dX7_takes_14 : decode cX7_takes 14 = .ok (.iconst 1, 1) := by decide +kernel
theorem dX7_takes_15 : decode cX7_takes 15 = .ok (.ireturn, 1) := by decide +kernel
set_option maxHeartbeats 4000000 in
set_option maxRecDepth 100000 in
theorem c_X7_takes (l : Launch) (D : va_G) (cy : Nat → ClassId) (ad adK adV : Nat → Nat) (M : Mm) (o0 : Nat) (a1 : Nat) (res : Mm × Int32) (h : f_X7_takes M o0 a1 = some res) : Met l yX7_takes (wU yX7_takes cX7_takes 2 (some .boolean)) rmX7_takes (va_Pc [.ref (ad o0), .ref (adK a1)] (Pre D cy shM ad nM adK adV M)) (va_Qi (fun r (M2 : Mm) => r = res.2 ∧ M2 = res.1) (Pre D cy shM ad nM adK adV) (Aw ad nM)) 0 0 (Aw ad nM) := by
  refine Met.ofW (cc := cX7_takes) (maxL := 2) (ret := (some .boolean)) (by decide) rfl ?_
  intro p e s m args below meth c s₁ B hml hv
  obtain ⟨hargs, hPre⟩ := hv
  have hx := B.exec
  have hb := B.bytes
  have hr := B.returns
  have hts := atoms_spec (ws := wU yX7_takes cX7_takes 2 (some .boolean)) B.pre
  have hq : ∀ w ∈ gW, w.before args s = true := fun w hw => hts w (List.mem_cons_of_mem _ hw)
  have hcm : ∀ w ∈ gW, w ∈ wU yX7_takes cX7_takes 2 (some .boolean) := fun w hw => List.mem_cons_of_mem _ hw
  have hown : s.vm.findClass RX7 = some m.cls := findClass_of_methodNamed B.named
  have hlocks := B.notSynchronized
  have hF : CallFix p m c cX7_takes 2 s args (wU yX7_takes cX7_takes 2 (some .boolean)) RX7 := ⟨hx, hb, hml, hown, hts⟩
  have hK := hPre.2.1
  have hZ := hPre.2.2.2
  have hw : Wd D cy shM ad nM (Aw ad nM) s.heap M s.heap [] := ⟨hPre.1, hPre.2.2.1, va_S.rf⟩
  rw [show entryFrame m args 2 = entryFrame m ([.ref (ad o0), .ref (adK a1)] : List Value).toArray 2 from by rw [hargs]]
  have hl := lv_entry ([.ref (ad o0), .ref (adK a1)]) (n := 2) (Nat.le_of_ble_eq_true rfl)
  rw [lg_entry_eq]
  generalize (lg_sl ([.ref (ad o0), .ref (adK a1)]) ++ List.replicate (2 - (lg_sl ([.ref (ad o0), .ref (adK a1)])).length) Slot.unset).toArray = ls at hl ⊢
  have hl : lv_has ls 2 [(0, .ref (ad o0)), (1, .ref (adK a1))] := hl
  unfold f_X7_takes at h
  refine lv_aload_n hx hb dX7_takes_0 rfl (lv_at hl 0 rfl) ?_
  refine lv_aload_n hx hb dX7_takes_1 rfl (lv_at hl 1 rfl) ?_
  replace h := gd_some h
  obtain ⟨g2, h⟩ := h
  replace h := bd_some h
  obtain ⟨r1, er1, h⟩ := h
  refine r_callVi (As := [.ref (adK a1)]) (rest := []) hF (c_X7_isWord l D cy ad adK adV M o0 a1 r1 er1) (gW_goodV hcm qw1102 qw1099 qw1101 qw36 qw67) hdX7_isWord rfl ⟨Nat.le_of_ble_eq_true rfl, Nat.le_of_ble_eq_true rfl⟩ rfl rfl hZ hK hw g2 (by decide) rfl rfl hl.1 rfl (Nat.le_of_ble_eq_true rfl) ⟨Nat.zero_le _, Nat.zero_le _⟩ dX7_takes_2 (fun H locs hw => ?_)
  refine lv_if_ne (tgt := 10) hx hb dX7_takes_5 (by decide) (fun c3 => ?_) (fun c3 => ?_)
  · replace h := if_some_f c3 h
    refine lv_aload_n hx hb dX7_takes_10 rfl (lv_at hl 0 rfl) ?_
    replace h := bd_some h
    obtain ⟨r4, er4, h⟩ := h
    refine r_callVv (As := []) (rest := []) hF (c_X7_nextToken l D cy ad adK adV r1.1 o0 r4 er4) (gW_goodV hcm qw1085 qw1082 qw1084 qw32 qw67) hdX7_nextToken rfl ⟨Nat.le_of_ble_eq_true rfl, Nat.le_of_ble_eq_true rfl⟩ rfl rfl hZ hK hw g2 (by decide) rfl rfl hl.1 rfl (Nat.le_of_ble_eq_true rfl) ⟨Nat.zero_le _, Nat.zero_le _⟩ dX7_takes_11 (fun H locs hw => ?_)
    refine lv_iconst (v := (1 : Int32)) hx hb dX7_takes_14 (by decide) ?_
    exact r_iret hx hb hr rfl hlocks hZ hK hw h dX7_takes_15
  · replace h := if_some_t c3 h
    refine lv_iconst (v := (0 : Int32)) hx hb dX7_takes_8 (by decide) ?_
    exact r_iret hx hb hr rfl hlocks hZ hK hw h dX7_takes_9
theorem dX7_takesNumber_0 : decode cX7_takesNumber 0 = .ok (.aload_n 0, 1) := by decide +kernel
theorem dX7_takesNumber_1 : decode cX7_takesNumber 1 = .ok (.iload_n 1, 1) := by decide +kernel
theorem dX7_takesNumber_2 : decode cX7_takesNumber 2 = .ok (.iload_n 2, 1) := by decide +kernel
theorem dX7_takesNumber_3 : decode cX7_takesNumber 3 = .ok (.invokevirtual 173, 3) := by decide +kernel
theorem dX7_takesNumber_6 : decode cX7_takesNumber 6 = .ok (.ifCond .ne 5, 3) := by decide +kernel
theorem dX7_takesNumber_9 : decode cX7_takesNumber 9 = .ok (.iconst 0, 1) := by decide +kernel
theorem dX7_takesNumber_10 : decode cX7_takesNumber 10 = .ok (.ireturn, 1) := by decide +kernel
theorem dX7_takesNumber_11 : decode cX7_takesNumber 11 = .ok (.aload_n 0, 1) := by decide +kernel
theorem dX7_takesNumber_12 : decode cX7_takesNumber 12 = .ok (.aload_n 0, 1) := by decide +kernel
theorem dX7_takesNumber_13 : decode cX7_takesNumber 13 = .ok (.getfield 153, 3) := by decide +kernel
theorem dX7_takesNumber_16 : decode cX7_takesNumber 16 = .ok (.putfield 176, 3) := by decide +kernel
theorem dX7_takesNumber_19 : decode cX7_takesNumber 19 = .ok (.aload_n 0, 1) := by decide +kernel
theorem dX7_takesNumber_20 : decode cX7_takesNumber 20 = .ok (.invokevirtual 170, 3) := by decide +kernel
theorem dX7_takesNumber_23 : decode cX7_takesNumber 23 = .ok (.iconst 1, 1) := by decide +kernel
theorem dX7_takesNumber_24 : decode cX7_takesNumber 24 = .ok (.ireturn, 1) := by decide +kernel
set_option maxHeartbeats 4000000 in
set_option maxRecDepth 100000 in
theorem c_X7_takesNumber (l : Launch) (D : va_G) (cy : Nat → ClassId) (ad adK adV : Nat → Nat) (M : Mm) (o0 : Nat) (a1 : Int32) (a2 : Int32) (res : Mm × Int32) (h : f_X7_takesNumber M o0 a1 a2 = some res) : Met l yX7_takesNumber (wU yX7_takesNumber cX7_takesNumber 3 (some .boolean)) rmX7_takesNumber (va_Pc [.ref (ad o0), .int a1, .int a2] (Pre D cy shM ad nM adK adV M)) (va_Qi (fun r (M2 : Mm) => r = res.2 ∧ M2 = res.1) (Pre D cy shM ad nM adK adV) (Aw ad nM)) 0 0 (Aw ad nM) := by
  refine Met.ofW (cc := cX7_takesNumber) (maxL := 3) (ret := (some .boolean)) (by decide) rfl ?_
  intro p e s m args below meth c s₁ B hml hv
  obtain ⟨hargs, hPre⟩ := hv
  have hx := B.exec
  have hb := B.bytes
  have hr := B.returns
  have hts := atoms_spec (ws := wU yX7_takesNumber cX7_takesNumber 3 (some .boolean)) B.pre
  have hq : ∀ w ∈ gW, w.before args s = true := fun w hw => hts w (List.mem_cons_of_mem _ hw)
  have hcm : ∀ w ∈ gW, w ∈ wU yX7_takesNumber cX7_takesNumber 3 (some .boolean) := fun w hw => List.mem_cons_of_mem _ hw
  have hown : s.vm.findClass RX7 = some m.cls := findClass_of_methodNamed B.named
  have hlocks := B.notSynchronized
  have hF : CallFix p m c cX7_takesNumber 3 s args (wU yX7_takesNumber cX7_takesNumber 3 (some .boolean)) RX7 := ⟨hx, hb, hml, hown, hts⟩
  have hK := hPre.2.1
  have hZ := hPre.2.2.2
  have hw : Wd D cy shM ad nM (Aw ad nM) s.heap M s.heap [] := ⟨hPre.1, hPre.2.2.1, va_S.rf⟩
  have iw7 : ∀ w ∈ u_ws RX7 TX7 30, w ∈ wU yX7_takesNumber cX7_takesNumber 3 (some .boolean) := fun w hw => List.mem_cons_of_mem _ (iX7 w hw)
  rw [show entryFrame m args 3 = entryFrame m ([.ref (ad o0), .int a1, .int a2] : List Value).toArray 3 from by rw [hargs]]
  have hl := lv_entry ([.ref (ad o0), .int a1, .int a2]) (n := 3) (Nat.le_of_ble_eq_true rfl)
  rw [lg_entry_eq]
  generalize (lg_sl ([.ref (ad o0), .int a1, .int a2]) ++ List.replicate (3 - (lg_sl ([.ref (ad o0), .int a1, .int a2])).length) Slot.unset).toArray = ls at hl ⊢
  have hl : lv_has ls 3 [(0, .ref (ad o0)), (1, .int a1), (2, .int a2)] := hl
  unfold f_X7_takesNumber at h
  refine lv_aload_n hx hb dX7_takesNumber_0 rfl (lv_at hl 0 rfl) ?_
  refine lv_iload_n hx hb dX7_takesNumber_1 rfl (lv_at hl 1 rfl) ?_
  refine lv_iload_n hx hb dX7_takesNumber_2 rfl (lv_at hl 2 rfl) ?_
  replace h := gd_some h
  obtain ⟨g2, h⟩ := h
  replace h := bd_some h
  obtain ⟨r1, er1, h⟩ := h
  refine r_callVi (As := [.int a1, .int a2]) (rest := []) hF (c_X7_isNumber l D cy ad adK adV M o0 a1 a2 r1 er1) (gW_goodV hcm qw1112 qw1109 qw1111 qw38 qw67) hdX7_isNumber rfl ⟨Nat.le_of_ble_eq_true rfl, Nat.le_of_ble_eq_true rfl⟩ rfl rfl hZ hK hw g2 (by decide) rfl rfl hl.1 rfl (Nat.le_of_ble_eq_true rfl) ⟨Nat.zero_le _, Nat.zero_le _⟩ dX7_takesNumber_3 (fun H locs hw => ?_)
  refine lv_if_ne (tgt := 11) hx hb dX7_takesNumber_6 (by decide) (fun c3 => ?_) (fun c3 => ?_)
  · replace h := if_some_f c3 h
    refine lv_aload_n hx hb dX7_takesNumber_11 rfl (lv_at hl 0 rfl) ?_
    refine lv_aload_n hx hb dX7_takesNumber_12 rfl (lv_at hl 0 rfl) ?_
    refine r_getI hx hb hts iw7 hown hK hw o0 13 g2 (by decide) rfl (by decide) rfl (hq _ qw901) (fun _ h9 => h9) dX7_takesNumber_13 ?_
    refine r_putI hx hb hts iw7 tyX7 tyX7_ok nmX7 hown hK hw o0 14 g2 (by decide) rfl (by decide) rfl (hq _ qw902) (fun _ h9 => h9) rfl rfl rfl dX7_takesNumber_16 (fun H locs hw => ?_)
    replace h := lt_some h
    obtain ⟨M4, eM4, h⟩ := h
    rw [← eM4] at hw
    refine lv_aload_n hx hb dX7_takesNumber_19 rfl (lv_at hl 0 rfl) ?_
    replace h := bd_some h
    obtain ⟨r5, er5, h⟩ := h
    refine r_callVv (As := []) (rest := []) hF (c_X7_nextToken l D cy ad adK adV M4 o0 r5 er5) (gW_goodV hcm qw1085 qw1082 qw1084 qw32 qw67) hdX7_nextToken rfl ⟨Nat.le_of_ble_eq_true rfl, Nat.le_of_ble_eq_true rfl⟩ rfl rfl hZ hK hw g2 (by decide) rfl rfl hl.1 rfl (Nat.le_of_ble_eq_true rfl) ⟨Nat.zero_le _, Nat.zero_le _⟩ dX7_takesNumber_20 (fun H locs hw => ?_)
    refine lv_iconst (v := (1 : Int32)) hx hb dX7_takesNumber_23 (by decide) ?_
    exact r_iret hx hb hr rfl hlocks hZ hK hw h dX7_takesNumber_24
  · replace h := if_some_t c3 h
    refine lv_iconst (v := (0 : Int32)) hx hb dX7_takesNumber_9 (by decide) ?_
    exact r_iret hx hb hr rfl hlocks hZ hK hw h dX7_takesNumber_10
theorem dX7_takesSide_0 : decode cX7_takesSide 0 = .ok (.aload_n 0, 1) := by decide +kernel
theorem dX7_takesSide_1 : decode cX7_takesSide 1 = .ok (.iconst 1, 1) := by decide +kernel
theorem dX7_takesSide_2 : decode cX7_takesSide 2 = .ok (.bipush 9, 2) := by decide +kernel
theorem dX7_takesSide_4 : decode cX7_takesSide 4 = .ok (.invokevirtual 179, 3) := by decide +kernel
theorem dX7_takesSide_7 : decode cX7_takesSide 7 = .ok (.ifCond .ne 5, 3) := by decide +kernel
theorem dX7_takesSide_10 : decode cX7_takesSide 10 = .ok (.iconst 0, 1) := by decide +kernel
theorem dX7_takesSide_11 : decode cX7_takesSide 11 = .ok (.ireturn, 1) := by decide +kernel
theorem dX7_takesSide_12 : decode cX7_takesSide 12 = .ok (.aload_n 0, 1) := by decide +kernel
theorem dX7_takesSide_13 : decode cX7_takesSide 13 = .ok (.getfield 176, 3) := by decide +kernel
theorem dX7_takesSide_16 : decode cX7_takesSide 16 = .ok (.istore_n 2, 1) := by decide +kernel
theorem dX7_takesSide_17 : decode cX7_takesSide 17 = .ok (.iconst 0, 1) := by decide +kernel
theorem dX7_takesSide_18 : decode cX7_takesSide 18 = .ok (.istore_n 3, 1) := by decide +kernel
theorem dX7_takesSide_19 : decode cX7_takesSide 19 = .ok (.aload_n 0, 1) := by decide +kernel
theorem dX7_takesSide_20 : decode cX7_takesSide 20 = .ok (.ldc 182, 2) := by decide +kernel
theorem dX7_takesSide_22 : decode cX7_takesSide 22 = .ok (.invokevirtual 184, 3) := by decide +kernel
theorem dX7_takesSide_25 : decode cX7_takesSide 25 = .ok (.ifCond .eq 20, 3) := by decide +kernel
theorem dX7_takesSide_28 : decode cX7_takesSide 28 = .ok (.aload_n 0, 1) := by decide +kernel
theorem dX7_takesSide_29 : decode cX7_takesSide 29 = .ok (.iconst 0, 1) := by decide +kernel
theorem dX7_takesSide_30 : decode cX7_takesSide 30 = .ok (.bipush 9, 2) := by decide +kernel
theorem dX7_takesSide_32 : decode cX7_takesSide 32 = .ok (.invokevirtual 179, 3) := by decide +kernel
theorem dX7_takesSide_35 : decode cX7_takesSide 35 = .ok (.ifCond .ne 5, 3) := by decide +kernel
theorem dX7_takesSide_38 : decode cX7_takesSide 38 = .ok (.iconst 0, 1) := by decide +kernel
theorem dX7_takesSide_39 : decode cX7_takesSide 39 = .ok (.ireturn, 1) := by decide +kernel
theorem dX7_takesSide_40 : decode cX7_takesSide 40 = .ok (.aload_n 0, 1) := by decide +kernel
theorem dX7_takesSide_41 : decode cX7_takesSide 41 = .ok (.getfield 176, 3) := by decide +kernel
theorem dX7_takesSide_44 : decode cX7_takesSide 44 = .ok (.istore_n 3, 1) := by decide +kernel
theorem dX7_takesSide_45 : decode cX7_takesSide 45 = .ok (.aload_n 0, 1) := by decide +kernel
theorem dX7_takesSide_46 : decode cX7_takesSide 46 = .ok (.iload_n 1, 1) := by decide +kernel
theorem dX7_takesSide_47 : decode cX7_takesSide 47 = .ok (.iload_n 2, 1) := by decide +kernel
theorem dX7_takesSide_48 : decode cX7_takesSide 48 = .ok (.iload_n 3, 1) := by decide +kernel
theorem dX7_takesSide_49 : decode cX7_takesSide 49 = .ok (.invokevirtual 118, 3) := by decide +kernel
theorem dX7_takesSide_52 : decode cX7_takesSide 52 = .ok (.iconst 1, 1) := by decide +kernel
theorem dX7_takesSide_53 : decode cX7_takesSide 53 = .ok (.ireturn, 1) := by decide +kernel
set_option maxHeartbeats 4000000 in
set_option maxRecDepth 100000 in
theorem c_X7_takesSide (l : Launch) (D : va_G) (cy : Nat → ClassId) (ad adK adV : Nat → Nat) (M : Mm) (o0 : Nat) (a1 : Int32) (res : Mm × Int32) (h : f_X7_takesSide M o0 a1 = some res) : Met l yX7_takesSide (wU yX7_takesSide cX7_takesSide 4 (some .boolean)) rmX7_takesSide (va_Pc [.ref (ad o0), .int a1] (Pre D cy shM ad nM adK adV M)) (va_Qi (fun r (M2 : Mm) => r = res.2 ∧ M2 = res.1) (Pre D cy shM ad nM adK adV) (Aw ad nM)) 0 0 (Aw ad nM) := by
  refine Met.ofW (cc := cX7_takesSide) (maxL := 4) (ret := (some .boolean)) (by decide) rfl ?_
  intro p e s m args below meth c s₁ B hml hv
  obtain ⟨hargs, hPre⟩ := hv
  have hx := B.exec
  have hb := B.bytes
  have hr := B.returns
  have hts := atoms_spec (ws := wU yX7_takesSide cX7_takesSide 4 (some .boolean)) B.pre
  have hq : ∀ w ∈ gW, w.before args s = true := fun w hw => hts w (List.mem_cons_of_mem _ hw)
  have hcm : ∀ w ∈ gW, w ∈ wU yX7_takesSide cX7_takesSide 4 (some .boolean) := fun w hw => List.mem_cons_of_mem _ hw
  have hown : s.vm.findClass RX7 = some m.cls := findClass_of_methodNamed B.named
  have hlocks := B.notSynchronized
  have hF : CallFix p m c cX7_takesSide 4 s args (wU yX7_takesSide cX7_takesSide 4 (some .boolean)) RX7 := ⟨hx, hb, hml, hown, hts⟩
  have hK := hPre.2.1
  have hZ := hPre.2.2.2
  have hw : Wd D cy shM ad nM (Aw ad nM) s.heap M s.heap [] := ⟨hPre.1, hPre.2.2.1, va_S.rf⟩
  have iw7 : ∀ w ∈ u_ws RX7 TX7 30, w ∈ wU yX7_takesSide cX7_takesSide 4 (some .boolean) := fun w hw => List.mem_cons_of_mem _ (iX7 w hw)
  rw [show entryFrame m args 4 = entryFrame m ([.ref (ad o0), .int a1] : List Value).toArray 4 from by rw [hargs]]
  have hl := lv_entry ([.ref (ad o0), .int a1]) (n := 4) (Nat.le_of_ble_eq_true rfl)
  rw [lg_entry_eq]
  generalize (lg_sl ([.ref (ad o0), .int a1]) ++ List.replicate (4 - (lg_sl ([.ref (ad o0), .int a1])).length) Slot.unset).toArray = ls at hl ⊢
  have hl : lv_has ls 4 [(0, .ref (ad o0)), (1, .int a1)] := hl
  have hb45 : ∀ (M : Mm) (x0 : Nat) (x1 : Int32) (x2 : Int32) (x3 : Int32), f_X7_takesSide_b45 M x0 x1 x2 x3 = some res → ∀ (H : Heap) (locs : List Loc) (ls : Array Slot), Wd D cy shM ad nM (Aw ad nM) s.heap M H locs → lv_has ls 4 [(0, .ref (ad x0)), (1, .int x1), (2, .int x2), (3, .int x3)] → W p l e (headSpec (wU yX7_takesSide cX7_takesSide 4 (some .boolean)) rmX7_takesSide).room s m args below meth c H locs 0 0 (QI D cy shM ad nM adK adV below args s res) (F0 m 45 ls []) := by
    intro M x0 x1 x2 x3 h H locs ls hw hl
    unfold f_X7_takesSide_b45 at h
    refine lv_aload_n hx hb dX7_takesSide_45 rfl (lv_at hl 0 rfl) ?_
    refine lv_iload_n hx hb dX7_takesSide_46 rfl (lv_at hl 1 rfl) ?_
    refine lv_iload_n hx hb dX7_takesSide_47 rfl (lv_at hl 2 rfl) ?_
    refine lv_iload_n hx hb dX7_takesSide_48 rfl (lv_at hl 3 rfl) ?_
    replace h := gd_some h
    obtain ⟨g2, h⟩ := h
    replace h := bd_some h
    obtain ⟨r1, er1, h⟩ := h
    refine r_callVv (As := [.int x1, .int x2, .int x3]) (rest := []) hF (c_X7_addSide l D cy ad adK adV M x0 x1 x2 x3 r1 er1) (gW_goodV hcm qw994 qw991 qw993 qw19 qw67) hdX7_addSide rfl ⟨Nat.le_of_ble_eq_true rfl, Nat.le_of_ble_eq_true rfl⟩ rfl rfl hZ hK hw g2 (by decide) rfl rfl hl.1 rfl (Nat.le_of_ble_eq_true rfl) ⟨Nat.zero_le _, Nat.zero_le _⟩ dX7_takesSide_49 (fun H locs hw => ?_)
    refine lv_iconst (v := (1 : Int32)) hx hb dX7_takesSide_52 (by decide) ?_
    exact r_iret hx hb hr rfl hlocks hZ hK hw h dX7_takesSide_53
  unfold f_X7_takesSide at h
  refine lv_aload_n hx hb dX7_takesSide_0 rfl (lv_at hl 0 rfl) ?_
  refine lv_iconst (v := (1 : Int32)) hx hb dX7_takesSide_1 (by decide) ?_
  refine lv_bipush (v := (9 : Int32)) hx hb dX7_takesSide_2 (by decide) ?_
  replace h := gd_some h
  obtain ⟨g4, h⟩ := h
  replace h := bd_some h
  obtain ⟨r3, er3, h⟩ := h
  refine r_callVi (As := [.int (1 : Int32), .int (9 : Int32)]) (rest := []) hF (c_X7_takesNumber l D cy ad adK adV M o0 (1 : Int32) (9 : Int32) r3 er3) (gW_goodV hcm qw1108 qw1105 qw1107 qw37 qw67) hdX7_takesNumber rfl ⟨Nat.le_of_ble_eq_true rfl, Nat.le_of_ble_eq_true rfl⟩ rfl rfl hZ hK hw g4 (by decide) rfl rfl hl.1 rfl (Nat.le_of_ble_eq_true rfl) ⟨Nat.zero_le _, Nat.zero_le _⟩ dX7_takesSide_4 (fun H locs hw => ?_)
  refine lv_if_ne (tgt := 12) hx hb dX7_takesSide_7 (by decide) (fun c5 => ?_) (fun c5 => ?_)
  · replace h := if_some_f c5 h
    refine lv_aload_n hx hb dX7_takesSide_12 rfl (lv_at hl 0 rfl) ?_
    refine r_getI hx hb hts iw7 hown hK hw o0 14 g4 (by decide) rfl (by decide) rfl (hq _ qw902) (fun _ h9 => h9) dX7_takesSide_13 ?_
    refine lv_istore_n (lv' := [(2, .int (r3.1.1 o0 14)), (0, .ref (ad o0)), (1, .int a1)]) hx hb dX7_takesSide_16 rfl hl (by decide) rfl (fun ls hl => ?_)
    refine lv_iconst (v := (0 : Int32)) hx hb dX7_takesSide_17 (by decide) ?_
    refine lv_istore_n (lv' := [(3, .int (0 : Int32)), (2, .int (r3.1.1 o0 14)), (0, .ref (ad o0)), (1, .int a1)]) hx hb dX7_takesSide_18 rfl hl (by decide) rfl (fun ls hl => ?_)
    refine lv_aload_n hx hb dX7_takesSide_19 rfl (lv_at hl 2 rfl) ?_
    refine va_ldcS (own := RX7) (tx := "tells") (index := 182) (q := adK 7) hx hb hown (hZ.str stm21) dX7_takesSide_20 ?_
    replace h := bd_some h
    obtain ⟨r6, er6, h⟩ := h
    refine r_callVi (As := [.ref (adK 7)]) (rest := []) hF (c_X7_takes l D cy ad adK adV r3.1 o0 7 r6 er6) (gW_goodV hcm qw1098 qw1095 qw1097 qw35 qw67) hdX7_takes rfl ⟨Nat.le_of_ble_eq_true rfl, Nat.le_of_ble_eq_true rfl⟩ rfl rfl hZ hK hw g4 (by decide) rfl rfl hl.1 rfl (Nat.le_of_ble_eq_true rfl) ⟨Nat.zero_le _, Nat.zero_le _⟩ dX7_takesSide_22 (fun H locs hw => ?_)
    refine lv_if_eq (tgt := 45) hx hb dX7_takesSide_25 (by decide) (fun c7 => ?_) (fun c7 => ?_)
    · replace h := if_some_t c7 h
      exact hb45 _ _ _ _ _ h _ _ _ hw (lv_sub hl [2, 3, 1, 0] rfl)
    · replace h := if_some_f c7 h
      refine lv_aload_n hx hb dX7_takesSide_28 rfl (lv_at hl 2 rfl) ?_
      refine lv_iconst (v := (0 : Int32)) hx hb dX7_takesSide_29 (by decide) ?_
      refine lv_bipush (v := (9 : Int32)) hx hb dX7_takesSide_30 (by decide) ?_
      replace h := bd_some h
      obtain ⟨r8, er8, h⟩ := h
      refine r_callVi (As := [.int (0 : Int32), .int (9 : Int32)]) (rest := []) hF (c_X7_takesNumber l D cy ad adK adV r6.1 o0 (0 : Int32) (9 : Int32) r8 er8) (gW_goodV hcm qw1108 qw1105 qw1107 qw37 qw67) hdX7_takesNumber rfl ⟨Nat.le_of_ble_eq_true rfl, Nat.le_of_ble_eq_true rfl⟩ rfl rfl hZ hK hw g4 (by decide) rfl rfl hl.1 rfl (Nat.le_of_ble_eq_true rfl) ⟨Nat.zero_le _, Nat.zero_le _⟩ dX7_takesSide_32 (fun H locs hw => ?_)
      refine lv_if_ne (tgt := 40) hx hb dX7_takesSide_35 (by decide) (fun c9 => ?_) (fun c9 => ?_)
      · replace h := if_some_f c9 h
        refine lv_aload_n hx hb dX7_takesSide_40 rfl (lv_at hl 2 rfl) ?_
        refine r_getI hx hb hts iw7 hown hK hw o0 14 g4 (by decide) rfl (by decide) rfl (hq _ qw902) (fun _ h9 => h9) dX7_takesSide_41 ?_
        refine lv_istore_n (lv' := [(3, .int (r8.1.1 o0 14)), (2, .int (r3.1.1 o0 14)), (0, .ref (ad o0)), (1, .int a1)]) hx hb dX7_takesSide_44 rfl hl (by decide) rfl (fun ls hl => ?_)
        exact hb45 _ _ _ _ _ h _ _ _ hw (lv_sub hl [2, 3, 1, 0] rfl)
      · replace h := if_some_t c9 h
        refine lv_iconst (v := (0 : Int32)) hx hb dX7_takesSide_38 (by decide) ?_
        exact r_iret hx hb hr rfl hlocks hZ hK hw h dX7_takesSide_39
  · replace h := if_some_t c5 h
    refine lv_iconst (v := (0 : Int32)) hx hb dX7_takesSide_10 (by decide) ?_
    exact r_iret hx hb hr rfl hlocks hZ hK hw h dX7_takesSide_11
theorem dX7_takesGame_0 : decode cX7_takesGame 0 = .ok (.aload_n 0, 1) := by decide +kernel
theorem dX7_takesGame_1 : decode cX7_takesGame 1 = .ok (.iconst 0, 1) := by decide +kernel
theorem dX7_takesGame_2 : decode cX7_takesGame 2 = .ok (.aload_n 0, 1) := by decide +kernel
theorem dX7_takesGame_3 : decode cX7_takesGame 3 = .ok (.getfield 7, 3) := by decide +kernel
theorem dX7_takesGame_6 : decode cX7_takesGame 6 = .ok (.iconst 0, 1) := by decide +kernel
theorem dX7_takesGame_7 : decode cX7_takesGame 7 = .ok (.iaload, 1) := by decide +kernel
theorem dX7_takesGame_8 : decode cX7_takesGame 8 = .ok (.iconst 1, 1) := by decide +kernel
theorem dX7_takesGame_9 : decode cX7_takesGame 9 = .ok (.isub, 1) := by decide +kernel
theorem dX7_takesGame_10 : decode cX7_takesGame 10 = .ok (.invokevirtual 179, 3) := by decide +kernel
theorem dX7_takesGame_13 : decode cX7_takesGame 13 = .ok (.ifCond .ne 5, 3) := by decide +kernel
theorem dX7_takesGame_16 : decode cX7_takesGame 16 = .ok (.iconst 0, 1) := by decide +kernel
theorem dX7_takesGame_17 : decode cX7_takesGame 17 = .ok (.ireturn, 1) := by decide +kernel
theorem dX7_takesGame_18 : decode cX7_takesGame 18 = .ok (.aload_n 0, 1) := by decide +kernel
theorem dX7_takesGame_19 : decode cX7_takesGame 19 = .ok (.getfield 176, 3) := by decide +kernel
theorem dX7_takesGame_22 : decode cX7_takesGame 22 = .ok (.istore_n 1, 1) := by decide +kernel
theorem dX7_takesGame_23 : decode cX7_takesGame 23 = .ok (.aload_n 0, 1) := by decide +kernel
theorem dX7_takesGame_24 : decode cX7_takesGame 24 = .ok (.iload_n 1, 1) := by decide +kernel
theorem dX7_takesGame_25 : decode cX7_takesGame 25 = .ok (.iload_n 1, 1) := by decide +kernel
theorem dX7_takesGame_26 : decode cX7_takesGame 26 = .ok (.invokevirtual 173, 3) := by decide +kernel
theorem dX7_takesGame_29 : decode cX7_takesGame 29 = .ok (.ifCond .ne 19, 3) := by decide +kernel
theorem dX7_takesGame_32 : decode cX7_takesGame 32 = .ok (.aload_n 0, 1) := by decide +kernel
theorem dX7_takesGame_33 : decode cX7_takesGame 33 = .ok (.iconst 0, 1) := by decide +kernel
theorem dX7_takesGame_34 : decode cX7_takesGame 34 = .ok (.aload_n 0, 1) := by decide +kernel
theorem dX7_takesGame_35 : decode cX7_takesGame 35 = .ok (.getfield 7, 3) := by decide +kernel
theorem dX7_takesGame_38 : decode cX7_takesGame 38 = .ok (.iconst 0, 1) := by decide +kernel
theorem dX7_takesGame_39 : decode cX7_takesGame 39 = .ok (.iaload, 1) := by decide +kernel
theorem dX7_takesGame_40 : decode cX7_takesGame 40 = .ok (.iconst 1, 1) := by decide +kernel
theorem dX7_takesGame_41 : decode cX7_takesGame 41 = .ok (.isub, 1) := by decide +kernel
theorem dX7_takesGame_42 : decode cX7_takesGame 42 = .ok (.invokevirtual 179, 3) := by decide +kernel
theorem dX7_takesGame_45 : decode cX7_takesGame 45 = .ok (.ifCond .ne 5, 3) := by decide +kernel
theorem dX7_takesGame_48 : decode cX7_takesGame 48 = .ok (.iconst 0, 1) := by decide +kernel
theorem dX7_takesGame_49 : decode cX7_takesGame 49 = .ok (.ireturn, 1) := by decide +kernel
theorem dX7_takesGame_50 : decode cX7_takesGame 50 = .ok (.aload_n 0, 1) := by decide +kernel
theorem dX7_takesGame_51 : decode cX7_takesGame 51 = .ok (.getfield 176, 3) := by decide +kernel
theorem dX7_takesGame_54 : decode cX7_takesGame 54 = .ok (.istore_n 2, 1) := by decide +kernel
theorem dX7_takesGame_55 : decode cX7_takesGame 55 = .ok (.iconst 1, 1) := by decide +kernel
theorem dX7_takesGame_56 : decode cX7_takesGame 56 = .ok (.istore_n 3, 1) := by decide +kernel
theorem dX7_takesGame_57 : decode cX7_takesGame 57 = .ok (.aload_n 0, 1) := by decide +kernel
theorem dX7_takesGame_58 : decode cX7_takesGame 58 = .ok (.ldc 187, 2) := by decide +kernel
theorem dX7_takesGame_60 : decode cX7_takesGame 60 = .ok (.invokevirtual 184, 3) := by decide +kernel
theorem dX7_takesGame_63 : decode cX7_takesGame 63 = .ok (.ifCond .eq 20, 3) := by decide +kernel
theorem dX7_takesGame_66 : decode cX7_takesGame 66 = .ok (.aload_n 0, 1) := by decide +kernel
theorem dX7_takesGame_67 : decode cX7_takesGame 67 = .ok (.iconst 1, 1) := by decide +kernel
theorem dX7_takesGame_68 : decode cX7_takesGame 68 = .ok (.bipush 9, 2) := by decide +kernel
theorem dX7_takesGame_70 : decode cX7_takesGame 70 = .ok (.invokevirtual 179, 3) := by decide +kernel
theorem dX7_takesGame_73 : decode cX7_takesGame 73 = .ok (.ifCond .ne 5, 3) := by decide +kernel
theorem dX7_takesGame_76 : decode cX7_takesGame 76 = .ok (.iconst 0, 1) := by decide +kernel
theorem dX7_takesGame_77 : decode cX7_takesGame 77 = .ok (.ireturn, 1) := by decide +kernel
theorem dX7_takesGame_78 : decode cX7_takesGame 78 = .ok (.aload_n 0, 1) := by decide +kernel
theorem dX7_takesGame_79 : decode cX7_takesGame 79 = .ok (.getfield 176, 3) := by decide +kernel
theorem dX7_takesGame_82 : decode cX7_takesGame 82 = .ok (.istore_n 3, 1) := by decide +kernel
theorem dX7_takesGame_83 : decode cX7_takesGame 83 = .ok (.aload_n 0, 1) := by decide +kernel
theorem dX7_takesGame_84 : decode cX7_takesGame 84 = .ok (.iload_n 1, 1) := by decide +kernel
theorem dX7_takesGame_85 : decode cX7_takesGame 85 = .ok (.iload_n 2, 1) := by decide +kernel
theorem dX7_takesGame_86 : decode cX7_takesGame 86 = .ok (.iload_n 3, 1) := by decide +kernel
theorem dX7_takesGame_87 : decode cX7_takesGame 87 = .ok (.invokevirtual 128, 3) := by decide +kernel
theorem dX7_takesGame_90 : decode cX7_takesGame 90 = .ok (.iconst 1, 1) := by decide +kernel
theorem dX7_takesGame_91 : decode cX7_takesGame 91 = .ok (.ireturn, 1) := by decide +kernel
set_option maxHeartbeats 4000000 in
set_option maxRecDepth 100000 in
theorem c_X7_takesGame (l : Launch) (D : va_G) (cy : Nat → ClassId) (ad adK adV : Nat → Nat) (M : Mm) (o0 : Nat) (res : Mm × Int32) (h : f_X7_takesGame M o0 = some res) : Met l yX7_takesGame (wU yX7_takesGame cX7_takesGame 4 (some .boolean)) rmX7_takesGame (va_Pc [.ref (ad o0)] (Pre D cy shM ad nM adK adV M)) (va_Qi (fun r (M2 : Mm) => r = res.2 ∧ M2 = res.1) (Pre D cy shM ad nM adK adV) (Aw ad nM)) 0 0 (Aw ad nM) := by
  refine Met.ofW (cc := cX7_takesGame) (maxL := 4) (ret := (some .boolean)) (by decide) rfl ?_
  intro p e s m args below meth c s₁ B hml hv
  obtain ⟨hargs, hPre⟩ := hv
  have hx := B.exec
  have hb := B.bytes
  have hr := B.returns
  have hts := atoms_spec (ws := wU yX7_takesGame cX7_takesGame 4 (some .boolean)) B.pre
  have hq : ∀ w ∈ gW, w.before args s = true := fun w hw => hts w (List.mem_cons_of_mem _ hw)
  have hcm : ∀ w ∈ gW, w ∈ wU yX7_takesGame cX7_takesGame 4 (some .boolean) := fun w hw => List.mem_cons_of_mem _ hw
  have hown : s.vm.findClass RX7 = some m.cls := findClass_of_methodNamed B.named
  have hlocks := B.notSynchronized
  have hF : CallFix p m c cX7_takesGame 4 s args (wU yX7_takesGame cX7_takesGame 4 (some .boolean)) RX7 := ⟨hx, hb, hml, hown, hts⟩
  have hK := hPre.2.1
  have hZ := hPre.2.2.2
  have hw : Wd D cy shM ad nM (Aw ad nM) s.heap M s.heap [] := ⟨hPre.1, hPre.2.2.1, va_S.rf⟩
  have iw7 : ∀ w ∈ u_ws RX7 TX7 30, w ∈ wU yX7_takesGame cX7_takesGame 4 (some .boolean) := fun w hw => List.mem_cons_of_mem _ (iX7 w hw)
  rw [show entryFrame m args 4 = entryFrame m ([.ref (ad o0)] : List Value).toArray 4 from by rw [hargs]]
  have hl := lv_entry ([.ref (ad o0)]) (n := 4) (Nat.le_of_ble_eq_true rfl)
  rw [lg_entry_eq]
  generalize (lg_sl ([.ref (ad o0)]) ++ List.replicate (4 - (lg_sl ([.ref (ad o0)])).length) Slot.unset).toArray = ls at hl ⊢
  have hl : lv_has ls 4 [(0, .ref (ad o0))] := hl
  have hb83 : ∀ (M : Mm) (x0 : Nat) (x1 : Int32) (x2 : Int32) (x3 : Int32), f_X7_takesGame_b83 M x0 x1 x2 x3 = some res → ∀ (H : Heap) (locs : List Loc) (ls : Array Slot), Wd D cy shM ad nM (Aw ad nM) s.heap M H locs → lv_has ls 4 [(0, .ref (ad x0)), (1, .int x1), (2, .int x2), (3, .int x3)] → W p l e (headSpec (wU yX7_takesGame cX7_takesGame 4 (some .boolean)) rmX7_takesGame).room s m args below meth c H locs 0 0 (QI D cy shM ad nM adK adV below args s res) (F0 m 83 ls []) := by
    intro M x0 x1 x2 x3 h H locs ls hw hl
    unfold f_X7_takesGame_b83 at h
    refine lv_aload_n hx hb dX7_takesGame_83 rfl (lv_at hl 0 rfl) ?_
    refine lv_iload_n hx hb dX7_takesGame_84 rfl (lv_at hl 1 rfl) ?_
    refine lv_iload_n hx hb dX7_takesGame_85 rfl (lv_at hl 2 rfl) ?_
    refine lv_iload_n hx hb dX7_takesGame_86 rfl (lv_at hl 3 rfl) ?_
    replace h := gd_some h
    obtain ⟨g2, h⟩ := h
    replace h := bd_some h
    obtain ⟨r1, er1, h⟩ := h
    refine r_callVv (As := [.int x1, .int x2, .int x3]) (rest := []) hF (c_X7_addGame l D cy ad adK adV M x0 x1 x2 x3 r1 er1) (gW_goodV hcm qw1042 qw1039 qw1041 qw28 qw67) hdX7_addGame rfl ⟨Nat.le_of_ble_eq_true rfl, Nat.le_of_ble_eq_true rfl⟩ rfl rfl hZ hK hw g2 (by decide) rfl rfl hl.1 rfl (Nat.le_of_ble_eq_true rfl) ⟨Nat.zero_le _, Nat.zero_le _⟩ dX7_takesGame_87 (fun H locs hw => ?_)
    refine lv_iconst (v := (1 : Int32)) hx hb dX7_takesGame_90 (by decide) ?_
    exact r_iret hx hb hr rfl hlocks hZ hK hw h dX7_takesGame_91
  unfold f_X7_takesGame at h
  refine lv_aload_n hx hb dX7_takesGame_0 rfl (lv_at hl 0 rfl) ?_
  refine lv_iconst (v := (0 : Int32)) hx hb dX7_takesGame_1 (by decide) ?_
  refine lv_aload_n hx hb dX7_takesGame_2 rfl (lv_at hl 0 rfl) ?_
  replace h := gd_some h
  obtain ⟨g3, h⟩ := h
  replace h := bd_some h
  obtain ⟨q4, eq4, h⟩ := h
  refine r_getR hx hb hts iw7 hown hK hw o0 0 g3 (by decide) rfl (by decide) rfl (hq _ qw888) (fun _ h9 => h9) dX7_takesGame_3 eq4 ?_
  refine lv_iconst (v := (0 : Int32)) hx hb dX7_takesGame_6 (by decide) ?_
  replace h := gd_some h
  obtain ⟨g5, h⟩ := h
  refine r_iald hx hb hK hw q4 g5 dX7_takesGame_7 ?_
  refine lv_iconst (v := (1 : Int32)) hx hb dX7_takesGame_8 (by decide) ?_
  refine lv_isub hx hb dX7_takesGame_9 ?_
  replace h := bd_some h
  obtain ⟨r6, er6, h⟩ := h
  refine r_callVi (As := [.int (0 : Int32), .int ((M.1 q4 (0 : Int32).toNatClampNeg) - (1 : Int32))]) (rest := []) hF (c_X7_takesNumber l D cy ad adK adV M o0 (0 : Int32) ((M.1 q4 (0 : Int32).toNatClampNeg) - (1 : Int32)) r6 er6) (gW_goodV hcm qw1108 qw1105 qw1107 qw37 qw67) hdX7_takesNumber rfl ⟨Nat.le_of_ble_eq_true rfl, Nat.le_of_ble_eq_true rfl⟩ rfl rfl hZ hK hw g3 (by decide) rfl rfl hl.1 rfl (Nat.le_of_ble_eq_true rfl) ⟨Nat.zero_le _, Nat.zero_le _⟩ dX7_takesGame_10 (fun H locs hw => ?_)
  refine lv_if_ne (tgt := 18) hx hb dX7_takesGame_13 (by decide) (fun c7 => ?_) (fun c7 => ?_)
  · replace h := if_some_f c7 h
    refine lv_aload_n hx hb dX7_takesGame_18 rfl (lv_at hl 0 rfl) ?_
    refine r_getI hx hb hts iw7 hown hK hw o0 14 g3 (by decide) rfl (by decide) rfl (hq _ qw902) (fun _ h9 => h9) dX7_takesGame_19 ?_
    refine lv_istore_n (lv' := [(1, .int (r6.1.1 o0 14)), (0, .ref (ad o0))]) hx hb dX7_takesGame_22 rfl hl (by decide) rfl (fun ls hl => ?_)
    refine lv_aload_n hx hb dX7_takesGame_23 rfl (lv_at hl 1 rfl) ?_
    refine lv_iload_n hx hb dX7_takesGame_24 rfl (lv_at hl 0 rfl) ?_
    refine lv_iload_n hx hb dX7_takesGame_25 rfl (lv_at hl 0 rfl) ?_
    replace h := bd_some h
    obtain ⟨r8, er8, h⟩ := h
    refine r_callVi (As := [.int (r6.1.1 o0 14), .int (r6.1.1 o0 14)]) (rest := []) hF (c_X7_isNumber l D cy ad adK adV r6.1 o0 (r6.1.1 o0 14) (r6.1.1 o0 14) r8 er8) (gW_goodV hcm qw1112 qw1109 qw1111 qw38 qw67) hdX7_isNumber rfl ⟨Nat.le_of_ble_eq_true rfl, Nat.le_of_ble_eq_true rfl⟩ rfl rfl hZ hK hw g3 (by decide) rfl rfl hl.1 rfl (Nat.le_of_ble_eq_true rfl) ⟨Nat.zero_le _, Nat.zero_le _⟩ dX7_takesGame_26 (fun H locs hw => ?_)
    refine lv_if_ne (tgt := 48) hx hb dX7_takesGame_29 (by decide) (fun c9 => ?_) (fun c9 => ?_)
    · replace h := if_some_f c9 h
      refine lv_iconst (v := (0 : Int32)) hx hb dX7_takesGame_48 (by decide) ?_
      exact r_iret hx hb hr rfl hlocks hZ hK hw h dX7_takesGame_49
    · replace h := if_some_t c9 h
      refine lv_aload_n hx hb dX7_takesGame_32 rfl (lv_at hl 1 rfl) ?_
      refine lv_iconst (v := (0 : Int32)) hx hb dX7_takesGame_33 (by decide) ?_
      refine lv_aload_n hx hb dX7_takesGame_34 rfl (lv_at hl 1 rfl) ?_
      replace h := bd_some h
      obtain ⟨q10, eq10, h⟩ := h
      refine r_getR hx hb hts iw7 hown hK hw o0 0 g3 (by decide) rfl (by decide) rfl (hq _ qw888) (fun _ h9 => h9) dX7_takesGame_35 eq10 ?_
      refine lv_iconst (v := (0 : Int32)) hx hb dX7_takesGame_38 (by decide) ?_
      replace h := gd_some h
      obtain ⟨g11, h⟩ := h
      refine r_iald hx hb hK hw q10 g11 dX7_takesGame_39 ?_
      refine lv_iconst (v := (1 : Int32)) hx hb dX7_takesGame_40 (by decide) ?_
      refine lv_isub hx hb dX7_takesGame_41 ?_
      replace h := bd_some h
      obtain ⟨r12, er12, h⟩ := h
      refine r_callVi (As := [.int (0 : Int32), .int ((r8.1.1 q10 (0 : Int32).toNatClampNeg) - (1 : Int32))]) (rest := []) hF (c_X7_takesNumber l D cy ad adK adV r8.1 o0 (0 : Int32) ((r8.1.1 q10 (0 : Int32).toNatClampNeg) - (1 : Int32)) r12 er12) (gW_goodV hcm qw1108 qw1105 qw1107 qw37 qw67) hdX7_takesNumber rfl ⟨Nat.le_of_ble_eq_true rfl, Nat.le_of_ble_eq_true rfl⟩ rfl rfl hZ hK hw g3 (by decide) rfl rfl hl.1 rfl (Nat.le_of_ble_eq_true rfl) ⟨Nat.zero_le _, Nat.zero_le _⟩ dX7_takesGame_42 (fun H locs hw => ?_)
      refine lv_if_ne (tgt := 50) hx hb dX7_takesGame_45 (by decide) (fun c13 => ?_) (fun c13 => ?_)
      · replace h := if_some_f c13 h
        refine lv_aload_n hx hb dX7_takesGame_50 rfl (lv_at hl 1 rfl) ?_
        refine r_getI hx hb hts iw7 hown hK hw o0 14 g3 (by decide) rfl (by decide) rfl (hq _ qw902) (fun _ h9 => h9) dX7_takesGame_51 ?_
        refine lv_istore_n (lv' := [(2, .int (r12.1.1 o0 14)), (1, .int (r6.1.1 o0 14)), (0, .ref (ad o0))]) hx hb dX7_takesGame_54 rfl hl (by decide) rfl (fun ls hl => ?_)
        refine lv_iconst (v := (1 : Int32)) hx hb dX7_takesGame_55 (by decide) ?_
        refine lv_istore_n (lv' := [(3, .int (1 : Int32)), (2, .int (r12.1.1 o0 14)), (1, .int (r6.1.1 o0 14)), (0, .ref (ad o0))]) hx hb dX7_takesGame_56 rfl hl (by decide) rfl (fun ls hl => ?_)
        refine lv_aload_n hx hb dX7_takesGame_57 rfl (lv_at hl 3 rfl) ?_
        refine va_ldcS (own := RX7) (tx := "worth") (index := 187) (q := adK 9) hx hb hown (hZ.str stm13) dX7_takesGame_58 ?_
        replace h := bd_some h
        obtain ⟨r14, er14, h⟩ := h
        refine r_callVi (As := [.ref (adK 9)]) (rest := []) hF (c_X7_takes l D cy ad adK adV r12.1 o0 9 r14 er14) (gW_goodV hcm qw1098 qw1095 qw1097 qw35 qw67) hdX7_takes rfl ⟨Nat.le_of_ble_eq_true rfl, Nat.le_of_ble_eq_true rfl⟩ rfl rfl hZ hK hw g3 (by decide) rfl rfl hl.1 rfl (Nat.le_of_ble_eq_true rfl) ⟨Nat.zero_le _, Nat.zero_le _⟩ dX7_takesGame_60 (fun H locs hw => ?_)
        refine lv_if_eq (tgt := 83) hx hb dX7_takesGame_63 (by decide) (fun c15 => ?_) (fun c15 => ?_)
        · replace h := if_some_t c15 h
          exact hb83 _ _ _ _ _ h _ _ _ hw (lv_sub hl [3, 2, 1, 0] rfl)
        · replace h := if_some_f c15 h
          refine lv_aload_n hx hb dX7_takesGame_66 rfl (lv_at hl 3 rfl) ?_
          refine lv_iconst (v := (1 : Int32)) hx hb dX7_takesGame_67 (by decide) ?_
          refine lv_bipush (v := (9 : Int32)) hx hb dX7_takesGame_68 (by decide) ?_
          replace h := bd_some h
          obtain ⟨r16, er16, h⟩ := h
          refine r_callVi (As := [.int (1 : Int32), .int (9 : Int32)]) (rest := []) hF (c_X7_takesNumber l D cy ad adK adV r14.1 o0 (1 : Int32) (9 : Int32) r16 er16) (gW_goodV hcm qw1108 qw1105 qw1107 qw37 qw67) hdX7_takesNumber rfl ⟨Nat.le_of_ble_eq_true rfl, Nat.le_of_ble_eq_true rfl⟩ rfl rfl hZ hK hw g3 (by decide) rfl rfl hl.1 rfl (Nat.le_of_ble_eq_true rfl) ⟨Nat.zero_le _, Nat.zero_le _⟩ dX7_takesGame_70 (fun H locs hw => ?_)
          refine lv_if_ne (tgt := 78) hx hb dX7_takesGame_73 (by decide) (fun c17 => ?_) (fun c17 => ?_)
          · replace h := if_some_f c17 h
            refine lv_aload_n hx hb dX7_takesGame_78 rfl (lv_at hl 3 rfl) ?_
            refine r_getI hx hb hts iw7 hown hK hw o0 14 g3 (by decide) rfl (by decide) rfl (hq _ qw902) (fun _ h9 => h9) dX7_takesGame_79 ?_
            refine lv_istore_n (lv' := [(3, .int (r16.1.1 o0 14)), (2, .int (r12.1.1 o0 14)), (1, .int (r6.1.1 o0 14)), (0, .ref (ad o0))]) hx hb dX7_takesGame_82 rfl hl (by decide) rfl (fun ls hl => ?_)
            exact hb83 _ _ _ _ _ h _ _ _ hw (lv_sub hl [3, 2, 1, 0] rfl)
          · replace h := if_some_t c17 h
            refine lv_iconst (v := (0 : Int32)) hx hb dX7_takesGame_76 (by decide) ?_
            exact r_iret hx hb hr rfl hlocks hZ hK hw h dX7_takesGame_77
      · replace h := if_some_t c13 h
        refine lv_iconst (v := (0 : Int32)) hx hb dX7_takesGame_48 (by decide) ?_
        exact r_iret hx hb hr rfl hlocks hZ hK hw h dX7_takesGame_49
  · replace h := if_some_t c7 h
    refine lv_iconst (v := (0 : Int32)) hx hb dX7_takesGame_16 (by decide) ?_
    exact r_iret hx hb hr rfl hlocks hZ hK hw h dX7_takesGame_17
theorem dX7_takesItem_0 : decode cX7_takesItem 0 = .ok (.aload_n 0, 1) := by decide +kernel
theorem dX7_takesItem_1 : decode cX7_takesItem 1 = .ok (.ldc 189, 2) := by decide +kernel
theorem dX7_takesItem_3 : decode cX7_takesItem 3 = .ok (.invokevirtual 184, 3) := by decide +kernel
theorem dX7_takesItem_6 : decode cX7_takesItem 6 = .ok (.ifCond .eq 26, 3) := by decide +kernel
theorem dX7_takesItem_9 : decode cX7_takesItem 9 = .ok (.aload_n 0, 1) := by decide +kernel
theorem dX7_takesItem_10 : decode cX7_takesItem 10 = .ok (.iconst 1, 1) := by decide +kernel
theorem dX7_takesItem_11 : decode cX7_takesItem 11 = .ok (.iconst 3, 1) := by decide +kernel
theorem dX7_takesItem_12 : decode cX7_takesItem 12 = .ok (.invokevirtual 179, 3) := by decide +kernel
theorem dX7_takesItem_15 : decode cX7_takesItem 15 = .ok (.ifCond .ne 5, 3) := by decide +kernel
theorem dX7_takesItem_18 : decode cX7_takesItem 18 = .ok (.iconst 0, 1) := by decide +kernel
theorem dX7_takesItem_19 : decode cX7_takesItem 19 = .ok (.ireturn, 1) := by decide +kernel
theorem dX7_takesItem_20 : decode cX7_takesItem 20 = .ok (.aload_n 0, 1) := by decide +kernel
theorem dX7_takesItem_21 : decode cX7_takesItem 21 = .ok (.getfield 7, 3) := by decide +kernel
theorem dX7_takesItem_24 : decode cX7_takesItem 24 = .ok (.iconst 3, 1) := by decide +kernel
theorem dX7_takesItem_25 : decode cX7_takesItem 25 = .ok (.aload_n 0, 1) := by decide +kernel
theorem dX7_takesItem_26 : decode cX7_takesItem 26 = .ok (.getfield 176, 3) := by decide +kernel
theorem dX7_takesItem_29 : decode cX7_takesItem 29 = .ok (.iastore, 1) := by decide +kernel
theorem dX7_takesItem_30 : decode cX7_takesItem 30 = .ok (.iconst 1, 1) := by decide +kernel
theorem dX7_takesItem_31 : decode cX7_takesItem 31 = .ok (.ireturn, 1) := by decide +kernel
theorem dX7_takesItem_32 : decode cX7_takesItem 32 = .ok (.aload_n 0, 1) := by decide +kernel
theorem dX7_takesItem_33 : decode cX7_takesItem 33 = .ok (.ldc 191, 2) := by decide +kernel
theorem dX7_takesItem_35 : decode cX7_takesItem 35 = .ok (.invokevirtual 166, 3) := by decide +kernel
theorem dX7_takesItem_38 : decode cX7_takesItem 38 = .ok (.ifCond .eq 25, 3) := by decide +kernel
theorem dX7_takesItem_41 : decode cX7_takesItem 41 = .ok (.aload_n 0, 1) := by decide +kernel
theorem dX7_takesItem_42 : decode cX7_takesItem 42 = .ok (.getfield 7, 3) := by decide +kernel
theorem dX7_takesItem_45 : decode cX7_takesItem 45 = .ok (.iconst 1, 1) := by decide +kernel
theorem dX7_takesItem_46 : decode cX7_takesItem 46 = .ok (.iaload, 1) := by decide +kernel
theorem dX7_takesItem_47 : decode cX7_takesItem 47 = .ok (.bipush 8, 2) := by decide +kernel
theorem dX7_takesItem_49 : decode cX7_takesItem 49 = .ok (.if_icmp .ne 5, 3) := by decide +kernel
theorem dX7_takesItem_52 : decode cX7_takesItem 52 = .ok (.iconst 0, 1) := by decide +kernel
theorem dX7_takesItem_53 : decode cX7_takesItem 53 = .ok (.ireturn, 1) := by decide +kernel
theorem dX7_takesItem_54 : decode cX7_takesItem 54 = .ok (.aload_n 0, 1) := by decide +kernel
theorem dX7_takesItem_55 : decode cX7_takesItem 55 = .ok (.invokevirtual 170, 3) := by decide +kernel
theorem dX7_takesItem_58 : decode cX7_takesItem 58 = .ok (.aload_n 0, 1) := by decide +kernel
theorem dX7_takesItem_59 : decode cX7_takesItem 59 = .ok (.invokevirtual 193, 3) := by decide +kernel
theorem dX7_takesItem_62 : decode cX7_takesItem 62 = .ok (.ireturn, 1) := by decide +kernel
theorem dX7_takesItem_63 : decode cX7_takesItem 63 = .ok (.aload_n 0, 1) := by decide +kernel
theorem dX7_takesItem_64 : decode cX7_takesItem 64 = .ok (.ldc 197, 2) := by decide +kernel
theorem dX7_takesItem_66 : decode cX7_takesItem 66 = .ok (.invokevirtual 166, 3) := by decide +kernel
theorem dX7_takesItem_69 : decode cX7_takesItem 69 = .ok (.ifCond .eq 7, 3) := by decide +kernel
theorem dX7_takesItem_72 : decode cX7_takesItem 72 = .ok (.iconst 0, 1) := by decide +kernel
theorem dX7_takesItem_73 : decode cX7_takesItem 73 = .ok (.goto 83, 3) := by decide +kernel
theorem dX7_takesItem_76 : decode cX7_takesItem 76 = .ok (.aload_n 0, 1) := by decide +kernel
theorem dX7_takesItem_77 : decode cX7_takesItem 77 = .ok (.ldc 199, 2) := by decide +kernel
theorem dX7_takesItem_79 : decode cX7_takesItem 79 = .ok (.invokevirtual 166, 3) := by decide +kernel
theorem dX7_takesItem_82 : decode cX7_takesItem 82 = .ok (.ifCond .eq 7, 3) := by decide +kernel
theorem dX7_takesItem_85 : decode cX7_takesItem 85 = .ok (.iconst 1, 1) := by decide +kernel
theorem dX7_takesItem_86 : decode cX7_takesItem 86 = .ok (.goto 70, 3) := by decide +kernel
theorem dX7_takesItem_89 : decode cX7_takesItem 89 = .ok (.aload_n 0, 1) := by decide +kernel
theorem dX7_takesItem_90 : decode cX7_takesItem 90 = .ok (.ldc 201, 2) := by decide +kernel
theorem dX7_takesItem_92 : decode cX7_takesItem 92 = .ok (.invokevirtual 166, 3) := by decide +kernel
theorem dX7_takesItem_95 : decode cX7_takesItem 95 = .ok (.ifCond .eq 7, 3) := by decide +kernel
theorem dX7_takesItem_98 : decode cX7_takesItem 98 = .ok (.iconst 2, 1) := by decide +kernel
theorem dX7_takesItem_99 : decode cX7_takesItem 99 = .ok (.goto 57, 3) := by decide +kernel
theorem dX7_takesItem_102 : decode cX7_takesItem 102 = .ok (.aload_n 0, 1) := by decide +kernel
theorem dX7_takesItem_103 : decode cX7_takesItem 103 = .ok (.ldc 203, 2) := by decide +kernel
theorem dX7_takesItem_105 : decode cX7_takesItem 105 = .ok (.invokevirtual 166, 3) := by decide +kernel
theorem dX7_takesItem_108 : decode cX7_takesItem 108 = .ok (.ifCond .eq 7, 3) := by decide +kernel
theorem dX7_takesItem_111 : decode cX7_takesItem 111 = .ok (.iconst 3, 1) := by decide +kernel
theorem dX7_takesItem_112 : decode cX7_takesItem 112 = .ok (.goto 44, 3) := by decide +kernel
theorem dX7_takesItem_115 : decode cX7_takesItem 115 = .ok (.aload_n 0, 1) := by decide +kernel
theorem dX7_takesItem_116 : decode cX7_takesItem 116 = .ok (.ldc 205, 2) := by decide +kernel
theorem dX7_takesItem_118 : decode cX7_takesItem 118 = .ok (.invokevirtual 166, 3) := by decide +kernel
theorem dX7_takesItem_121 : decode cX7_takesItem 121 = .ok (.ifCond .eq 7, 3) := by decide +kernel
theorem dX7_takesItem_124 : decode cX7_takesItem 124 = .ok (.iconst 4, 1) := by decide +kernel
theorem dX7_takesItem_125 : decode cX7_takesItem 125 = .ok (.goto 31, 3) := by decide +kernel
theorem dX7_takesItem_128 : decode cX7_takesItem 128 = .ok (.aload_n 0, 1) := by decide +kernel
theorem dX7_takesItem_129 : decode cX7_takesItem 129 = .ok (.ldc 207, 2) := by decide +kernel
theorem dX7_takesItem_131 : decode cX7_takesItem 131 = .ok (.invokevirtual 166, 3) := by decide +kernel
theorem dX7_takesItem_134 : decode cX7_takesItem 134 = .ok (.ifCond .eq 7, 3) := by decide +kernel
theorem dX7_takesItem_137 : decode cX7_takesItem 137 = .ok (.iconst 5, 1) := by decide +kernel
theorem dX7_takesItem_138 : decode cX7_takesItem 138 = .ok (.goto 18, 3) := by decide +kernel
theorem dX7_takesItem_141 : decode cX7_takesItem 141 = .ok (.aload_n 0, 1) := by decide +kernel
theorem dX7_takesItem_142 : decode cX7_takesItem 142 = .ok (.ldc 209, 2) := by decide +kernel
theorem dX7_takesItem_144 : decode cX7_takesItem 144 = .ok (.invokevirtual 166, 3) := by decide +kernel
theorem dX7_takesItem_147 : decode cX7_takesItem 147 = .ok (.ifCond .eq 8, 3) := by decide +kernel
theorem dX7_takesItem_150 : decode cX7_takesItem 150 = .ok (.bipush 6, 2) := by decide +kernel
theorem dX7_takesItem_152 : decode cX7_takesItem 152 = .ok (.goto 4, 3) := by decide +kernel
theorem dX7_takesItem_155 : decode cX7_takesItem 155 = .ok (.iconst (-1), 1) := by decide +kernel
theorem dX7_takesItem_156 : decode cX7_takesItem 156 = .ok (.istore_n 1, 1) := by decide +kernel
theorem dX7_takesItem_157 : decode cX7_takesItem 157 = .ok (.iload_n 1, 1) := by decide +kernel
theorem dX7_takesItem_158 : decode cX7_takesItem 158 = .ok (.iconst (-1), 1) := by decide +kernel
theorem dX7_takesItem_159 : decode cX7_takesItem 159 = .ok (.if_icmp .eq 14, 3) := by decide +kernel
theorem dX7_takesItem_162 : decode cX7_takesItem 162 = .ok (.aload_n 0, 1) := by decide +kernel
theorem dX7_takesItem_163 : decode cX7_takesItem 163 = .ok (.getfield 7, 3) := by decide +kernel
theorem dX7_takesItem_166 : decode cX7_takesItem 166 = .ok (.iconst 0, 1) := by decide +kernel
theorem dX7_takesItem_167 : decode cX7_takesItem 167 = .ok (.iaload, 1) := by decide +kernel
theorem dX7_takesItem_168 : decode cX7_takesItem 168 = .ok (.bipush 6, 2) := by decide +kernel
theorem dX7_takesItem_170 : decode cX7_takesItem 170 = .ok (.if_icmp .ne 5, 3) := by decide +kernel
theorem dX7_takesItem_173 : decode cX7_takesItem 173 = .ok (.iconst 0, 1) := by decide +kernel
theorem dX7_takesItem_174 : decode cX7_takesItem 174 = .ok (.ireturn, 1) := by decide +kernel
theorem dX7_takesItem_175 : decode cX7_takesItem 175 = .ok (.aload_n 0, 1) := by decide +kernel
theorem dX7_takesItem_176 : decode cX7_takesItem 176 = .ok (.invokevirtual 170, 3) := by decide +kernel
theorem dX7_takesItem_179 : decode cX7_takesItem 179 = .ok (.aload_n 0, 1) := by decide +kernel
theorem dX7_takesItem_180 : decode cX7_takesItem 180 = .ok (.iload_n 1, 1) := by decide +kernel
theorem dX7_takesItem_181 : decode cX7_takesItem 181 = .ok (.invokevirtual 211, 3) := by decide +kernel
theorem dX7_takesItem_184 : decode cX7_takesItem 184 = .ok (.ireturn, 1) := by decide +kernel
set_option maxHeartbeats 4000000 in
set_option maxRecDepth 100000 in
theorem c_X7_takesItem (l : Launch) (D : va_G) (cy : Nat → ClassId) (ad adK adV : Nat → Nat) (M : Mm) (o0 : Nat) (res : Mm × Int32) (h : f_X7_takesItem M o0 = some res) : Met l yX7_takesItem (wU yX7_takesItem cX7_takesItem 2 (some .boolean)) rmX7_takesItem (va_Pc [.ref (ad o0)] (Pre D cy shM ad nM adK adV M)) (va_Qi (fun r (M2 : Mm) => r = res.2 ∧ M2 = res.1) (Pre D cy shM ad nM adK adV) (Aw ad nM)) 0 0 (Aw ad nM) := by
  refine Met.ofW (cc := cX7_takesItem) (maxL := 2) (ret := (some .boolean)) (by decide) rfl ?_
  intro p e s m args below meth c s₁ B hml hv
  obtain ⟨hargs, hPre⟩ := hv
  have hx := B.exec
  have hb := B.bytes
  have hr := B.returns
  have hts := atoms_spec (ws := wU yX7_takesItem cX7_takesItem 2 (some .boolean)) B.pre
  have hq : ∀ w ∈ gW, w.before args s = true := fun w hw => hts w (List.mem_cons_of_mem _ hw)
  have hcm : ∀ w ∈ gW, w ∈ wU yX7_takesItem cX7_takesItem 2 (some .boolean) := fun w hw => List.mem_cons_of_mem _ hw
  have hown : s.vm.findClass RX7 = some m.cls := findClass_of_methodNamed B.named
  have hlocks := B.notSynchronized
  have hF : CallFix p m c cX7_takesItem 2 s args (wU yX7_takesItem cX7_takesItem 2 (some .boolean)) RX7 := ⟨hx, hb, hml, hown, hts⟩
  have hK := hPre.2.1
  have hZ := hPre.2.2.2
  have hw : Wd D cy shM ad nM (Aw ad nM) s.heap M s.heap [] := ⟨hPre.1, hPre.2.2.1, va_S.rf⟩
  have iw7 : ∀ w ∈ u_ws RX7 TX7 30, w ∈ wU yX7_takesItem cX7_takesItem 2 (some .boolean) := fun w hw => List.mem_cons_of_mem _ (iX7 w hw)
  rw [show entryFrame m args 2 = entryFrame m ([.ref (ad o0)] : List Value).toArray 2 from by rw [hargs]]
  have hl := lv_entry ([.ref (ad o0)]) (n := 2) (Nat.le_of_ble_eq_true rfl)
  rw [lg_entry_eq]
  generalize (lg_sl ([.ref (ad o0)]) ++ List.replicate (2 - (lg_sl ([.ref (ad o0)])).length) Slot.unset).toArray = ls at hl ⊢
  have hl : lv_has ls 2 [(0, .ref (ad o0))] := hl
  have hb156 : ∀ (M : Mm) (x0 : Nat) (t0 : Int32), f_X7_takesItem_b156 M x0 t0 = some res → ∀ (H : Heap) (locs : List Loc) (ls : Array Slot), Wd D cy shM ad nM (Aw ad nM) s.heap M H locs → lv_has ls 2 [(0, .ref (ad x0))] → W p l e (headSpec (wU yX7_takesItem cX7_takesItem 2 (some .boolean)) rmX7_takesItem).room s m args below meth c H locs 0 0 (QI D cy shM ad nM adK adV below args s res) (F0 m 156 ls [.int t0]) := by
    intro M x0 t0 h H locs ls hw hl
    unfold f_X7_takesItem_b156 at h
    refine lv_istore_n (lv' := [(1, .int t0), (0, .ref (ad x0))]) hx hb dX7_takesItem_156 rfl hl (by decide) rfl (fun ls hl => ?_)
    refine lv_iload_n hx hb dX7_takesItem_157 rfl (lv_at hl 0 rfl) ?_
    refine lv_iconst (v := (-1 : Int32)) hx hb dX7_takesItem_158 (by decide) ?_
    refine lv_icmp_eq (tgt := 173) hx hb dX7_takesItem_159 (by decide) (fun c1 => ?_) (fun c1 => ?_)
    · replace h := if_some_t c1 h
      refine lv_iconst (v := (0 : Int32)) hx hb dX7_takesItem_173 (by decide) ?_
      exact r_iret hx hb hr rfl hlocks hZ hK hw h dX7_takesItem_174
    · replace h := if_some_f c1 h
      refine lv_aload_n hx hb dX7_takesItem_162 rfl (lv_at hl 1 rfl) ?_
      replace h := gd_some h
      obtain ⟨g2, h⟩ := h
      replace h := bd_some h
      obtain ⟨q3, eq3, h⟩ := h
      refine r_getR hx hb hts iw7 hown hK hw x0 0 g2 (by decide) rfl (by decide) rfl (hq _ qw888) (fun _ h9 => h9) dX7_takesItem_163 eq3 ?_
      refine lv_iconst (v := (0 : Int32)) hx hb dX7_takesItem_166 (by decide) ?_
      replace h := gd_some h
      obtain ⟨g4, h⟩ := h
      refine r_iald hx hb hK hw q3 g4 dX7_takesItem_167 ?_
      refine lv_bipush (v := (6 : Int32)) hx hb dX7_takesItem_168 (by decide) ?_
      refine lv_icmp_ne (tgt := 175) hx hb dX7_takesItem_170 (by decide) (fun c5 => ?_) (fun c5 => ?_)
      · replace h := if_some_f c5 h
        refine lv_aload_n hx hb dX7_takesItem_175 rfl (lv_at hl 1 rfl) ?_
        replace h := bd_some h
        obtain ⟨r6, er6, h⟩ := h
        refine r_callVv (As := []) (rest := []) hF (c_X7_nextToken l D cy ad adK adV M x0 r6 er6) (gW_goodV hcm qw1085 qw1082 qw1084 qw32 qw67) hdX7_nextToken rfl ⟨Nat.le_of_ble_eq_true rfl, Nat.le_of_ble_eq_true rfl⟩ rfl rfl hZ hK hw g2 (by decide) rfl rfl hl.1 rfl (Nat.le_of_ble_eq_true rfl) ⟨Nat.zero_le _, Nat.zero_le _⟩ dX7_takesItem_176 (fun H locs hw => ?_)
        refine lv_aload_n hx hb dX7_takesItem_179 rfl (lv_at hl 1 rfl) ?_
        refine lv_iload_n hx hb dX7_takesItem_180 rfl (lv_at hl 0 rfl) ?_
        replace h := bd_some h
        obtain ⟨r7, er7, h⟩ := h
        refine r_callVi (As := [.int t0]) (rest := []) hF (c_X7_takesSide l D cy ad adK adV r6.1 x0 t0 r7 er7) (gW_goodV hcm qw1129 qw1126 qw1128 qw40 qw67) hdX7_takesSide rfl ⟨Nat.le_of_ble_eq_true rfl, Nat.le_of_ble_eq_true rfl⟩ rfl rfl hZ hK hw g2 (by decide) rfl rfl hl.1 rfl (Nat.le_of_ble_eq_true rfl) ⟨Nat.zero_le _, Nat.zero_le _⟩ dX7_takesItem_181 (fun H locs hw => ?_)
        replace h := gd_some h
        obtain ⟨z8, h⟩ := h
        exact r_iret hx hb hr (nar_bz z8) hlocks hZ hK hw h dX7_takesItem_184
      · replace h := if_some_t c5 h
        refine lv_iconst (v := (0 : Int32)) hx hb dX7_takesItem_173 (by decide) ?_
        exact r_iret hx hb hr rfl hlocks hZ hK hw h dX7_takesItem_174
  unfold f_X7_takesItem at h
  refine lv_aload_n hx hb dX7_takesItem_0 rfl (lv_at hl 0 rfl) ?_
  refine va_ldcS (own := RX7) (tx := "law") (index := 189) (q := adK 10) hx hb hown (hZ.str stm11) dX7_takesItem_1 ?_
  replace h := gd_some h
  obtain ⟨g10, h⟩ := h
  replace h := bd_some h
  obtain ⟨r9, er9, h⟩ := h
  refine r_callVi (As := [.ref (adK 10)]) (rest := []) hF (c_X7_takes l D cy ad adK adV M o0 10 r9 er9) (gW_goodV hcm qw1098 qw1095 qw1097 qw35 qw67) hdX7_takes rfl ⟨Nat.le_of_ble_eq_true rfl, Nat.le_of_ble_eq_true rfl⟩ rfl rfl hZ hK hw g10 (by decide) rfl rfl hl.1 rfl (Nat.le_of_ble_eq_true rfl) ⟨Nat.zero_le _, Nat.zero_le _⟩ dX7_takesItem_3 (fun H locs hw => ?_)
  refine lv_if_eq (tgt := 32) hx hb dX7_takesItem_6 (by decide) (fun c11 => ?_) (fun c11 => ?_)
  · replace h := if_some_t c11 h
    refine lv_aload_n hx hb dX7_takesItem_32 rfl (lv_at hl 0 rfl) ?_
    refine va_ldcS (own := RX7) (tx := "game") (index := 191) (q := adK 8) hx hb hown (hZ.str stm12) dX7_takesItem_33 ?_
    replace h := bd_some h
    obtain ⟨r12, er12, h⟩ := h
    refine r_callVi (As := [.ref (adK 8)]) (rest := []) hF (c_X7_isWord l D cy ad adK adV r9.1 o0 8 r12 er12) (gW_goodV hcm qw1102 qw1099 qw1101 qw36 qw67) hdX7_isWord rfl ⟨Nat.le_of_ble_eq_true rfl, Nat.le_of_ble_eq_true rfl⟩ rfl rfl hZ hK hw g10 (by decide) rfl rfl hl.1 rfl (Nat.le_of_ble_eq_true rfl) ⟨Nat.zero_le _, Nat.zero_le _⟩ dX7_takesItem_35 (fun H locs hw => ?_)
    refine lv_if_eq (tgt := 63) hx hb dX7_takesItem_38 (by decide) (fun c13 => ?_) (fun c13 => ?_)
    · replace h := if_some_t c13 h
      refine lv_aload_n hx hb dX7_takesItem_63 rfl (lv_at hl 0 rfl) ?_
      refine va_ldcS (own := RX7) (tx := "side") (index := 197) (q := adK 0) hx hb hown (hZ.str stm14) dX7_takesItem_64 ?_
      replace h := bd_some h
      obtain ⟨r14, er14, h⟩ := h
      refine r_callVi (As := [.ref (adK 0)]) (rest := []) hF (c_X7_isWord l D cy ad adK adV r12.1 o0 0 r14 er14) (gW_goodV hcm qw1102 qw1099 qw1101 qw36 qw67) hdX7_isWord rfl ⟨Nat.le_of_ble_eq_true rfl, Nat.le_of_ble_eq_true rfl⟩ rfl rfl hZ hK hw g10 (by decide) rfl rfl hl.1 rfl (Nat.le_of_ble_eq_true rfl) ⟨Nat.zero_le _, Nat.zero_le _⟩ dX7_takesItem_66 (fun H locs hw => ?_)
      refine lv_if_eq (tgt := 76) hx hb dX7_takesItem_69 (by decide) (fun c15 => ?_) (fun c15 => ?_)
      · replace h := if_some_t c15 h
        refine lv_aload_n hx hb dX7_takesItem_76 rfl (lv_at hl 0 rfl) ?_
        refine va_ldcS (own := RX7) (tx := "try") (index := 199) (q := adK 1) hx hb hown (hZ.str stm15) dX7_takesItem_77 ?_
        replace h := bd_some h
        obtain ⟨r16, er16, h⟩ := h
        refine r_callVi (As := [.ref (adK 1)]) (rest := []) hF (c_X7_isWord l D cy ad adK adV r14.1 o0 1 r16 er16) (gW_goodV hcm qw1102 qw1099 qw1101 qw36 qw67) hdX7_isWord rfl ⟨Nat.le_of_ble_eq_true rfl, Nat.le_of_ble_eq_true rfl⟩ rfl rfl hZ hK hw g10 (by decide) rfl rfl hl.1 rfl (Nat.le_of_ble_eq_true rfl) ⟨Nat.zero_le _, Nat.zero_le _⟩ dX7_takesItem_79 (fun H locs hw => ?_)
        refine lv_if_eq (tgt := 89) hx hb dX7_takesItem_82 (by decide) (fun c17 => ?_) (fun c17 => ?_)
        · replace h := if_some_t c17 h
          refine lv_aload_n hx hb dX7_takesItem_89 rfl (lv_at hl 0 rfl) ?_
          refine va_ldcS (own := RX7) (tx := "spare") (index := 201) (q := adK 2) hx hb hown (hZ.str stm16) dX7_takesItem_90 ?_
          replace h := bd_some h
          obtain ⟨r18, er18, h⟩ := h
          refine r_callVi (As := [.ref (adK 2)]) (rest := []) hF (c_X7_isWord l D cy ad adK adV r16.1 o0 2 r18 er18) (gW_goodV hcm qw1102 qw1099 qw1101 qw36 qw67) hdX7_isWord rfl ⟨Nat.le_of_ble_eq_true rfl, Nat.le_of_ble_eq_true rfl⟩ rfl rfl hZ hK hw g10 (by decide) rfl rfl hl.1 rfl (Nat.le_of_ble_eq_true rfl) ⟨Nat.zero_le _, Nat.zero_le _⟩ dX7_takesItem_92 (fun H locs hw => ?_)
          refine lv_if_eq (tgt := 102) hx hb dX7_takesItem_95 (by decide) (fun c19 => ?_) (fun c19 => ?_)
          · replace h := if_some_t c19 h
            refine lv_aload_n hx hb dX7_takesItem_102 rfl (lv_at hl 0 rfl) ?_
            refine va_ldcS (own := RX7) (tx := "choose") (index := 203) (q := adK 3) hx hb hown (hZ.str stm17) dX7_takesItem_103 ?_
            replace h := bd_some h
            obtain ⟨r20, er20, h⟩ := h
            refine r_callVi (As := [.ref (adK 3)]) (rest := []) hF (c_X7_isWord l D cy ad adK adV r18.1 o0 3 r20 er20) (gW_goodV hcm qw1102 qw1099 qw1101 qw36 qw67) hdX7_isWord rfl ⟨Nat.le_of_ble_eq_true rfl, Nat.le_of_ble_eq_true rfl⟩ rfl rfl hZ hK hw g10 (by decide) rfl rfl hl.1 rfl (Nat.le_of_ble_eq_true rfl) ⟨Nat.zero_le _, Nat.zero_le _⟩ dX7_takesItem_105 (fun H locs hw => ?_)
            refine lv_if_eq (tgt := 115) hx hb dX7_takesItem_108 (by decide) (fun c21 => ?_) (fun c21 => ?_)
            · replace h := if_some_t c21 h
              refine lv_aload_n hx hb dX7_takesItem_115 rfl (lv_at hl 0 rfl) ?_
              refine va_ldcS (own := RX7) (tx := "feed") (index := 205) (q := adK 4) hx hb hown (hZ.str stm18) dX7_takesItem_116 ?_
              replace h := bd_some h
              obtain ⟨r22, er22, h⟩ := h
              refine r_callVi (As := [.ref (adK 4)]) (rest := []) hF (c_X7_isWord l D cy ad adK adV r20.1 o0 4 r22 er22) (gW_goodV hcm qw1102 qw1099 qw1101 qw36 qw67) hdX7_isWord rfl ⟨Nat.le_of_ble_eq_true rfl, Nat.le_of_ble_eq_true rfl⟩ rfl rfl hZ hK hw g10 (by decide) rfl rfl hl.1 rfl (Nat.le_of_ble_eq_true rfl) ⟨Nat.zero_le _, Nat.zero_le _⟩ dX7_takesItem_118 (fun H locs hw => ?_)
              refine lv_if_eq (tgt := 128) hx hb dX7_takesItem_121 (by decide) (fun c23 => ?_) (fun c23 => ?_)
              · replace h := if_some_t c23 h
                refine lv_aload_n hx hb dX7_takesItem_128 rfl (lv_at hl 0 rfl) ?_
                refine va_ldcS (own := RX7) (tx := "bar") (index := 207) (q := adK 5) hx hb hown (hZ.str stm19) dX7_takesItem_129 ?_
                replace h := bd_some h
                obtain ⟨r24, er24, h⟩ := h
                refine r_callVi (As := [.ref (adK 5)]) (rest := []) hF (c_X7_isWord l D cy ad adK adV r22.1 o0 5 r24 er24) (gW_goodV hcm qw1102 qw1099 qw1101 qw36 qw67) hdX7_isWord rfl ⟨Nat.le_of_ble_eq_true rfl, Nat.le_of_ble_eq_true rfl⟩ rfl rfl hZ hK hw g10 (by decide) rfl rfl hl.1 rfl (Nat.le_of_ble_eq_true rfl) ⟨Nat.zero_le _, Nat.zero_le _⟩ dX7_takesItem_131 (fun H locs hw => ?_)
                refine lv_if_eq (tgt := 141) hx hb dX7_takesItem_134 (by decide) (fun c25 => ?_) (fun c25 => ?_)
                · replace h := if_some_t c25 h
                  refine lv_aload_n hx hb dX7_takesItem_141 rfl (lv_at hl 0 rfl) ?_
                  refine va_ldcS (own := RX7) (tx := "told") (index := 209) (q := adK 6) hx hb hown (hZ.str stm20) dX7_takesItem_142 ?_
                  replace h := bd_some h
                  obtain ⟨r26, er26, h⟩ := h
                  refine r_callVi (As := [.ref (adK 6)]) (rest := []) hF (c_X7_isWord l D cy ad adK adV r24.1 o0 6 r26 er26) (gW_goodV hcm qw1102 qw1099 qw1101 qw36 qw67) hdX7_isWord rfl ⟨Nat.le_of_ble_eq_true rfl, Nat.le_of_ble_eq_true rfl⟩ rfl rfl hZ hK hw g10 (by decide) rfl rfl hl.1 rfl (Nat.le_of_ble_eq_true rfl) ⟨Nat.zero_le _, Nat.zero_le _⟩ dX7_takesItem_144 (fun H locs hw => ?_)
                  refine lv_if_eq (tgt := 155) hx hb dX7_takesItem_147 (by decide) (fun c27 => ?_) (fun c27 => ?_)
                  · replace h := if_some_t c27 h
                    refine lv_iconst (v := (-1 : Int32)) hx hb dX7_takesItem_155 (by decide) ?_
                    exact hb156 _ _ _ h _ _ _ hw (lv_sub hl [0] rfl)
                  · replace h := if_some_f c27 h
                    refine lv_bipush (v := (6 : Int32)) hx hb dX7_takesItem_150 (by decide) ?_
                    refine lv_goto (tgt := 156) hx hb dX7_takesItem_152 (by decide) ?_
                    exact hb156 _ _ _ h _ _ _ hw (lv_sub hl [0] rfl)
                · replace h := if_some_f c25 h
                  refine lv_iconst (v := (5 : Int32)) hx hb dX7_takesItem_137 (by decide) ?_
                  refine lv_goto (tgt := 156) hx hb dX7_takesItem_138 (by decide) ?_
                  exact hb156 _ _ _ h _ _ _ hw (lv_sub hl [0] rfl)
              · replace h := if_some_f c23 h
                refine lv_iconst (v := (4 : Int32)) hx hb dX7_takesItem_124 (by decide) ?_
                refine lv_goto (tgt := 156) hx hb dX7_takesItem_125 (by decide) ?_
                exact hb156 _ _ _ h _ _ _ hw (lv_sub hl [0] rfl)
            · replace h := if_some_f c21 h
              refine lv_iconst (v := (3 : Int32)) hx hb dX7_takesItem_111 (by decide) ?_
              refine lv_goto (tgt := 156) hx hb dX7_takesItem_112 (by decide) ?_
              exact hb156 _ _ _ h _ _ _ hw (lv_sub hl [0] rfl)
          · replace h := if_some_f c19 h
            refine lv_iconst (v := (2 : Int32)) hx hb dX7_takesItem_98 (by decide) ?_
            refine lv_goto (tgt := 156) hx hb dX7_takesItem_99 (by decide) ?_
            exact hb156 _ _ _ h _ _ _ hw (lv_sub hl [0] rfl)
        · replace h := if_some_f c17 h
          refine lv_iconst (v := (1 : Int32)) hx hb dX7_takesItem_85 (by decide) ?_
          refine lv_goto (tgt := 156) hx hb dX7_takesItem_86 (by decide) ?_
          exact hb156 _ _ _ h _ _ _ hw (lv_sub hl [0] rfl)
      · replace h := if_some_f c15 h
        refine lv_iconst (v := (0 : Int32)) hx hb dX7_takesItem_72 (by decide) ?_
        refine lv_goto (tgt := 156) hx hb dX7_takesItem_73 (by decide) ?_
        exact hb156 _ _ _ h _ _ _ hw (lv_sub hl [0] rfl)
    · replace h := if_some_f c13 h
      refine lv_aload_n hx hb dX7_takesItem_41 rfl (lv_at hl 0 rfl) ?_
      replace h := bd_some h
      obtain ⟨q28, eq28, h⟩ := h
      refine r_getR hx hb hts iw7 hown hK hw o0 0 g10 (by decide) rfl (by decide) rfl (hq _ qw888) (fun _ h9 => h9) dX7_takesItem_42 eq28 ?_
      refine lv_iconst (v := (1 : Int32)) hx hb dX7_takesItem_45 (by decide) ?_
      replace h := gd_some h
      obtain ⟨g29, h⟩ := h
      refine r_iald hx hb hK hw q28 g29 dX7_takesItem_46 ?_
      refine lv_bipush (v := (8 : Int32)) hx hb dX7_takesItem_47 (by decide) ?_
      refine lv_icmp_ne (tgt := 54) hx hb dX7_takesItem_49 (by decide) (fun c30 => ?_) (fun c30 => ?_)
      · replace h := if_some_f c30 h
        refine lv_aload_n hx hb dX7_takesItem_54 rfl (lv_at hl 0 rfl) ?_
        replace h := bd_some h
        obtain ⟨r31, er31, h⟩ := h
        refine r_callVv (As := []) (rest := []) hF (c_X7_nextToken l D cy ad adK adV r12.1 o0 r31 er31) (gW_goodV hcm qw1085 qw1082 qw1084 qw32 qw67) hdX7_nextToken rfl ⟨Nat.le_of_ble_eq_true rfl, Nat.le_of_ble_eq_true rfl⟩ rfl rfl hZ hK hw g10 (by decide) rfl rfl hl.1 rfl (Nat.le_of_ble_eq_true rfl) ⟨Nat.zero_le _, Nat.zero_le _⟩ dX7_takesItem_55 (fun H locs hw => ?_)
        refine lv_aload_n hx hb dX7_takesItem_58 rfl (lv_at hl 0 rfl) ?_
        replace h := bd_some h
        obtain ⟨r32, er32, h⟩ := h
        refine r_callVi (As := []) (rest := []) hF (c_X7_takesGame l D cy ad adK adV r31.1 o0 r32 er32) (gW_goodV hcm qw1117 qw1114 qw1116 qw39 qw67) hdX7_takesGame rfl ⟨Nat.le_of_ble_eq_true rfl, Nat.le_of_ble_eq_true rfl⟩ rfl rfl hZ hK hw g10 (by decide) rfl rfl hl.1 rfl (Nat.le_of_ble_eq_true rfl) ⟨Nat.zero_le _, Nat.zero_le _⟩ dX7_takesItem_59 (fun H locs hw => ?_)
        replace h := gd_some h
        obtain ⟨z33, h⟩ := h
        exact r_iret hx hb hr (nar_bz z33) hlocks hZ hK hw h dX7_takesItem_62
      · replace h := if_some_t c30 h
        refine lv_iconst (v := (0 : Int32)) hx hb dX7_takesItem_52 (by decide) ?_
        exact r_iret hx hb hr rfl hlocks hZ hK hw h dX7_takesItem_53
  · replace h := if_some_f c11 h
    refine lv_aload_n hx hb dX7_takesItem_9 rfl (lv_at hl 0 rfl) ?_
    refine lv_iconst (v := (1 : Int32)) hx hb dX7_takesItem_10 (by decide) ?_
    refine lv_iconst (v := (3 : Int32)) hx hb dX7_takesItem_11 (by decide) ?_
    replace h := bd_some h
    obtain ⟨r34, er34, h⟩ := h
    refine r_callVi (As := [.int (1 : Int32), .int (3 : Int32)]) (rest := []) hF (c_X7_takesNumber l D cy ad adK adV r9.1 o0 (1 : Int32) (3 : Int32) r34 er34) (gW_goodV hcm qw1108 qw1105 qw1107 qw37 qw67) hdX7_takesNumber rfl ⟨Nat.le_of_ble_eq_true rfl, Nat.le_of_ble_eq_true rfl⟩ rfl rfl hZ hK hw g10 (by decide) rfl rfl hl.1 rfl (Nat.le_of_ble_eq_true rfl) ⟨Nat.zero_le _, Nat.zero_le _⟩ dX7_takesItem_12 (fun H locs hw => ?_)
    refine lv_if_ne (tgt := 20) hx hb dX7_takesItem_15 (by decide) (fun c35 => ?_) (fun c35 => ?_)
    · replace h := if_some_f c35 h
      refine lv_aload_n hx hb dX7_takesItem_20 rfl (lv_at hl 0 rfl) ?_
      replace h := bd_some h
      obtain ⟨q36, eq36, h⟩ := h
      refine r_getR hx hb hts iw7 hown hK hw o0 0 g10 (by decide) rfl (by decide) rfl (hq _ qw888) (fun _ h9 => h9) dX7_takesItem_21 eq36 ?_
      refine lv_iconst (v := (3 : Int32)) hx hb dX7_takesItem_24 (by decide) ?_
      refine lv_aload_n hx hb dX7_takesItem_25 rfl (lv_at hl 0 rfl) ?_
      refine r_getI hx hb hts iw7 hown hK hw o0 14 g10 (by decide) rfl (by decide) rfl (hq _ qw902) (fun _ h9 => h9) dX7_takesItem_26 ?_
      replace h := gd_some h
      obtain ⟨g37, h⟩ := h
      refine r_iast hx hb hK hw q36 g37 dX7_takesItem_29 (fun H locs hw => ?_)
      replace h := lt_some h
      obtain ⟨M38, eM38, h⟩ := h
      rw [← eM38] at hw
      refine lv_iconst (v := (1 : Int32)) hx hb dX7_takesItem_30 (by decide) ?_
      exact r_iret hx hb hr rfl hlocks hZ hK hw h dX7_takesItem_31
    · replace h := if_some_t c35 h
      refine lv_iconst (v := (0 : Int32)) hx hb dX7_takesItem_18 (by decide) ?_
      exact r_iret hx hb hr rfl hlocks hZ hK hw h dX7_takesItem_19
theorem dX7_takesAll_0 : decode cX7_takesAll 0 = .ok (.aload_n 0, 1) := by decide +kernel
theorem dX7_takesAll_1 : decode cX7_takesAll 1 = .ok (.iconst 0, 1) := by decide +kernel
theorem dX7_takesAll_2 : decode cX7_takesAll 2 = .ok (.putfield 141, 3) := by decide +kernel
theorem dX7_takesAll_5 : decode cX7_takesAll 5 = .ok (.aload_n 0, 1) := by decide +kernel
theorem dX7_takesAll_6 : decode cX7_takesAll 6 = .ok (.iconst 0, 1) := by decide +kernel
theorem dX7_takesAll_7 : decode cX7_takesAll 7 = .ok (.putfield 214, 3) := by decide +kernel
theorem dX7_takesAll_10 : decode cX7_takesAll 10 = .ok (.aload_n 0, 1) := by decide +kernel
theorem dX7_takesAll_11 : decode cX7_takesAll 11 = .ok (.invokevirtual 170, 3) := by decide +kernel
theorem dX7_takesAll_14 : decode cX7_takesAll 14 = .ok (.iconst 1, 1) := by decide +kernel
theorem dX7_takesAll_15 : decode cX7_takesAll 15 = .ok (.istore_n 1, 1) := by decide +kernel
theorem dX7_takesAll_16 : decode cX7_takesAll 16 = .ok (.iload_n 1, 1) := by decide +kernel
theorem dX7_takesAll_17 : decode cX7_takesAll 17 = .ok (.ifCond .eq 47, 3) := by decide +kernel
theorem dX7_takesAll_20 : decode cX7_takesAll 20 = .ok (.aload_n 0, 1) := by decide +kernel
theorem dX7_takesAll_21 : decode cX7_takesAll 21 = .ok (.invokevirtual 217, 3) := by decide +kernel
theorem dX7_takesAll_24 : decode cX7_takesAll 24 = .ok (.ifCond .ne 5, 3) := by decide +kernel
theorem dX7_takesAll_27 : decode cX7_takesAll 27 = .ok (.iconst 0, 1) := by decide +kernel
theorem dX7_takesAll_28 : decode cX7_takesAll 28 = .ok (.ireturn, 1) := by decide +kernel
theorem dX7_takesAll_29 : decode cX7_takesAll 29 = .ok (.aload_n 0, 1) := by decide +kernel
theorem dX7_takesAll_30 : decode cX7_takesAll 30 = .ok (.dup, 1) := by decide +kernel
theorem dX7_takesAll_31 : decode cX7_takesAll 31 = .ok (.getfield 214, 3) := by decide +kernel
theorem dX7_takesAll_34 : decode cX7_takesAll 34 = .ok (.iconst 1, 1) := by decide +kernel
theorem dX7_takesAll_35 : decode cX7_takesAll 35 = .ok (.iadd, 1) := by decide +kernel
theorem dX7_takesAll_36 : decode cX7_takesAll 36 = .ok (.putfield 214, 3) := by decide +kernel
theorem dX7_takesAll_39 : decode cX7_takesAll 39 = .ok (.aload_n 0, 1) := by decide +kernel
theorem dX7_takesAll_40 : decode cX7_takesAll 40 = .ok (.getfield 150, 3) := by decide +kernel
theorem dX7_takesAll_43 : decode cX7_takesAll 43 = .ok (.iconst 3, 1) := by decide +kernel
theorem dX7_takesAll_44 : decode cX7_takesAll 44 = .ok (.if_icmp .ne 7, 3) := by decide +kernel
theorem dX7_takesAll_47 : decode cX7_takesAll 47 = .ok (.iconst 1, 1) := by decide +kernel
theorem dX7_takesAll_48 : decode cX7_takesAll 48 = .ok (.goto 4, 3) := by decide +kernel
theorem dX7_takesAll_51 : decode cX7_takesAll 51 = .ok (.iconst 0, 1) := by decide +kernel
theorem dX7_takesAll_52 : decode cX7_takesAll 52 = .ok (.istore_n 1, 1) := by decide +kernel
theorem dX7_takesAll_53 : decode cX7_takesAll 53 = .ok (.iload_n 1, 1) := by decide +kernel
theorem dX7_takesAll_54 : decode cX7_takesAll 54 = .ok (.ifCond .eq (-38), 3) := by decide +kernel
theorem dX7_takesAll_57 : decode cX7_takesAll 57 = .ok (.aload_n 0, 1) := by decide +kernel
theorem dX7_takesAll_58 : decode cX7_takesAll 58 = .ok (.invokevirtual 170, 3) := by decide +kernel
theorem dX7_takesAll_61 : decode cX7_takesAll 61 = .ok (.goto (-45), 3) := by decide +kernel
theorem dX7_takesAll_64 : decode cX7_takesAll 64 = .ok (.aload_n 0, 1) := by decide +kernel
theorem dX7_takesAll_65 : decode cX7_takesAll 65 = .ok (.getfield 150, 3) := by decide +kernel
theorem dX7_takesAll_68 : decode cX7_takesAll 68 = .ok (.ifCond .ne 7, 3) := by decide +kernel
theorem dX7_takesAll_71 : decode cX7_takesAll 71 = .ok (.iconst 1, 1) := by decide +kernel
theorem dX7_takesAll_72 : decode cX7_takesAll 72 = .ok (.goto 4, 3) := by decide +kernel
theorem dX7_takesAll_75 : decode cX7_takesAll 75 = .ok (.iconst 0, 1) := by decide +kernel
theorem dX7_takesAll_76 : decode cX7_takesAll 76 = .ok (.ireturn, 1) := by decide +kernel
set_option maxHeartbeats 4000000 in
set_option maxRecDepth 100000 in
theorem c_X7_takesAll (l : Launch) (D : va_G) (cy : Nat → ClassId) (ad adK adV : Nat → Nat) (M : Mm) (o0 : Nat) (res : Mm × Int32) (h : f_X7_takesAll M o0 = some res) : Met l yX7_takesAll (wU yX7_takesAll cX7_takesAll 2 (some .boolean)) rmX7_takesAll (va_Pc [.ref (ad o0)] (Pre D cy shM ad nM adK adV M)) (va_Qi (fun r (M2 : Mm) => r = res.2 ∧ M2 = res.1) (Pre D cy shM ad nM adK adV) (Aw ad nM)) 0 0 (Aw ad nM) := by
  refine Met.ofW (cc := cX7_takesAll) (maxL := 2) (ret := (some .boolean)) (by decide) rfl ?_
  intro p e s m args below meth c s₁ B hml hv
  obtain ⟨hargs, hPre⟩ := hv
  have hx := B.exec
  have hb := B.bytes
  have hr := B.returns
  have hts := atoms_spec (ws := wU yX7_takesAll cX7_takesAll 2 (some .boolean)) B.pre
  have hq : ∀ w ∈ gW, w.before args s = true := fun w hw => hts w (List.mem_cons_of_mem _ hw)
  have hcm : ∀ w ∈ gW, w ∈ wU yX7_takesAll cX7_takesAll 2 (some .boolean) := fun w hw => List.mem_cons_of_mem _ hw
  have hown : s.vm.findClass RX7 = some m.cls := findClass_of_methodNamed B.named
  have hlocks := B.notSynchronized
  have hF : CallFix p m c cX7_takesAll 2 s args (wU yX7_takesAll cX7_takesAll 2 (some .boolean)) RX7 := ⟨hx, hb, hml, hown, hts⟩
  have hK := hPre.2.1
  have hZ := hPre.2.2.2
  have hw : Wd D cy shM ad nM (Aw ad nM) s.heap M s.heap [] := ⟨hPre.1, hPre.2.2.1, va_S.rf⟩
  have iw7 : ∀ w ∈ u_ws RX7 TX7 30, w ∈ wU yX7_takesAll cX7_takesAll 2 (some .boolean) := fun w hw => List.mem_cons_of_mem _ (iX7 w hw)
  rw [show entryFrame m args 2 = entryFrame m ([.ref (ad o0)] : List Value).toArray 2 from by rw [hargs]]
  have hl := lv_entry ([.ref (ad o0)]) (n := 2) (Nat.le_of_ble_eq_true rfl)
  rw [lg_entry_eq]
  generalize (lg_sl ([.ref (ad o0)]) ++ List.replicate (2 - (lg_sl ([.ref (ad o0)])).length) Slot.unset).toArray = ls at hl ⊢
  have hl : lv_has ls 2 [(0, .ref (ad o0))] := hl
  have hb52 : ∀ (k16 : Mm → Nat → Int32 → Option (Mm × Int32)) (hk16 : ∀ (M : Mm) (x0 : Nat) (x1 : Int32), k16 M x0 x1 = some res → ∀ (H : Heap) (locs : List Loc) (ls : Array Slot), Wd D cy shM ad nM (Aw ad nM) s.heap M H locs → lv_has ls 2 [(0, .ref (ad x0)), (1, .int x1)] → W p l e (headSpec (wU yX7_takesAll cX7_takesAll 2 (some .boolean)) rmX7_takesAll).room s m args below meth c H locs 0 0 (QI D cy shM ad nM adK adV below args s res) (F0 m 16 ls [])), ∀ (M : Mm) (x0 : Nat) (t0 : Int32), f_X7_takesAll_b52 k16 M x0 t0 = some res → ∀ (H : Heap) (locs : List Loc) (ls : Array Slot), Wd D cy shM ad nM (Aw ad nM) s.heap M H locs → lv_has ls 2 [(0, .ref (ad x0))] → W p l e (headSpec (wU yX7_takesAll cX7_takesAll 2 (some .boolean)) rmX7_takesAll).room s m args below meth c H locs 0 0 (QI D cy shM ad nM adK adV below args s res) (F0 m 52 ls [.int t0]) := by
    intro k16 hk16
    intro M x0 t0 h H locs ls hw hl
    unfold f_X7_takesAll_b52 at h
    refine lv_istore_n (lv' := [(1, .int t0), (0, .ref (ad x0))]) hx hb dX7_takesAll_52 rfl hl (by decide) rfl (fun ls hl => ?_)
    refine lv_iload_n hx hb dX7_takesAll_53 rfl (lv_at hl 0 rfl) ?_
    refine lv_if_eq (tgt := 16) hx hb dX7_takesAll_54 (by decide) (fun c1 => ?_) (fun c1 => ?_)
    · replace h := if_some_t c1 h
      exact hk16 _ _ _ h _ _ _ hw (lv_sub hl [1, 0] rfl)
    · replace h := if_some_f c1 h
      refine lv_aload_n hx hb dX7_takesAll_57 rfl (lv_at hl 1 rfl) ?_
      replace h := gd_some h
      obtain ⟨g3, h⟩ := h
      replace h := bd_some h
      obtain ⟨r2, er2, h⟩ := h
      refine r_callVv (As := []) (rest := []) hF (c_X7_nextToken l D cy ad adK adV M x0 r2 er2) (gW_goodV hcm qw1085 qw1082 qw1084 qw32 qw67) hdX7_nextToken rfl ⟨Nat.le_of_ble_eq_true rfl, Nat.le_of_ble_eq_true rfl⟩ rfl rfl hZ hK hw g3 (by decide) rfl rfl hl.1 rfl (Nat.le_of_ble_eq_true rfl) ⟨Nat.zero_le _, Nat.zero_le _⟩ dX7_takesAll_58 (fun H locs hw => ?_)
      refine lv_goto (tgt := 16) hx hb dX7_takesAll_61 (by decide) ?_
      exact hk16 _ _ _ h _ _ _ hw (lv_sub hl [1, 0] rfl)
  have hb16 : ∀ (nn : Nat), ∀ (M : Mm) (x0 : Nat) (x1 : Int32), f_X7_takesAll_b16 nn M x0 x1 = some res → ∀ (H : Heap) (locs : List Loc) (ls : Array Slot), Wd D cy shM ad nM (Aw ad nM) s.heap M H locs → lv_has ls 2 [(0, .ref (ad x0)), (1, .int x1)] → W p l e (headSpec (wU yX7_takesAll cX7_takesAll 2 (some .boolean)) rmX7_takesAll).room s m args below meth c H locs 0 0 (QI D cy shM ad nM adK adV below args s res) (F0 m 16 ls []) := by
    intro nn
    induction nn with
    | zero => intro M x0 x1 h; simp [f_X7_takesAll_b16] at h
    | succ nn ih =>
      intro M x0 x1 h H locs ls hw hl
      unfold f_X7_takesAll_b16 at h
      refine lv_iload_n hx hb dX7_takesAll_16 rfl (lv_at hl 1 rfl) ?_
      refine lv_if_eq (tgt := 64) hx hb dX7_takesAll_17 (by decide) (fun c4 => ?_) (fun c4 => ?_)
      · replace h := if_some_t c4 h
        refine lv_aload_n hx hb dX7_takesAll_64 rfl (lv_at hl 0 rfl) ?_
        replace h := gd_some h
        obtain ⟨g5, h⟩ := h
        refine r_getI hx hb hts iw7 hown hK hw x0 11 g5 (by decide) rfl (by decide) rfl (hq _ qw899) (fun _ h9 => h9) dX7_takesAll_65 ?_
        refine lv_if_ne (tgt := 75) hx hb dX7_takesAll_68 (by decide) (fun c6 => ?_) (fun c6 => ?_)
        · replace h := if_some_f c6 h
          refine lv_iconst (v := (0 : Int32)) hx hb dX7_takesAll_75 (by decide) ?_
          exact r_iret hx hb hr rfl hlocks hZ hK hw h dX7_takesAll_76
        · replace h := if_some_t c6 h
          refine lv_iconst (v := (1 : Int32)) hx hb dX7_takesAll_71 (by decide) ?_
          refine lv_goto (tgt := 76) hx hb dX7_takesAll_72 (by decide) ?_
          exact r_iret hx hb hr rfl hlocks hZ hK hw h dX7_takesAll_76
      · replace h := if_some_f c4 h
        refine lv_aload_n hx hb dX7_takesAll_20 rfl (lv_at hl 0 rfl) ?_
        replace h := gd_some h
        obtain ⟨g8, h⟩ := h
        replace h := bd_some h
        obtain ⟨r7, er7, h⟩ := h
        refine r_callVi (As := []) (rest := []) hF (c_X7_takesItem l D cy ad adK adV M x0 r7 er7) (gW_goodV hcm qw1093 qw1090 qw1092 qw34 qw67) hdX7_takesItem rfl ⟨Nat.le_of_ble_eq_true rfl, Nat.le_of_ble_eq_true rfl⟩ rfl rfl hZ hK hw g8 (by decide) rfl rfl hl.1 rfl (Nat.le_of_ble_eq_true rfl) ⟨Nat.zero_le _, Nat.zero_le _⟩ dX7_takesAll_21 (fun H locs hw => ?_)
        refine lv_if_ne (tgt := 29) hx hb dX7_takesAll_24 (by decide) (fun c9 => ?_) (fun c9 => ?_)
        · replace h := if_some_f c9 h
          refine lv_aload_n hx hb dX7_takesAll_29 rfl (lv_at hl 0 rfl) ?_
          refine lv_dup hx hb dX7_takesAll_30 rfl ?_
          refine r_getI hx hb hts iw7 hown hK hw x0 15 g8 (by decide) rfl (by decide) rfl (hq _ qw903) (fun _ h9 => h9) dX7_takesAll_31 ?_
          refine lv_iconst (v := (1 : Int32)) hx hb dX7_takesAll_34 (by decide) ?_
          refine lv_iadd hx hb dX7_takesAll_35 ?_
          refine r_putI hx hb hts iw7 tyX7 tyX7_ok nmX7 hown hK hw x0 15 g8 (by decide) rfl (by decide) rfl (hq _ qw903) (fun _ h9 => h9) rfl rfl rfl dX7_takesAll_36 (fun H locs hw => ?_)
          replace h := lt_some h
          obtain ⟨M10, eM10, h⟩ := h
          rw [← eM10] at hw
          refine lv_aload_n hx hb dX7_takesAll_39 rfl (lv_at hl 0 rfl) ?_
          refine r_getI hx hb hts iw7 hown hK hw x0 11 g8 (by decide) rfl (by decide) rfl (hq _ qw899) (fun _ h9 => h9) dX7_takesAll_40 ?_
          refine lv_iconst (v := (3 : Int32)) hx hb dX7_takesAll_43 (by decide) ?_
          refine lv_icmp_ne (tgt := 51) hx hb dX7_takesAll_44 (by decide) (fun c11 => ?_) (fun c11 => ?_)
          · replace h := if_some_f c11 h
            refine lv_iconst (v := (0 : Int32)) hx hb dX7_takesAll_51 (by decide) ?_
            exact hb52 _ ih _ _ _ h _ _ _ hw (lv_sub hl [0] rfl)
          · replace h := if_some_t c11 h
            refine lv_iconst (v := (1 : Int32)) hx hb dX7_takesAll_47 (by decide) ?_
            refine lv_goto (tgt := 52) hx hb dX7_takesAll_48 (by decide) ?_
            exact hb52 _ ih _ _ _ h _ _ _ hw (lv_sub hl [0] rfl)
        · replace h := if_some_t c9 h
          refine lv_iconst (v := (0 : Int32)) hx hb dX7_takesAll_27 (by decide) ?_
          exact r_iret hx hb hr rfl hlocks hZ hK hw h dX7_takesAll_28
  unfold f_X7_takesAll at h
  refine lv_aload_n hx hb dX7_takesAll_0 rfl (lv_at hl 0 rfl) ?_
  refine lv_iconst (v := (0 : Int32)) hx hb dX7_takesAll_1 (by decide) ?_
  replace h := gd_some h
  obtain ⟨g12, h⟩ := h
  refine r_putI hx hb hts iw7 tyX7 tyX7_ok nmX7 hown hK hw o0 10 g12 (by decide) rfl (by decide) rfl (hq _ qw898) (fun _ h9 => h9) rfl rfl rfl dX7_takesAll_2 (fun H locs hw => ?_)
  replace h := lt_some h
  obtain ⟨M13, eM13, h⟩ := h
  rw [← eM13] at hw
  refine lv_aload_n hx hb dX7_takesAll_5 rfl (lv_at hl 0 rfl) ?_
  refine lv_iconst (v := (0 : Int32)) hx hb dX7_takesAll_6 (by decide) ?_
  refine r_putI hx hb hts iw7 tyX7 tyX7_ok nmX7 hown hK hw o0 15 g12 (by decide) rfl (by decide) rfl (hq _ qw903) (fun _ h9 => h9) rfl rfl rfl dX7_takesAll_7 (fun H locs hw => ?_)
  replace h := lt_some h
  obtain ⟨M14, eM14, h⟩ := h
  rw [← eM14] at hw
  refine lv_aload_n hx hb dX7_takesAll_10 rfl (lv_at hl 0 rfl) ?_
  replace h := bd_some h
  obtain ⟨r15, er15, h⟩ := h
  refine r_callVv (As := []) (rest := []) hF (c_X7_nextToken l D cy ad adK adV M14 o0 r15 er15) (gW_goodV hcm qw1085 qw1082 qw1084 qw32 qw67) hdX7_nextToken rfl ⟨Nat.le_of_ble_eq_true rfl, Nat.le_of_ble_eq_true rfl⟩ rfl rfl hZ hK hw g12 (by decide) rfl rfl hl.1 rfl (Nat.le_of_ble_eq_true rfl) ⟨Nat.zero_le _, Nat.zero_le _⟩ dX7_takesAll_11 (fun H locs hw => ?_)
  refine lv_iconst (v := (1 : Int32)) hx hb dX7_takesAll_14 (by decide) ?_
  refine lv_istore_n (lv' := [(1, .int (1 : Int32)), (0, .ref (ad o0))]) hx hb dX7_takesAll_15 rfl hl (by decide) rfl (fun ls hl => ?_)
  exact hb16 1000 _ _ _ h _ _ _ hw (lv_sub hl [1, 0] rfl)
theorem dX7_text_0 : decode cX7_text 0 = .ok (.aload_n 0, 1) := by decide +kernel
theorem dX7_text_1 : decode cX7_text 1 = .ok (.getfield 7, 3) := by decide +kernel
theorem dX7_text_4 : decode cX7_text 4 = .ok (.aload_n 0, 1) := by decide +kernel
theorem dX7_text_5 : decode cX7_text 5 = .ok (.getfield 16, 3) := by decide +kernel
theorem dX7_text_8 : decode cX7_text 8 = .ok (.invokestatic 220, 3) := by decide +kernel
theorem dX7_text_11 : decode cX7_text 11 = .ok (.aload_n 0, 1) := by decide +kernel
theorem dX7_text_12 : decode cX7_text 12 = .ok (.invokevirtual 224, 3) := by decide +kernel
theorem dX7_text_15 : decode cX7_text 15 = .ok (.istore_n 1, 1) := by decide +kernel
theorem dX7_text_16 : decode cX7_text 16 = .ok (.aload_n 0, 1) := by decide +kernel
theorem dX7_text_17 : decode cX7_text 17 = .ok (.iconst 0, 1) := by decide +kernel
theorem dX7_text_18 : decode cX7_text 18 = .ok (.putfield 138, 3) := by decide +kernel
theorem dX7_text_21 : decode cX7_text 21 = .ok (.iload_n 1, 1) := by decide +kernel
theorem dX7_text_22 : decode cX7_text 22 = .ok (.ifCond .ne 21, 3) := by decide +kernel
theorem dX7_text_25 : decode cX7_text 25 = .ok (.aload_n 0, 1) := by decide +kernel
theorem dX7_text_26 : decode cX7_text 26 = .ok (.getfield 16, 3) := by decide +kernel
theorem dX7_text_29 : decode cX7_text 29 = .ok (.aload_n 0, 1) := by decide +kernel
theorem dX7_text_30 : decode cX7_text 30 = .ok (.getfield 7, 3) := by decide +kernel
theorem dX7_text_33 : decode cX7_text 33 = .ok (.invokestatic 220, 3) := by decide +kernel
theorem dX7_text_36 : decode cX7_text 36 = .ok (.iconst (-1), 1) := by decide +kernel
theorem dX7_text_37 : decode cX7_text 37 = .ok (.aload_n 0, 1) := by decide +kernel
theorem dX7_text_38 : decode cX7_text 38 = .ok (.getfield 147, 3) := by decide +kernel
theorem dX7_text_41 : decode cX7_text 41 = .ok (.isub, 1) := by decide +kernel
theorem dX7_text_42 : decode cX7_text 42 = .ok (.ireturn, 1) := by decide +kernel
theorem dX7_text_43 : decode cX7_text 43 = .ok (.aload_n 0, 1) := by decide +kernel
theorem dX7_text_44 : decode cX7_text 44 = .ok (.getfield 214, 3) := by decide +kernel
theorem dX7_text_47 : decode cX7_text 47 = .ok (.ireturn, 1) := by decide +kernel
set_option maxHeartbeats 4000000 in
set_option maxRecDepth 100000 in
theorem c_X7_text (l : Launch) (D : va_G) (cy : Nat → ClassId) (ad adK adV : Nat → Nat) (M : Mm) (o0 : Nat) (res : Mm × Int32) (h : f_X7_text M o0 = some res) : Met l yX7_text (wU yX7_text cX7_text 2 (some .int)) rmX7_text (va_Pc [.ref (ad o0)] (Pre D cy shM ad nM adK adV M)) (va_Qi (fun r (M2 : Mm) => r = res.2 ∧ M2 = res.1) (Pre D cy shM ad nM adK adV) (Aw ad nM)) 0 0 (Aw ad nM) := by
  refine Met.ofW (cc := cX7_text) (maxL := 2) (ret := (some .int)) (by decide) rfl ?_
  intro p e s m args below meth c s₁ B hml hv
  obtain ⟨hargs, hPre⟩ := hv
  have hx := B.exec
  have hb := B.bytes
  have hr := B.returns
  have hts := atoms_spec (ws := wU yX7_text cX7_text 2 (some .int)) B.pre
  have hq : ∀ w ∈ gW, w.before args s = true := fun w hw => hts w (List.mem_cons_of_mem _ hw)
  have hcm : ∀ w ∈ gW, w ∈ wU yX7_text cX7_text 2 (some .int) := fun w hw => List.mem_cons_of_mem _ hw
  have hown : s.vm.findClass RX7 = some m.cls := findClass_of_methodNamed B.named
  have hlocks := B.notSynchronized
  have hF : CallFix p m c cX7_text 2 s args (wU yX7_text cX7_text 2 (some .int)) RX7 := ⟨hx, hb, hml, hown, hts⟩
  have hK := hPre.2.1
  have hZ := hPre.2.2.2
  have hw : Wd D cy shM ad nM (Aw ad nM) s.heap M s.heap [] := ⟨hPre.1, hPre.2.2.1, va_S.rf⟩
  have iw7 : ∀ w ∈ u_ws RX7 TX7 30, w ∈ wU yX7_text cX7_text 2 (some .int) := fun w hw => List.mem_cons_of_mem _ (iX7 w hw)
  rw [show entryFrame m args 2 = entryFrame m ([.ref (ad o0)] : List Value).toArray 2 from by rw [hargs]]
  have hl := lv_entry ([.ref (ad o0)]) (n := 2) (Nat.le_of_ble_eq_true rfl)
  rw [lg_entry_eq]
  generalize (lg_sl ([.ref (ad o0)]) ++ List.replicate (2 - (lg_sl ([.ref (ad o0)])).length) Slot.unset).toArray = ls at hl ⊢
  have hl : lv_has ls 2 [(0, .ref (ad o0))] := hl
  unfold f_X7_text at h
  refine lv_aload_n hx hb dX7_text_0 rfl (lv_at hl 0 rfl) ?_
  replace h := gd_some h
  obtain ⟨g1, h⟩ := h
  replace h := bd_some h
  obtain ⟨q2, eq2, h⟩ := h
  refine r_getR hx hb hts iw7 hown hK hw o0 0 g1 (by decide) rfl (by decide) rfl (hq _ qw888) (fun _ h9 => h9) dX7_text_1 eq2 ?_
  refine lv_aload_n hx hb dX7_text_4 rfl (lv_at hl 0 rfl) ?_
  replace h := bd_some h
  obtain ⟨q3, eq3, h⟩ := h
  refine r_getR hx hb hts iw7 hown hK hw o0 2 g1 (by decide) rfl (by decide) rfl (hq _ qw890) (fun _ h9 => h9) dX7_text_5 eq3 ?_
  replace h := bd_some h
  obtain ⟨r4, er4, h⟩ := h
  refine r_callSv (As := [.ref (ad q2), .ref (ad q3)]) (rest := []) hF (c_X7_carry l D cy ad adK adV M q2 q3 r4 er4) (gW_goodS hcm qw1077 qw1075 qw1076 qw67) hdX7_carry ⟨Nat.le_of_ble_eq_true rfl, Nat.le_of_ble_eq_true rfl⟩ rfl rfl hZ hK hw rfl hl.1 rfl (Nat.le_of_ble_eq_true rfl) ⟨Nat.zero_le _, Nat.zero_le _⟩ dX7_text_8 (fun H locs hw => ?_)
  refine lv_aload_n hx hb dX7_text_11 rfl (lv_at hl 0 rfl) ?_
  replace h := bd_some h
  obtain ⟨r5, er5, h⟩ := h
  refine r_callVi (As := []) (rest := []) hF (c_X7_takesAll l D cy ad adK adV r4.1 o0 r5 er5) (gW_goodV hcm qw1081 qw1078 qw1080 qw31 qw67) hdX7_takesAll rfl ⟨Nat.le_of_ble_eq_true rfl, Nat.le_of_ble_eq_true rfl⟩ rfl rfl hZ hK hw g1 (by decide) rfl rfl hl.1 rfl (Nat.le_of_ble_eq_true rfl) ⟨Nat.zero_le _, Nat.zero_le _⟩ dX7_text_12 (fun H locs hw => ?_)
  refine lv_istore_n (lv' := [(1, .int r5.2), (0, .ref (ad o0))]) hx hb dX7_text_15 rfl hl (by decide) rfl (fun ls hl => ?_)
  refine lv_aload_n hx hb dX7_text_16 rfl (lv_at hl 1 rfl) ?_
  refine lv_iconst (v := (0 : Int32)) hx hb dX7_text_17 (by decide) ?_
  refine r_putI hx hb hts iw7 tyX7 tyX7_ok nmX7 hown hK hw o0 9 g1 (by decide) rfl (by decide) rfl (hq _ qw897) (fun _ h9 => h9) rfl rfl rfl dX7_text_18 (fun H locs hw => ?_)
  replace h := lt_some h
  obtain ⟨M6, eM6, h⟩ := h
  rw [← eM6] at hw
  refine lv_iload_n hx hb dX7_text_21 rfl (lv_at hl 0 rfl) ?_
  refine lv_if_ne (tgt := 43) hx hb dX7_text_22 (by decide) (fun c7 => ?_) (fun c7 => ?_)
  · replace h := if_some_f c7 h
    refine lv_aload_n hx hb dX7_text_43 rfl (lv_at hl 1 rfl) ?_
    refine r_getI hx hb hts iw7 hown hK hw o0 15 g1 (by decide) rfl (by decide) rfl (hq _ qw903) (fun _ h9 => h9) dX7_text_44 ?_
    exact r_iret hx hb hr rfl hlocks hZ hK hw h dX7_text_47
  · replace h := if_some_t c7 h
    refine lv_aload_n hx hb dX7_text_25 rfl (lv_at hl 1 rfl) ?_
    replace h := bd_some h
    obtain ⟨q8, eq8, h⟩ := h
    refine r_getR hx hb hts iw7 hown hK hw o0 2 g1 (by decide) rfl (by decide) rfl (hq _ qw890) (fun _ h9 => h9) dX7_text_26 eq8 ?_
    refine lv_aload_n hx hb dX7_text_29 rfl (lv_at hl 1 rfl) ?_
    replace h := bd_some h
    obtain ⟨q9, eq9, h⟩ := h
    refine r_getR hx hb hts iw7 hown hK hw o0 0 g1 (by decide) rfl (by decide) rfl (hq _ qw888) (fun _ h9 => h9) dX7_text_30 eq9 ?_
    replace h := bd_some h
    obtain ⟨r10, er10, h⟩ := h
    refine r_callSv (As := [.ref (ad q8), .ref (ad q9)]) (rest := []) hF (c_X7_carry l D cy ad adK adV M6 q8 q9 r10 er10) (gW_goodS hcm qw1077 qw1075 qw1076 qw67) hdX7_carry ⟨Nat.le_of_ble_eq_true rfl, Nat.le_of_ble_eq_true rfl⟩ rfl rfl hZ hK hw rfl hl.1 rfl (Nat.le_of_ble_eq_true rfl) ⟨Nat.zero_le _, Nat.zero_le _⟩ dX7_text_33 (fun H locs hw => ?_)
    refine lv_iconst (v := (-1 : Int32)) hx hb dX7_text_36 (by decide) ?_
    refine lv_aload_n hx hb dX7_text_37 rfl (lv_at hl 1 rfl) ?_
    refine r_getI hx hb hts iw7 hown hK hw o0 12 g1 (by decide) rfl (by decide) rfl (hq _ qw900) (fun _ h9 => h9) dX7_text_38 ?_
    refine lv_isub hx hb dX7_text_41 ?_
    exact r_iret hx hb hr rfl hlocks hZ hK hw h dX7_text_42
theorem dX7_next_0 : decode cX7_next 0 = .ok (.iload_n 1, 1) := by decide +kernel
theorem dX7_next_1 : decode cX7_next 1 = .ok (.iconst 0, 1) := by decide +kernel
theorem dX7_next_2 : decode cX7_next 2 = .ok (.iconst 4, 1) := by decide +kernel
theorem dX7_next_3 : decode cX7_next 3 = .ok (.invokestatic 67, 3) := by decide +kernel
theorem dX7_next_6 : decode cX7_next 6 = .ok (.ifCond .ne 9, 3) := by decide +kernel
theorem dX7_next_9 : decode cX7_next 9 = .ok (.aload_n 0, 1) := by decide +kernel
theorem dX7_next_10 : decode cX7_next 10 = .ok (.iconst 0, 1) := by decide +kernel
theorem dX7_next_11 : decode cX7_next 11 = .ok (.invokevirtual 115, 3) := by decide +kernel
theorem dX7_next_14 : decode cX7_next 14 = .ok (.ireturn, 1) := by decide +kernel
theorem dX7_next_15 : decode cX7_next 15 = .ok (.aload_n 0, 1) := by decide +kernel
theorem dX7_next_16 : decode cX7_next 16 = .ok (.invokevirtual 227, 3) := by decide +kernel
theorem dX7_next_19 : decode cX7_next 19 = .ok (.ifCond .eq 9, 3) := by decide +kernel
theorem dX7_next_22 : decode cX7_next 22 = .ok (.aload_n 0, 1) := by decide +kernel
theorem dX7_next_23 : decode cX7_next 23 = .ok (.iconst 3, 1) := by decide +kernel
theorem dX7_next_24 : decode cX7_next 24 = .ok (.invokevirtual 115, 3) := by decide +kernel
theorem dX7_next_27 : decode cX7_next 27 = .ok (.ireturn, 1) := by decide +kernel
theorem dX7_next_28 : decode cX7_next 28 = .ok (.aload_n 0, 1) := by decide +kernel
theorem dX7_next_29 : decode cX7_next 29 = .ok (.getfield 7, 3) := by decide +kernel
theorem dX7_next_32 : decode cX7_next 32 = .ok (.iconst 2, 1) := by decide +kernel
theorem dX7_next_33 : decode cX7_next 33 = .ok (.iaload, 1) := by decide +kernel
theorem dX7_next_34 : decode cX7_next 34 = .ok (.istore_n 2, 1) := by decide +kernel
theorem dX7_next_35 : decode cX7_next 35 = .ok (.aload_n 0, 1) := by decide +kernel
theorem dX7_next_36 : decode cX7_next 36 = .ok (.aload_n 0, 1) := by decide +kernel
theorem dX7_next_37 : decode cX7_next 37 = .ok (.iload_n 2, 1) := by decide +kernel
theorem dX7_next_38 : decode cX7_next 38 = .ok (.iconst 0, 1) := by decide +kernel
theorem dX7_next_39 : decode cX7_next 39 = .ok (.invokevirtual 71, 3) := by decide +kernel
theorem dX7_next_42 : decode cX7_next 42 = .ok (.iload_n 2, 1) := by decide +kernel
theorem dX7_next_43 : decode cX7_next 43 = .ok (.invokevirtual 108, 3) := by decide +kernel
theorem dX7_next_46 : decode cX7_next 46 = .ok (.istore_n 3, 1) := by decide +kernel
theorem dX7_next_47 : decode cX7_next 47 = .ok (.aload_n 0, 1) := by decide +kernel
theorem dX7_next_48 : decode cX7_next 48 = .ok (.aload_n 0, 1) := by decide +kernel
theorem dX7_next_49 : decode cX7_next 49 = .ok (.iload_n 2, 1) := by decide +kernel
theorem dX7_next_50 : decode cX7_next 50 = .ok (.iconst 1, 1) := by decide +kernel
theorem dX7_next_51 : decode cX7_next 51 = .ok (.invokevirtual 71, 3) := by decide +kernel
theorem dX7_next_54 : decode cX7_next 54 = .ok (.iload_n 2, 1) := by decide +kernel
theorem dX7_next_55 : decode cX7_next 55 = .ok (.invokevirtual 108, 3) := by decide +kernel
theorem dX7_next_58 : decode cX7_next 58 = .ok (.istore 4, 2) := by decide +kernel
theorem dX7_next_60 : decode cX7_next 60 = .ok (.iload_n 1, 1) := by decide +kernel
theorem dX7_next_61 : decode cX7_next 61 = .ok (.tableswitch 57 0 3 #[31, 33, 36, 45], 31) := by decide +kernel
theorem dX7_next_92 : decode cX7_next 92 = .ok (.iload_n 3, 1) := by decide +kernel
theorem dX7_next_93 : decode cX7_next 93 = .ok (.ireturn, 1) := by decide +kernel
theorem dX7_next_94 : decode cX7_next 94 = .ok (.iload 4, 2) := by decide +kernel
theorem dX7_next_96 : decode cX7_next 96 = .ok (.ireturn, 1) := by decide +kernel
theorem dX7_next_97 : decode cX7_next 97 = .ok (.aload_n 0, 1) := by decide +kernel
theorem dX7_next_98 : decode cX7_next 98 = .ok (.iload_n 2, 1) := by decide +kernel
theorem dX7_next_99 : decode cX7_next 99 = .ok (.iload_n 3, 1) := by decide +kernel
theorem dX7_next_100 : decode cX7_next 100 = .ok (.iload 4, 2) := by decide +kernel
theorem dX7_next_102 : decode cX7_next 102 = .ok (.invokevirtual 230, 3) := by decide +kernel
theorem dX7_next_105 : decode cX7_next 105 = .ok (.ireturn, 1) := by decide +kernel
theorem dX7_next_106 : decode cX7_next 106 = .ok (.aload_n 0, 1) := by decide +kernel
theorem dX7_next_107 : decode cX7_next 107 = .ok (.aload_n 0, 1) := by decide +kernel
theorem dX7_next_108 : decode cX7_next 108 = .ok (.iload_n 2, 1) := by decide +kernel
theorem dX7_next_109 : decode cX7_next 109 = .ok (.iconst 0, 1) := by decide +kernel
theorem dX7_next_110 : decode cX7_next 110 = .ok (.invokevirtual 71, 3) := by decide +kernel
theorem dX7_next_113 : decode cX7_next 113 = .ok (.iload_n 3, 1) := by decide +kernel
theorem dX7_next_114 : decode cX7_next 114 = .ok (.invokevirtual 98, 3) := by decide +kernel
theorem dX7_next_117 : decode cX7_next 117 = .ok (.ireturn, 1) := by decide +kernel
theorem dX7_next_118 : decode cX7_next 118 = .ok (.aload_n 0, 1) := by decide +kernel
theorem dX7_next_119 : decode cX7_next 119 = .ok (.aload_n 0, 1) := by decide +kernel
theorem dX7_next_120 : decode cX7_next 120 = .ok (.iload_n 2, 1) := by decide +kernel
theorem dX7_next_121 : decode cX7_next 121 = .ok (.iconst 1, 1) := by decide +kernel
theorem dX7_next_122 : decode cX7_next 122 = .ok (.invokevirtual 71, 3) := by decide +kernel
theorem dX7_next_125 : decode cX7_next 125 = .ok (.iload 4, 2) := by decide +kernel
theorem dX7_next_127 : decode cX7_next 127 = .ok (.invokevirtual 98, 3) := by decide +kernel
theorem dX7_next_130 : decode cX7_next 130 = .ok (.ireturn, 1) := by decide +kernel
set_option maxHeartbeats 4000000 in
set_option maxRecDepth 100000 in
theorem c_X7_next (l : Launch) (D : va_G) (cy : Nat → ClassId) (ad adK adV : Nat → Nat) (M : Mm) (o0 : Nat) (a1 : Int32) (res : Mm × Int32) (h : f_X7_next M o0 a1 = some res) : Met l yX7_next (wU yX7_next cX7_next 5 (some .int)) rmX7_next (va_Pc [.ref (ad o0), .int a1] (Pre D cy shM ad nM adK adV M)) (va_Qi (fun r (M2 : Mm) => r = res.2 ∧ M2 = res.1) (Pre D cy shM ad nM adK adV) (Aw ad nM)) 0 0 (Aw ad nM) := by
  refine Met.ofW (cc := cX7_next) (maxL := 5) (ret := (some .int)) (by decide) rfl ?_
  intro p e s m args below meth c s₁ B hml hv
  obtain ⟨hargs, hPre⟩ := hv
  have hx := B.exec
  have hb := B.bytes
  have hr := B.returns
  have hts := atoms_spec (ws := wU yX7_next cX7_next 5 (some .int)) B.pre
  have hq : ∀ w ∈ gW, w.before args s = true := fun w hw => hts w (List.mem_cons_of_mem _ hw)
  have hcm : ∀ w ∈ gW, w ∈ wU yX7_next cX7_next 5 (some .int) := fun w hw => List.mem_cons_of_mem _ hw
  have hown : s.vm.findClass RX7 = some m.cls := findClass_of_methodNamed B.named
  have hlocks := B.notSynchronized
  have hF : CallFix p m c cX7_next 5 s args (wU yX7_next cX7_next 5 (some .int)) RX7 := ⟨hx, hb, hml, hown, hts⟩
  have hK := hPre.2.1
  have hZ := hPre.2.2.2
  have hw : Wd D cy shM ad nM (Aw ad nM) s.heap M s.heap [] := ⟨hPre.1, hPre.2.2.1, va_S.rf⟩
  have iw7 : ∀ w ∈ u_ws RX7 TX7 30, w ∈ wU yX7_next cX7_next 5 (some .int) := fun w hw => List.mem_cons_of_mem _ (iX7 w hw)
  rw [show entryFrame m args 5 = entryFrame m ([.ref (ad o0), .int a1] : List Value).toArray 5 from by rw [hargs]]
  have hl := lv_entry ([.ref (ad o0), .int a1]) (n := 5) (Nat.le_of_ble_eq_true rfl)
  rw [lg_entry_eq]
  generalize (lg_sl ([.ref (ad o0), .int a1]) ++ List.replicate (5 - (lg_sl ([.ref (ad o0), .int a1])).length) Slot.unset).toArray = ls at hl ⊢
  have hl : lv_has ls 5 [(0, .ref (ad o0)), (1, .int a1)] := hl
  unfold f_X7_next at h
  refine lv_iload_n hx hb dX7_next_0 rfl (lv_at hl 1 rfl) ?_
  refine lv_iconst (v := (0 : Int32)) hx hb dX7_next_1 (by decide) ?_
  refine lv_iconst (v := (4 : Int32)) hx hb dX7_next_2 (by decide) ?_
  replace h := bd_some h
  obtain ⟨r1, er1, h⟩ := h
  refine r_callSi (As := [.int a1, .int (0 : Int32), .int (4 : Int32)]) (rest := []) hF (c_X7_in l D cy ad adK adV M a1 (0 : Int32) (4 : Int32) r1 er1) (gW_goodS hcm qw985 qw983 qw984 qw67) hdX7_in ⟨Nat.le_of_ble_eq_true rfl, Nat.le_of_ble_eq_true rfl⟩ rfl rfl hZ hK hw rfl hl.1 rfl (Nat.le_of_ble_eq_true rfl) ⟨Nat.zero_le _, Nat.zero_le _⟩ dX7_next_3 (fun H locs hw => ?_)
  refine lv_if_ne (tgt := 15) hx hb dX7_next_6 (by decide) (fun c2 => ?_) (fun c2 => ?_)
  · replace h := if_some_f c2 h
    refine lv_aload_n hx hb dX7_next_15 rfl (lv_at hl 0 rfl) ?_
    replace h := gd_some h
    obtain ⟨g4, h⟩ := h
    replace h := bd_some h
    obtain ⟨r3, er3, h⟩ := h
    refine r_callVi (As := []) (rest := []) hF (c_X7_isOver l D cy ad adK adV r1.1 o0 r3 er3) (gW_goodV hcm qw1138 qw1135 qw1137 qw41 qw67) hdX7_isOver rfl ⟨Nat.le_of_ble_eq_true rfl, Nat.le_of_ble_eq_true rfl⟩ rfl rfl hZ hK hw g4 (by decide) rfl rfl hl.1 rfl (Nat.le_of_ble_eq_true rfl) ⟨Nat.zero_le _, Nat.zero_le _⟩ dX7_next_16 (fun H locs hw => ?_)
    refine lv_if_eq (tgt := 28) hx hb dX7_next_19 (by decide) (fun c5 => ?_) (fun c5 => ?_)
    · replace h := if_some_t c5 h
      refine lv_aload_n hx hb dX7_next_28 rfl (lv_at hl 0 rfl) ?_
      replace h := bd_some h
      obtain ⟨q6, eq6, h⟩ := h
      refine r_getR hx hb hts iw7 hown hK hw o0 0 g4 (by decide) rfl (by decide) rfl (hq _ qw888) (fun _ h9 => h9) dX7_next_29 eq6 ?_
      refine lv_iconst (v := (2 : Int32)) hx hb dX7_next_32 (by decide) ?_
      replace h := gd_some h
      obtain ⟨g7, h⟩ := h
      refine r_iald hx hb hK hw q6 g7 dX7_next_33 ?_
      refine lv_istore_n (lv' := [(2, .int (r3.1.1 q6 (2 : Int32).toNatClampNeg)), (0, .ref (ad o0)), (1, .int a1)]) hx hb dX7_next_34 rfl hl (by decide) rfl (fun ls hl => ?_)
      refine lv_aload_n hx hb dX7_next_35 rfl (lv_at hl 1 rfl) ?_
      refine lv_aload_n hx hb dX7_next_36 rfl (lv_at hl 1 rfl) ?_
      refine lv_iload_n hx hb dX7_next_37 rfl (lv_at hl 0 rfl) ?_
      refine lv_iconst (v := (0 : Int32)) hx hb dX7_next_38 (by decide) ?_
      replace h := bd_some h
      obtain ⟨r8, er8, h⟩ := h
      refine r_callVi (As := [.int (r3.1.1 q6 (2 : Int32).toNatClampNeg), .int (0 : Int32)]) (rest := [.ref (ad o0)]) hF (c_X7_of l D cy ad adK adV r3.1 o0 (r3.1.1 q6 (2 : Int32).toNatClampNeg) (0 : Int32) r8 er8) (gW_goodV hcm qw1010 qw1007 qw1009 qw22 qw67) hdX7_of rfl ⟨Nat.le_of_ble_eq_true rfl, Nat.le_of_ble_eq_true rfl⟩ rfl rfl hZ hK hw g4 (by decide) rfl rfl hl.1 rfl (Nat.le_of_ble_eq_true rfl) ⟨Nat.zero_le _, Nat.zero_le _⟩ dX7_next_39 (fun H locs hw => ?_)
      refine lv_iload_n hx hb dX7_next_42 rfl (lv_at hl 0 rfl) ?_
      replace h := bd_some h
      obtain ⟨r9, er9, h⟩ := h
      refine r_callVi (As := [.int r8.2, .int (r3.1.1 q6 (2 : Int32).toNatClampNeg)]) (rest := []) hF (c_X7_effort l D cy ad adK adV r8.1 o0 r8.2 (r3.1.1 q6 (2 : Int32).toNatClampNeg) r9 er9) (gW_goodV hcm qw1142 qw1139 qw1141 qw42 qw67) hdX7_effort rfl ⟨Nat.le_of_ble_eq_true rfl, Nat.le_of_ble_eq_true rfl⟩ rfl rfl hZ hK hw g4 (by decide) rfl rfl hl.1 rfl (Nat.le_of_ble_eq_true rfl) ⟨Nat.zero_le _, Nat.zero_le _⟩ dX7_next_43 (fun H locs hw => ?_)
      refine lv_istore_n (lv' := [(3, .int r9.2), (2, .int (r3.1.1 q6 (2 : Int32).toNatClampNeg)), (0, .ref (ad o0)), (1, .int a1)]) hx hb dX7_next_46 rfl hl (by decide) rfl (fun ls hl => ?_)
      refine lv_aload_n hx hb dX7_next_47 rfl (lv_at hl 2 rfl) ?_
      refine lv_aload_n hx hb dX7_next_48 rfl (lv_at hl 2 rfl) ?_
      refine lv_iload_n hx hb dX7_next_49 rfl (lv_at hl 1 rfl) ?_
      refine lv_iconst (v := (1 : Int32)) hx hb dX7_next_50 (by decide) ?_
      replace h := bd_some h
      obtain ⟨r10, er10, h⟩ := h
      refine r_callVi (As := [.int (r3.1.1 q6 (2 : Int32).toNatClampNeg), .int (1 : Int32)]) (rest := [.ref (ad o0)]) hF (c_X7_of l D cy ad adK adV r9.1 o0 (r3.1.1 q6 (2 : Int32).toNatClampNeg) (1 : Int32) r10 er10) (gW_goodV hcm qw1010 qw1007 qw1009 qw22 qw67) hdX7_of rfl ⟨Nat.le_of_ble_eq_true rfl, Nat.le_of_ble_eq_true rfl⟩ rfl rfl hZ hK hw g4 (by decide) rfl rfl hl.1 rfl (Nat.le_of_ble_eq_true rfl) ⟨Nat.zero_le _, Nat.zero_le _⟩ dX7_next_51 (fun H locs hw => ?_)
      refine lv_iload_n hx hb dX7_next_54 rfl (lv_at hl 1 rfl) ?_
      replace h := bd_some h
      obtain ⟨r11, er11, h⟩ := h
      refine r_callVi (As := [.int r10.2, .int (r3.1.1 q6 (2 : Int32).toNatClampNeg)]) (rest := []) hF (c_X7_effort l D cy ad adK adV r10.1 o0 r10.2 (r3.1.1 q6 (2 : Int32).toNatClampNeg) r11 er11) (gW_goodV hcm qw1142 qw1139 qw1141 qw42 qw67) hdX7_effort rfl ⟨Nat.le_of_ble_eq_true rfl, Nat.le_of_ble_eq_true rfl⟩ rfl rfl hZ hK hw g4 (by decide) rfl rfl hl.1 rfl (Nat.le_of_ble_eq_true rfl) ⟨Nat.zero_le _, Nat.zero_le _⟩ dX7_next_55 (fun H locs hw => ?_)
      refine lv_istore (lv' := [(4, .int r11.2), (3, .int r9.2), (2, .int (r3.1.1 q6 (2 : Int32).toNatClampNeg)), (0, .ref (ad o0)), (1, .int a1)]) hx hb dX7_next_58 hl (by decide) rfl (fun ls hl => ?_)
      refine lv_iload_n hx hb dX7_next_60 rfl (lv_at hl 4 rfl) ?_
      by_cases s12 : a1 = 0
      · replace h := if_some_t s12 h
        refine lv_tableIn (off := 31) (tgt := 92) hx hb dX7_next_61 (by rw [s12]; decide) (by rw [s12]; decide) (by rw [s12]; decide) (by decide) ?_
        refine lv_iload_n hx hb dX7_next_92 rfl (lv_at hl 1 rfl) ?_
        exact r_iret hx hb hr rfl hlocks hZ hK hw h dX7_next_93
      replace h := if_some_f s12 h
      by_cases s13 : a1 = 1
      · replace h := if_some_t s13 h
        refine lv_tableIn (off := 33) (tgt := 94) hx hb dX7_next_61 (by rw [s13]; decide) (by rw [s13]; decide) (by rw [s13]; decide) (by decide) ?_
        refine lv_iload hx hb dX7_next_94 (lv_at hl 0 rfl) ?_
        exact r_iret hx hb hr rfl hlocks hZ hK hw h dX7_next_96
      replace h := if_some_f s13 h
      by_cases s14 : a1 = 2
      · replace h := if_some_t s14 h
        refine lv_tableIn (off := 36) (tgt := 97) hx hb dX7_next_61 (by rw [s14]; decide) (by rw [s14]; decide) (by rw [s14]; decide) (by decide) ?_
        refine lv_aload_n hx hb dX7_next_97 rfl (lv_at hl 3 rfl) ?_
        refine lv_iload_n hx hb dX7_next_98 rfl (lv_at hl 2 rfl) ?_
        refine lv_iload_n hx hb dX7_next_99 rfl (lv_at hl 1 rfl) ?_
        refine lv_iload hx hb dX7_next_100 (lv_at hl 0 rfl) ?_
        replace h := bd_some h
        obtain ⟨r15, er15, h⟩ := h
        refine r_callVi (As := [.int (r3.1.1 q6 (2 : Int32).toNatClampNeg), .int r9.2, .int r11.2]) (rest := []) hF (c_X7_chance l D cy ad adK adV r11.1 o0 (r3.1.1 q6 (2 : Int32).toNatClampNeg) r9.2 r11.2 r15 er15) (gW_goodV hcm qw1150 qw1147 qw1149 qw44 qw67) hdX7_chance rfl ⟨Nat.le_of_ble_eq_true rfl, Nat.le_of_ble_eq_true rfl⟩ rfl rfl hZ hK hw g4 (by decide) rfl rfl hl.1 rfl (Nat.le_of_ble_eq_true rfl) ⟨Nat.zero_le _, Nat.zero_le _⟩ dX7_next_102 (fun H locs hw => ?_)
        exact r_iret hx hb hr rfl hlocks hZ hK hw h dX7_next_105
      replace h := if_some_f s14 h
      by_cases s16 : a1 = 3
      · replace h := if_some_t s16 h
        refine lv_tableIn (off := 45) (tgt := 106) hx hb dX7_next_61 (by rw [s16]; decide) (by rw [s16]; decide) (by rw [s16]; decide) (by decide) ?_
        refine lv_aload_n hx hb dX7_next_106 rfl (lv_at hl 3 rfl) ?_
        refine lv_aload_n hx hb dX7_next_107 rfl (lv_at hl 3 rfl) ?_
        refine lv_iload_n hx hb dX7_next_108 rfl (lv_at hl 2 rfl) ?_
        refine lv_iconst (v := (0 : Int32)) hx hb dX7_next_109 (by decide) ?_
        replace h := bd_some h
        obtain ⟨r17, er17, h⟩ := h
        refine r_callVi (As := [.int (r3.1.1 q6 (2 : Int32).toNatClampNeg), .int (0 : Int32)]) (rest := [.ref (ad o0)]) hF (c_X7_of l D cy ad adK adV r11.1 o0 (r3.1.1 q6 (2 : Int32).toNatClampNeg) (0 : Int32) r17 er17) (gW_goodV hcm qw1010 qw1007 qw1009 qw22 qw67) hdX7_of rfl ⟨Nat.le_of_ble_eq_true rfl, Nat.le_of_ble_eq_true rfl⟩ rfl rfl hZ hK hw g4 (by decide) rfl rfl hl.1 rfl (Nat.le_of_ble_eq_true rfl) ⟨Nat.zero_le _, Nat.zero_le _⟩ dX7_next_110 (fun H locs hw => ?_)
        refine lv_iload_n hx hb dX7_next_113 rfl (lv_at hl 1 rfl) ?_
        replace h := bd_some h
        obtain ⟨r18, er18, h⟩ := h
        refine r_callVi (As := [.int r17.2, .int r9.2]) (rest := []) hF (c_X7_force l D cy ad adK adV r17.1 o0 r17.2 r9.2 r18 er18) (gW_goodV hcm qw1154 qw1151 qw1153 qw45 qw67) hdX7_force rfl ⟨Nat.le_of_ble_eq_true rfl, Nat.le_of_ble_eq_true rfl⟩ rfl rfl hZ hK hw g4 (by decide) rfl rfl hl.1 rfl (Nat.le_of_ble_eq_true rfl) ⟨Nat.zero_le _, Nat.zero_le _⟩ dX7_next_114 (fun H locs hw => ?_)
        exact r_iret hx hb hr rfl hlocks hZ hK hw h dX7_next_117
      replace h := if_some_f s16 h
      have hout21 : a1.toInt < 0 ∨ 3 < a1.toInt := by
        refine tsw_out (fun cz h1 h2 => ?_)
        rcases (show cz = 0 ∨ cz = 1 ∨ cz = 2 ∨ cz = 3 by omega) with rfl | rfl | rfl | rfl
        · exact fun e9 => s12 (e9.trans (by decide))
        · exact fun e9 => s13 (e9.trans (by decide))
        · exact fun e9 => s14 (e9.trans (by decide))
        · exact fun e9 => s16 (e9.trans (by decide))
      refine lv_tableOut (tgt := 118) hx hb dX7_next_61 hout21 (by decide) ?_
      refine lv_aload_n hx hb dX7_next_118 rfl (lv_at hl 3 rfl) ?_
      refine lv_aload_n hx hb dX7_next_119 rfl (lv_at hl 3 rfl) ?_
      refine lv_iload_n hx hb dX7_next_120 rfl (lv_at hl 2 rfl) ?_
      refine lv_iconst (v := (1 : Int32)) hx hb dX7_next_121 (by decide) ?_
      replace h := bd_some h
      obtain ⟨r19, er19, h⟩ := h
      refine r_callVi (As := [.int (r3.1.1 q6 (2 : Int32).toNatClampNeg), .int (1 : Int32)]) (rest := [.ref (ad o0)]) hF (c_X7_of l D cy ad adK adV r11.1 o0 (r3.1.1 q6 (2 : Int32).toNatClampNeg) (1 : Int32) r19 er19) (gW_goodV hcm qw1010 qw1007 qw1009 qw22 qw67) hdX7_of rfl ⟨Nat.le_of_ble_eq_true rfl, Nat.le_of_ble_eq_true rfl⟩ rfl rfl hZ hK hw g4 (by decide) rfl rfl hl.1 rfl (Nat.le_of_ble_eq_true rfl) ⟨Nat.zero_le _, Nat.zero_le _⟩ dX7_next_122 (fun H locs hw => ?_)
      refine lv_iload hx hb dX7_next_125 (lv_at hl 0 rfl) ?_
      replace h := bd_some h
      obtain ⟨r20, er20, h⟩ := h
      refine r_callVi (As := [.int r19.2, .int r11.2]) (rest := []) hF (c_X7_force l D cy ad adK adV r19.1 o0 r19.2 r11.2 r20 er20) (gW_goodV hcm qw1154 qw1151 qw1153 qw45 qw67) hdX7_force rfl ⟨Nat.le_of_ble_eq_true rfl, Nat.le_of_ble_eq_true rfl⟩ rfl rfl hZ hK hw g4 (by decide) rfl rfl hl.1 rfl (Nat.le_of_ble_eq_true rfl) ⟨Nat.zero_le _, Nat.zero_le _⟩ dX7_next_127 (fun H locs hw => ?_)
      exact r_iret hx hb hr rfl hlocks hZ hK hw h dX7_next_130
    · replace h := if_some_f c5 h
      refine lv_aload_n hx hb dX7_next_22 rfl (lv_at hl 0 rfl) ?_
      refine lv_iconst (v := (3 : Int32)) hx hb dX7_next_23 (by decide) ?_
      replace h := bd_some h
      obtain ⟨r22, er22, h⟩ := h
      refine r_callVi (As := [.int (3 : Int32)]) (rest := []) hF (c_X7_finding l D cy ad adK adV r3.1 o0 (3 : Int32) r22 er22) (gW_goodV hcm qw989 qw986 qw988 qw18 qw67) hdX7_finding rfl ⟨Nat.le_of_ble_eq_true rfl, Nat.le_of_ble_eq_true rfl⟩ rfl rfl hZ hK hw g4 (by decide) rfl rfl hl.1 rfl (Nat.le_of_ble_eq_true rfl) ⟨Nat.zero_le _, Nat.zero_le _⟩ dX7_next_24 (fun H locs hw => ?_)
      exact r_iret hx hb hr rfl hlocks hZ hK hw h dX7_next_27
  · replace h := if_some_t c2 h
    refine lv_aload_n hx hb dX7_next_9 rfl (lv_at hl 0 rfl) ?_
    refine lv_iconst (v := (0 : Int32)) hx hb dX7_next_10 (by decide) ?_
    replace h := gd_some h
    obtain ⟨g24, h⟩ := h
    replace h := bd_some h
    obtain ⟨r23, er23, h⟩ := h
    refine r_callVi (As := [.int (0 : Int32)]) (rest := []) hF (c_X7_finding l D cy ad adK adV r1.1 o0 (0 : Int32) r23 er23) (gW_goodV hcm qw989 qw986 qw988 qw18 qw67) hdX7_finding rfl ⟨Nat.le_of_ble_eq_true rfl, Nat.le_of_ble_eq_true rfl⟩ rfl rfl hZ hK hw g24 (by decide) rfl rfl hl.1 rfl (Nat.le_of_ble_eq_true rfl) ⟨Nat.zero_le _, Nat.zero_le _⟩ dX7_next_11 (fun H locs hw => ?_)
    exact r_iret hx hb hr rfl hlocks hZ hK hw h dX7_next_14
theorem dX7_win_0 : decode cX7_win 0 = .ok (.aload_n 0, 1) := by decide +kernel
theorem dX7_win_1 : decode cX7_win 1 = .ok (.invokevirtual 227, 3) := by decide +kernel
theorem dX7_win_4 : decode cX7_win 4 = .ok (.ifCond .eq 9, 3) := by decide +kernel
theorem dX7_win_7 : decode cX7_win 7 = .ok (.aload_n 0, 1) := by decide +kernel
theorem dX7_win_8 : decode cX7_win 8 = .ok (.iconst 3, 1) := by decide +kernel
theorem dX7_win_9 : decode cX7_win 9 = .ok (.invokevirtual 115, 3) := by decide +kernel
theorem dX7_win_12 : decode cX7_win 12 = .ok (.ireturn, 1) := by decide +kernel
theorem dX7_win_13 : decode cX7_win 13 = .ok (.aload_n 0, 1) := by decide +kernel
theorem dX7_win_14 : decode cX7_win 14 = .ok (.iload_n 1, 1) := by decide +kernel
theorem dX7_win_15 : decode cX7_win 15 = .ok (.invokevirtual 121, 3) := by decide +kernel
theorem dX7_win_18 : decode cX7_win 18 = .ok (.ifCond .eq 17, 3) := by decide +kernel
theorem dX7_win_21 : decode cX7_win 21 = .ok (.aload_n 0, 1) := by decide +kernel
theorem dX7_win_22 : decode cX7_win 22 = .ok (.iload_n 1, 1) := by decide +kernel
theorem dX7_win_23 : decode cX7_win 23 = .ok (.aload_n 0, 1) := by decide +kernel
theorem dX7_win_24 : decode cX7_win 24 = .ok (.getfield 7, 3) := by decide +kernel
theorem dX7_win_27 : decode cX7_win 27 = .ok (.iconst 2, 1) := by decide +kernel
theorem dX7_win_28 : decode cX7_win 28 = .ok (.iaload, 1) := by decide +kernel
theorem dX7_win_29 : decode cX7_win 29 = .ok (.invokevirtual 75, 3) := by decide +kernel
theorem dX7_win_32 : decode cX7_win 32 = .ok (.ifCond .ne 9, 3) := by decide +kernel
theorem dX7_win_35 : decode cX7_win 35 = .ok (.aload_n 0, 1) := by decide +kernel
theorem dX7_win_36 : decode cX7_win 36 = .ok (.iconst 0, 1) := by decide +kernel
theorem dX7_win_37 : decode cX7_win 37 = .ok (.invokevirtual 115, 3) := by decide +kernel
theorem dX7_win_40 : decode cX7_win 40 = .ok (.ireturn, 1) := by decide +kernel
theorem dX7_win_41 : decode cX7_win 41 = .ok (.aload_n 0, 1) := by decide +kernel
theorem dX7_win_42 : decode cX7_win 42 = .ok (.iload_n 1, 1) := by decide +kernel
theorem dX7_win_43 : decode cX7_win 43 = .ok (.invokevirtual 234, 3) := by decide +kernel
theorem dX7_win_46 : decode cX7_win 46 = .ok (.aload_n 0, 1) := by decide +kernel
theorem dX7_win_47 : decode cX7_win 47 = .ok (.aload_n 0, 1) := by decide +kernel
theorem dX7_win_48 : decode cX7_win 48 = .ok (.getfield 7, 3) := by decide +kernel
theorem dX7_win_51 : decode cX7_win 51 = .ok (.iconst 2, 1) := by decide +kernel
theorem dX7_win_52 : decode cX7_win 52 = .ok (.iaload, 1) := by decide +kernel
theorem dX7_win_53 : decode cX7_win 53 = .ok (.iconst 1, 1) := by decide +kernel
theorem dX7_win_54 : decode cX7_win 54 = .ok (.isub, 1) := by decide +kernel
theorem dX7_win_55 : decode cX7_win 55 = .ok (.iconst 4, 1) := by decide +kernel
theorem dX7_win_56 : decode cX7_win 56 = .ok (.invokevirtual 71, 3) := by decide +kernel
theorem dX7_win_59 : decode cX7_win 59 = .ok (.ireturn, 1) := by decide +kernel
set_option maxHeartbeats 4000000 in
set_option maxRecDepth 100000 in
theorem c_X7_win (l : Launch) (D : va_G) (cy : Nat → ClassId) (ad adK adV : Nat → Nat) (M : Mm) (o0 : Nat) (a1 : Int32) (res : Mm × Int32) (h : f_X7_win M o0 a1 = some res) : Met l yX7_win (wU yX7_win cX7_win 2 (some .int)) rmX7_win (va_Pc [.ref (ad o0), .int a1] (Pre D cy shM ad nM adK adV M)) (va_Qi (fun r (M2 : Mm) => r = res.2 ∧ M2 = res.1) (Pre D cy shM ad nM adK adV) (Aw ad nM)) 0 0 (Aw ad nM) := by
  refine Met.ofW (cc := cX7_win) (maxL := 2) (ret := (some .int)) (by decide) rfl ?_
  intro p e s m args below meth c s₁ B hml hv
  obtain ⟨hargs, hPre⟩ := hv
  have hx := B.exec
  have hb := B.bytes
  have hr := B.returns
  have hts := atoms_spec (ws := wU yX7_win cX7_win 2 (some .int)) B.pre
  have hq : ∀ w ∈ gW, w.before args s = true := fun w hw => hts w (List.mem_cons_of_mem _ hw)
  have hcm : ∀ w ∈ gW, w ∈ wU yX7_win cX7_win 2 (some .int) := fun w hw => List.mem_cons_of_mem _ hw
  have hown : s.vm.findClass RX7 = some m.cls := findClass_of_methodNamed B.named
  have hlocks := B.notSynchronized
  have hF : CallFix p m c cX7_win 2 s args (wU yX7_win cX7_win 2 (some .int)) RX7 := ⟨hx, hb, hml, hown, hts⟩
  have hK := hPre.2.1
  have hZ := hPre.2.2.2
  have hw : Wd D cy shM ad nM (Aw ad nM) s.heap M s.heap [] := ⟨hPre.1, hPre.2.2.1, va_S.rf⟩
  have iw7 : ∀ w ∈ u_ws RX7 TX7 30, w ∈ wU yX7_win cX7_win 2 (some .int) := fun w hw => List.mem_cons_of_mem _ (iX7 w hw)
  rw [show entryFrame m args 2 = entryFrame m ([.ref (ad o0), .int a1] : List Value).toArray 2 from by rw [hargs]]
  have hl := lv_entry ([.ref (ad o0), .int a1]) (n := 2) (Nat.le_of_ble_eq_true rfl)
  rw [lg_entry_eq]
  generalize (lg_sl ([.ref (ad o0), .int a1]) ++ List.replicate (2 - (lg_sl ([.ref (ad o0), .int a1])).length) Slot.unset).toArray = ls at hl ⊢
  have hl : lv_has ls 2 [(0, .ref (ad o0)), (1, .int a1)] := hl
  have hb35 : ∀ (M : Mm) (x0 : Nat), f_X7_win_b35 M x0 = some res → ∀ (H : Heap) (locs : List Loc) (ls : Array Slot), Wd D cy shM ad nM (Aw ad nM) s.heap M H locs → lv_has ls 2 [(0, .ref (ad x0))] → W p l e (headSpec (wU yX7_win cX7_win 2 (some .int)) rmX7_win).room s m args below meth c H locs 0 0 (QI D cy shM ad nM adK adV below args s res) (F0 m 35 ls []) := by
    intro M x0 h H locs ls hw hl
    unfold f_X7_win_b35 at h
    refine lv_aload_n hx hb dX7_win_35 rfl (lv_at hl 0 rfl) ?_
    refine lv_iconst (v := (0 : Int32)) hx hb dX7_win_36 (by decide) ?_
    replace h := gd_some h
    obtain ⟨g2, h⟩ := h
    replace h := bd_some h
    obtain ⟨r1, er1, h⟩ := h
    refine r_callVi (As := [.int (0 : Int32)]) (rest := []) hF (c_X7_finding l D cy ad adK adV M x0 (0 : Int32) r1 er1) (gW_goodV hcm qw989 qw986 qw988 qw18 qw67) hdX7_finding rfl ⟨Nat.le_of_ble_eq_true rfl, Nat.le_of_ble_eq_true rfl⟩ rfl rfl hZ hK hw g2 (by decide) rfl rfl hl.1 rfl (Nat.le_of_ble_eq_true rfl) ⟨Nat.zero_le _, Nat.zero_le _⟩ dX7_win_37 (fun H locs hw => ?_)
    exact r_iret hx hb hr rfl hlocks hZ hK hw h dX7_win_40
  unfold f_X7_win at h
  refine lv_aload_n hx hb dX7_win_0 rfl (lv_at hl 0 rfl) ?_
  replace h := gd_some h
  obtain ⟨g4, h⟩ := h
  replace h := bd_some h
  obtain ⟨r3, er3, h⟩ := h
  refine r_callVi (As := []) (rest := []) hF (c_X7_isOver l D cy ad adK adV M o0 r3 er3) (gW_goodV hcm qw1138 qw1135 qw1137 qw41 qw67) hdX7_isOver rfl ⟨Nat.le_of_ble_eq_true rfl, Nat.le_of_ble_eq_true rfl⟩ rfl rfl hZ hK hw g4 (by decide) rfl rfl hl.1 rfl (Nat.le_of_ble_eq_true rfl) ⟨Nat.zero_le _, Nat.zero_le _⟩ dX7_win_1 (fun H locs hw => ?_)
  refine lv_if_eq (tgt := 13) hx hb dX7_win_4 (by decide) (fun c5 => ?_) (fun c5 => ?_)
  · replace h := if_some_t c5 h
    refine lv_aload_n hx hb dX7_win_13 rfl (lv_at hl 0 rfl) ?_
    refine lv_iload_n hx hb dX7_win_14 rfl (lv_at hl 1 rfl) ?_
    replace h := bd_some h
    obtain ⟨r6, er6, h⟩ := h
    refine r_callVi (As := [.int a1]) (rest := []) hF (c_X7_isSide l D cy ad adK adV r3.1 o0 a1 r6 er6) (gW_goodV hcm qw1002 qw999 qw1001 qw20 qw67) hdX7_isSide rfl ⟨Nat.le_of_ble_eq_true rfl, Nat.le_of_ble_eq_true rfl⟩ rfl rfl hZ hK hw g4 (by decide) rfl rfl hl.1 rfl (Nat.le_of_ble_eq_true rfl) ⟨Nat.zero_le _, Nat.zero_le _⟩ dX7_win_15 (fun H locs hw => ?_)
    refine lv_if_eq (tgt := 35) hx hb dX7_win_18 (by decide) (fun c7 => ?_) (fun c7 => ?_)
    · replace h := if_some_t c7 h
      exact hb35 _ _ h _ _ _ hw (lv_sub hl [0] rfl)
    · replace h := if_some_f c7 h
      refine lv_aload_n hx hb dX7_win_21 rfl (lv_at hl 0 rfl) ?_
      refine lv_iload_n hx hb dX7_win_22 rfl (lv_at hl 1 rfl) ?_
      refine lv_aload_n hx hb dX7_win_23 rfl (lv_at hl 0 rfl) ?_
      replace h := bd_some h
      obtain ⟨q8, eq8, h⟩ := h
      refine r_getR hx hb hts iw7 hown hK hw o0 0 g4 (by decide) rfl (by decide) rfl (hq _ qw888) (fun _ h9 => h9) dX7_win_24 eq8 ?_
      refine lv_iconst (v := (2 : Int32)) hx hb dX7_win_27 (by decide) ?_
      replace h := gd_some h
      obtain ⟨g9, h⟩ := h
      refine r_iald hx hb hK hw q8 g9 dX7_win_28 ?_
      replace h := bd_some h
      obtain ⟨r10, er10, h⟩ := h
      refine r_callVi (As := [.int a1, .int (r6.1.1 q8 (2 : Int32).toNatClampNeg)]) (rest := []) hF (c_X7_plays l D cy ad adK adV r6.1 o0 a1 (r6.1.1 q8 (2 : Int32).toNatClampNeg) r10 er10) (gW_goodV hcm qw1018 qw1015 qw1017 qw24 qw67) hdX7_plays rfl ⟨Nat.le_of_ble_eq_true rfl, Nat.le_of_ble_eq_true rfl⟩ rfl rfl hZ hK hw g4 (by decide) rfl rfl hl.1 rfl (Nat.le_of_ble_eq_true rfl) ⟨Nat.zero_le _, Nat.zero_le _⟩ dX7_win_29 (fun H locs hw => ?_)
      refine lv_if_ne (tgt := 41) hx hb dX7_win_32 (by decide) (fun c11 => ?_) (fun c11 => ?_)
      · replace h := if_some_f c11 h
        refine lv_aload_n hx hb dX7_win_41 rfl (lv_at hl 0 rfl) ?_
        refine lv_iload_n hx hb dX7_win_42 rfl (lv_at hl 1 rfl) ?_
        replace h := bd_some h
        obtain ⟨r12, er12, h⟩ := h
        refine r_callVv (As := [.int a1]) (rest := []) hF (c_X7_winsNow l D cy ad adK adV r10.1 o0 a1 r12 er12) (gW_goodV hcm qw1162 qw1159 qw1161 qw46 qw67) hdX7_winsNow rfl ⟨Nat.le_of_ble_eq_true rfl, Nat.le_of_ble_eq_true rfl⟩ rfl rfl hZ hK hw g4 (by decide) rfl rfl hl.1 rfl (Nat.le_of_ble_eq_true rfl) ⟨Nat.zero_le _, Nat.zero_le _⟩ dX7_win_43 (fun H locs hw => ?_)
        refine lv_aload_n hx hb dX7_win_46 rfl (lv_at hl 0 rfl) ?_
        refine lv_aload_n hx hb dX7_win_47 rfl (lv_at hl 0 rfl) ?_
        replace h := bd_some h
        obtain ⟨q13, eq13, h⟩ := h
        refine r_getR hx hb hts iw7 hown hK hw o0 0 g4 (by decide) rfl (by decide) rfl (hq _ qw888) (fun _ h9 => h9) dX7_win_48 eq13 ?_
        refine lv_iconst (v := (2 : Int32)) hx hb dX7_win_51 (by decide) ?_
        replace h := gd_some h
        obtain ⟨g14, h⟩ := h
        refine r_iald hx hb hK hw q13 g14 dX7_win_52 ?_
        refine lv_iconst (v := (1 : Int32)) hx hb dX7_win_53 (by decide) ?_
        refine lv_isub hx hb dX7_win_54 ?_
        refine lv_iconst (v := (4 : Int32)) hx hb dX7_win_55 (by decide) ?_
        replace h := bd_some h
        obtain ⟨r15, er15, h⟩ := h
        refine r_callVi (As := [.int ((r12.1.1 q13 (2 : Int32).toNatClampNeg) - (1 : Int32)), .int (4 : Int32)]) (rest := []) hF (c_X7_of l D cy ad adK adV r12.1 o0 ((r12.1.1 q13 (2 : Int32).toNatClampNeg) - (1 : Int32)) (4 : Int32) r15 er15) (gW_goodV hcm qw1010 qw1007 qw1009 qw22 qw67) hdX7_of rfl ⟨Nat.le_of_ble_eq_true rfl, Nat.le_of_ble_eq_true rfl⟩ rfl rfl hZ hK hw g4 (by decide) rfl rfl hl.1 rfl (Nat.le_of_ble_eq_true rfl) ⟨Nat.zero_le _, Nat.zero_le _⟩ dX7_win_56 (fun H locs hw => ?_)
        exact r_iret hx hb hr rfl hlocks hZ hK hw h dX7_win_59
      · replace h := if_some_t c11 h
        exact hb35 _ _ h _ _ _ hw (lv_sub hl [0] rfl)
  · replace h := if_some_f c5 h
    refine lv_aload_n hx hb dX7_win_7 rfl (lv_at hl 0 rfl) ?_
    refine lv_iconst (v := (3 : Int32)) hx hb dX7_win_8 (by decide) ?_
    replace h := bd_some h
    obtain ⟨r16, er16, h⟩ := h
    refine r_callVi (As := [.int (3 : Int32)]) (rest := []) hF (c_X7_finding l D cy ad adK adV r3.1 o0 (3 : Int32) r16 er16) (gW_goodV hcm qw989 qw986 qw988 qw18 qw67) hdX7_finding rfl ⟨Nat.le_of_ble_eq_true rfl, Nat.le_of_ble_eq_true rfl⟩ rfl rfl hZ hK hw g4 (by decide) rfl rfl hl.1 rfl (Nat.le_of_ble_eq_true rfl) ⟨Nat.zero_le _, Nat.zero_le _⟩ dX7_win_9 (fun H locs hw => ?_)
    exact r_iret hx hb hr rfl hlocks hZ hK hw h dX7_win_12
theorem dX7_draw_0 : decode cX7_draw 0 = .ok (.aload_n 0, 1) := by decide +kernel
theorem dX7_draw_1 : decode cX7_draw 1 = .ok (.getfield 7, 3) := by decide +kernel
theorem dX7_draw_4 : decode cX7_draw 4 = .ok (.iconst 4, 1) := by decide +kernel
theorem dX7_draw_5 : decode cX7_draw 5 = .ok (.aload_n 0, 1) := by decide +kernel
theorem dX7_draw_6 : decode cX7_draw 6 = .ok (.getfield 7, 3) := by decide +kernel
theorem dX7_draw_9 : decode cX7_draw 9 = .ok (.iconst 4, 1) := by decide +kernel
theorem dX7_draw_10 : decode cX7_draw 10 = .ok (.iaload, 1) := by decide +kernel
theorem dX7_draw_11 : decode cX7_draw 11 = .ok (.ldc 238, 2) := by decide +kernel
theorem dX7_draw_13 : decode cX7_draw 13 = .ok (.imul, 1) := by decide +kernel
theorem dX7_draw_14 : decode cX7_draw 14 = .ok (.sipush 12345, 3) := by decide +kernel
theorem dX7_draw_17 : decode cX7_draw 17 = .ok (.iadd, 1) := by decide +kernel
theorem dX7_draw_18 : decode cX7_draw 18 = .ok (.iastore, 1) := by decide +kernel
theorem dX7_draw_19 : decode cX7_draw 19 = .ok (.aload_n 0, 1) := by decide +kernel
theorem dX7_draw_20 : decode cX7_draw 20 = .ok (.getfield 7, 3) := by decide +kernel
theorem dX7_draw_23 : decode cX7_draw 23 = .ok (.iconst 4, 1) := by decide +kernel
theorem dX7_draw_24 : decode cX7_draw 24 = .ok (.iaload, 1) := by decide +kernel
theorem dX7_draw_25 : decode cX7_draw 25 = .ok (.bipush 8, 2) := by decide +kernel
theorem dX7_draw_27 : decode cX7_draw 27 = .ok (.iushr, 1) := by decide +kernel
theorem dX7_draw_28 : decode cX7_draw 28 = .ok (.ireturn, 1) := by decide +kernel
set_option maxHeartbeats 4000000 in
set_option maxRecDepth 100000 in
theorem c_X7_draw (l : Launch) (D : va_G) (cy : Nat → ClassId) (ad adK adV : Nat → Nat) (M : Mm) (o0 : Nat) (res : Mm × Int32) (h : f_X7_draw M o0 = some res) : Met l yX7_draw (wU yX7_draw cX7_draw 1 (some .int)) rmX7_draw (va_Pc [.ref (ad o0)] (Pre D cy shM ad nM adK adV M)) (va_Qi (fun r (M2 : Mm) => r = res.2 ∧ M2 = res.1) (Pre D cy shM ad nM adK adV) (Aw ad nM)) 0 0 (Aw ad nM) := by
  refine Met.ofW (cc := cX7_draw) (maxL := 1) (ret := (some .int)) (by decide) rfl ?_
  intro p e s m args below meth c s₁ B hml hv
  obtain ⟨hargs, hPre⟩ := hv
  have hx := B.exec
  have hb := B.bytes
  have hr := B.returns
  have hts := atoms_spec (ws := wU yX7_draw cX7_draw 1 (some .int)) B.pre
  have hq : ∀ w ∈ gW, w.before args s = true := fun w hw => hts w (List.mem_cons_of_mem _ hw)
  have hcm : ∀ w ∈ gW, w ∈ wU yX7_draw cX7_draw 1 (some .int) := fun w hw => List.mem_cons_of_mem _ hw
  have hown : s.vm.findClass RX7 = some m.cls := findClass_of_methodNamed B.named
  have hlocks := B.notSynchronized
  have hF : CallFix p m c cX7_draw 1 s args (wU yX7_draw cX7_draw 1 (some .int)) RX7 := ⟨hx, hb, hml, hown, hts⟩
  have hK := hPre.2.1
  have hZ := hPre.2.2.2
  have hw : Wd D cy shM ad nM (Aw ad nM) s.heap M s.heap [] := ⟨hPre.1, hPre.2.2.1, va_S.rf⟩
  have iw7 : ∀ w ∈ u_ws RX7 TX7 30, w ∈ wU yX7_draw cX7_draw 1 (some .int) := fun w hw => List.mem_cons_of_mem _ (iX7 w hw)
  rw [show entryFrame m args 1 = entryFrame m ([.ref (ad o0)] : List Value).toArray 1 from by rw [hargs]]
  have hl := lv_entry ([.ref (ad o0)]) (n := 1) (Nat.le_of_ble_eq_true rfl)
  rw [lg_entry_eq]
  generalize (lg_sl ([.ref (ad o0)]) ++ List.replicate (1 - (lg_sl ([.ref (ad o0)])).length) Slot.unset).toArray = ls at hl ⊢
  have hl : lv_has ls 1 [(0, .ref (ad o0))] := hl
  unfold f_X7_draw at h
  refine lv_aload_n hx hb dX7_draw_0 rfl (lv_at hl 0 rfl) ?_
  replace h := gd_some h
  obtain ⟨g1, h⟩ := h
  replace h := bd_some h
  obtain ⟨q2, eq2, h⟩ := h
  refine r_getR hx hb hts iw7 hown hK hw o0 0 g1 (by decide) rfl (by decide) rfl (hq _ qw888) (fun _ h9 => h9) dX7_draw_1 eq2 ?_
  refine lv_iconst (v := (4 : Int32)) hx hb dX7_draw_4 (by decide) ?_
  refine lv_aload_n hx hb dX7_draw_5 rfl (lv_at hl 0 rfl) ?_
  replace h := bd_some h
  obtain ⟨q3, eq3, h⟩ := h
  refine r_getR hx hb hts iw7 hown hK hw o0 0 g1 (by decide) rfl (by decide) rfl (hq _ qw888) (fun _ h9 => h9) dX7_draw_6 eq3 ?_
  refine lv_iconst (v := (4 : Int32)) hx hb dX7_draw_9 (by decide) ?_
  replace h := gd_some h
  obtain ⟨g4, h⟩ := h
  refine r_iald hx hb hK hw q3 g4 dX7_draw_10 ?_
  refine lv_ldc (v := (1103515245 : Int32)) hx hb hown (hq _ qw1183) dX7_draw_11 ?_
  refine lv_imul hx hb dX7_draw_13 ?_
  refine lv_sipush (v := (12345 : Int32)) hx hb dX7_draw_14 (by decide) ?_
  refine lv_iadd hx hb dX7_draw_17 ?_
  replace h := gd_some h
  obtain ⟨g5, h⟩ := h
  refine r_iast hx hb hK hw q2 g5 dX7_draw_18 (fun H locs hw => ?_)
  replace h := lt_some h
  obtain ⟨M6, eM6, h⟩ := h
  rw [← eM6] at hw
  refine lv_aload_n hx hb dX7_draw_19 rfl (lv_at hl 0 rfl) ?_
  replace h := bd_some h
  obtain ⟨q7, eq7, h⟩ := h
  refine r_getR hx hb hts iw7 hown hK hw o0 0 g1 (by decide) rfl (by decide) rfl (hq _ qw888) (fun _ h9 => h9) dX7_draw_20 eq7 ?_
  refine lv_iconst (v := (4 : Int32)) hx hb dX7_draw_23 (by decide) ?_
  replace h := gd_some h
  obtain ⟨g8, h⟩ := h
  refine r_iald hx hb hK hw q7 g8 dX7_draw_24 ?_
  refine lv_bipush (v := (8 : Int32)) hx hb dX7_draw_25 (by decide) ?_
  refine lv_iushr (v := ((M6.1 q7 (4 : Int32).toNatClampNeg).toUInt32 >>> ((8 : Int32).toUInt32 &&& Int32.toUInt32 31)).toInt32) hx hb dX7_draw_27 rfl ?_
  exact r_iret hx hb hr rfl hlocks hZ hK hw h dX7_draw_28

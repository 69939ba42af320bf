theorem dX7_effort_0 : decode cX7_effort 0 = .ok (.aload_n 0, 1) := by decide +kernel
theorem dX7_effort_1 : decode cX7_effort 1 = .ok (.getfield 22, 3) := by decide +kernel
theorem dX7_effort_4 : decode cX7_effort 4 = .ok (.iload_n 2, 1) := by decide +kernel
theorem dX7_effort_5 : decode cX7_effort 5 = .ok (.if_icmp .ne 16, 3) := by decide +kernel
theorem dX7_effort_8 : decode cX7_effort 8 = .ok (.aload_n 0, 1) := by decide +kernel
theorem dX7_effort_9 : decode cX7_effort 9 = .ok (.getfield 79, 3) := by decide +kernel
theorem dX7_effort_12 : decode cX7_effort 12 = .ok (.iload_n 1, 1) := by decide +kernel
theorem dX7_effort_13 : decode cX7_effort 13 = .ok (.if_icmp .ne 8, 3) := by decide +kernel
theorem dX7_effort_16 : decode cX7_effort 16 = .ok (.aload_n 0, 1) := by decide +kernel
theorem dX7_effort_17 : decode cX7_effort 17 = .ok (.getfield 82, 3) := by decide +kernel
theorem dX7_effort_20 : decode cX7_effort 20 = .ok (.ireturn, 1) := by decide +kernel
theorem dX7_effort_21 : decode cX7_effort 21 = .ok (.aload_n 0, 1) := by decide +kernel
theorem dX7_effort_22 : decode cX7_effort 22 = .ok (.iload_n 1, 1) := by decide +kernel
theorem dX7_effort_23 : decode cX7_effort 23 = .ok (.invokevirtual 85, 3) := by decide +kernel
theorem dX7_effort_26 : decode cX7_effort 26 = .ok (.istore_n 3, 1) := by decide +kernel
theorem dX7_effort_27 : decode cX7_effort 27 = .ok (.iload_n 3, 1) := by decide +kernel
theorem dX7_effort_28 : decode cX7_effort 28 = .ok (.ifCond .eq 7, 3) := by decide +kernel
theorem dX7_effort_31 : decode cX7_effort 31 = .ok (.iconst 1, 1) := by decide +kernel
theorem dX7_effort_32 : decode cX7_effort 32 = .ok (.goto 4, 3) := by decide +kernel
theorem dX7_effort_35 : decode cX7_effort 35 = .ok (.iconst 2, 1) := by decide +kernel
theorem dX7_effort_36 : decode cX7_effort 36 = .ok (.istore 4, 2) := by decide +kernel
theorem dX7_effort_38 : decode cX7_effort 38 = .ok (.aload_n 0, 1) := by decide +kernel
theorem dX7_effort_39 : decode cX7_effort 39 = .ok (.iload_n 1, 1) := by decide +kernel
theorem dX7_effort_40 : decode cX7_effort 40 = .ok (.iconst 0, 1) := by decide +kernel
theorem dX7_effort_41 : decode cX7_effort 41 = .ok (.invokevirtual 89, 3) := by decide +kernel
theorem dX7_effort_44 : decode cX7_effort 44 = .ok (.tableswitch 158 1 6 #[40, 42, 45, 96, 116, 137], 40) := by decide +kernel
theorem dX7_effort_84 : decode cX7_effort 84 = .ok (.iconst 3, 1) := by decide +kernel
theorem dX7_effort_85 : decode cX7_effort 85 = .ok (.ireturn, 1) := by decide +kernel
theorem dX7_effort_86 : decode cX7_effort 86 = .ok (.iload 4, 2) := by decide +kernel
theorem dX7_effort_88 : decode cX7_effort 88 = .ok (.ireturn, 1) := by decide +kernel
theorem dX7_effort_89 : decode cX7_effort 89 = .ok (.aload_n 0, 1) := by decide +kernel
theorem dX7_effort_90 : decode cX7_effort 90 = .ok (.iload_n 2, 1) := by decide +kernel
theorem dX7_effort_91 : decode cX7_effort 91 = .ok (.iconst 0, 1) := by decide +kernel
theorem dX7_effort_92 : decode cX7_effort 92 = .ok (.invokevirtual 71, 3) := by decide +kernel
theorem dX7_effort_95 : decode cX7_effort 95 = .ok (.iload_n 1, 1) := by decide +kernel
theorem dX7_effort_96 : decode cX7_effort 96 = .ok (.if_icmp .ne 12, 3) := by decide +kernel
theorem dX7_effort_99 : decode cX7_effort 99 = .ok (.aload_n 0, 1) := by decide +kernel
theorem dX7_effort_100 : decode cX7_effort 100 = .ok (.iload_n 2, 1) := by decide +kernel
theorem dX7_effort_101 : decode cX7_effort 101 = .ok (.iconst 1, 1) := by decide +kernel
theorem dX7_effort_102 : decode cX7_effort 102 = .ok (.invokevirtual 71, 3) := by decide +kernel
theorem dX7_effort_105 : decode cX7_effort 105 = .ok (.goto 9, 3) := by decide +kernel
theorem dX7_effort_108 : decode cX7_effort 108 = .ok (.aload_n 0, 1) := by decide +kernel
theorem dX7_effort_109 : decode cX7_effort 109 = .ok (.iload_n 2, 1) := by decide +kernel
theorem dX7_effort_110 : decode cX7_effort 110 = .ok (.iconst 0, 1) := by decide +kernel
theorem dX7_effort_111 : decode cX7_effort 111 = .ok (.invokevirtual 71, 3) := by decide +kernel
theorem dX7_effort_114 : decode cX7_effort 114 = .ok (.istore 5, 2) := by decide +kernel
theorem dX7_effort_116 : decode cX7_effort 116 = .ok (.iload_n 3, 1) := by decide +kernel
theorem dX7_effort_117 : decode cX7_effort 117 = .ok (.ifCond .eq 7, 3) := by decide +kernel
theorem dX7_effort_120 : decode cX7_effort 120 = .ok (.iconst 0, 1) := by decide +kernel
theorem dX7_effort_121 : decode cX7_effort 121 = .ok (.goto 18, 3) := by decide +kernel
theorem dX7_effort_124 : decode cX7_effort 124 = .ok (.aload_n 0, 1) := by decide +kernel
theorem dX7_effort_125 : decode cX7_effort 125 = .ok (.iload 5, 2) := by decide +kernel
theorem dX7_effort_127 : decode cX7_effort 127 = .ok (.invokevirtual 85, 3) := by decide +kernel
theorem dX7_effort_130 : decode cX7_effort 130 = .ok (.ifCond .eq 7, 3) := by decide +kernel
theorem dX7_effort_133 : decode cX7_effort 133 = .ok (.iconst 3, 1) := by decide +kernel
theorem dX7_effort_134 : decode cX7_effort 134 = .ok (.goto 5, 3) := by decide +kernel
theorem dX7_effort_137 : decode cX7_effort 137 = .ok (.iload 4, 2) := by decide +kernel
theorem dX7_effort_139 : decode cX7_effort 139 = .ok (.ireturn, 1) := by decide +kernel
theorem dX7_effort_140 : decode cX7_effort 140 = .ok (.iload_n 3, 1) := by decide +kernel
theorem dX7_effort_141 : decode cX7_effort 141 = .ok (.ifCond .ne 16, 3) := by decide +kernel
theorem dX7_effort_144 : decode cX7_effort 144 = .ok (.aload_n 0, 1) := by decide +kernel
theorem dX7_effort_145 : decode cX7_effort 145 = .ok (.iload_n 1, 1) := by decide +kernel
theorem dX7_effort_146 : decode cX7_effort 146 = .ok (.iload_n 2, 1) := by decide +kernel
theorem dX7_effort_147 : decode cX7_effort 147 = .ok (.invokevirtual 92, 3) := by decide +kernel
theorem dX7_effort_150 : decode cX7_effort 150 = .ok (.ifCond .eq 7, 3) := by decide +kernel
theorem dX7_effort_153 : decode cX7_effort 153 = .ok (.iconst 0, 1) := by decide +kernel
theorem dX7_effort_154 : decode cX7_effort 154 = .ok (.goto 5, 3) := by decide +kernel
theorem dX7_effort_157 : decode cX7_effort 157 = .ok (.iload 4, 2) := by decide +kernel
theorem dX7_effort_159 : decode cX7_effort 159 = .ok (.ireturn, 1) := by decide +kernel
theorem dX7_effort_160 : decode cX7_effort 160 = .ok (.aload_n 0, 1) := by decide +kernel
theorem dX7_effort_161 : decode cX7_effort 161 = .ok (.iload_n 2, 1) := by decide +kernel
theorem dX7_effort_162 : decode cX7_effort 162 = .ok (.iconst 2, 1) := by decide +kernel
theorem dX7_effort_163 : decode cX7_effort 163 = .ok (.invokevirtual 71, 3) := by decide +kernel
theorem dX7_effort_166 : decode cX7_effort 166 = .ok (.aload_n 0, 1) := by decide +kernel
theorem dX7_effort_167 : decode cX7_effort 167 = .ok (.iload_n 1, 1) := by decide +kernel
theorem dX7_effort_168 : decode cX7_effort 168 = .ok (.iconst 2, 1) := by decide +kernel
theorem dX7_effort_169 : decode cX7_effort 169 = .ok (.invokevirtual 89, 3) := by decide +kernel
theorem dX7_effort_172 : decode cX7_effort 172 = .ok (.if_icmp .ge 7, 3) := by decide +kernel
theorem dX7_effort_175 : decode cX7_effort 175 = .ok (.iconst 0, 1) := by decide +kernel
theorem dX7_effort_176 : decode cX7_effort 176 = .ok (.goto 4, 3) := by decide +kernel
theorem dX7_effort_179 : decode cX7_effort 179 = .ok (.iconst 3, 1) := by decide +kernel
theorem dX7_effort_180 : decode cX7_effort 180 = .ok (.ireturn, 1) := by decide +kernel
theorem dX7_effort_181 : decode cX7_effort 181 = .ok (.aload_n 0, 1) := by decide +kernel
theorem dX7_effort_182 : decode cX7_effort 182 = .ok (.iload_n 1, 1) := by decide +kernel
theorem dX7_effort_183 : decode cX7_effort 183 = .ok (.iconst 2, 1) := by decide +kernel
theorem dX7_effort_184 : decode cX7_effort 184 = .ok (.invokevirtual 89, 3) := by decide +kernel
theorem dX7_effort_187 : decode cX7_effort 187 = .ok (.iconst 3, 1) := by decide +kernel
theorem dX7_effort_188 : decode cX7_effort 188 = .ok (.if_icmp .le 7, 3) := by decide +kernel
theorem dX7_effort_191 : decode cX7_effort 191 = .ok (.iconst 3, 1) := by decide +kernel
theorem dX7_effort_192 : decode cX7_effort 192 = .ok (.goto 9, 3) := by decide +kernel
theorem dX7_effort_195 : decode cX7_effort 195 = .ok (.aload_n 0, 1) := by decide +kernel
theorem dX7_effort_196 : decode cX7_effort 196 = .ok (.iload_n 1, 1) := by decide +kernel
theorem dX7_effort_197 : decode cX7_effort 197 = .ok (.iconst 2, 1) := by decide +kernel
theorem dX7_effort_198 : decode cX7_effort 198 = .ok (.invokevirtual 89, 3) := by decide +kernel
theorem dX7_effort_201 : decode cX7_effort 201 = .ok (.ireturn, 1) := by decide +kernel
theorem dX7_effort_202 : decode cX7_effort 202 = .ok (.iconst 2, 1) := by decide +kernel
theorem dX7_effort_203 : decode cX7_effort 203 = .ok (.ireturn, 1) := by decide +kernel
set_option maxHeartbeats 4000000 in
set_option maxRecDepth 100000 in
theorem c_X7_effort (l : Launch) (D : va_G) (cy : Nat → ClassId) (ad adK adV : Nat → Nat) (M : Mm) (o0 : Nat) (a1 : Int32) (a2 : Int32) (res : Mm × Int32) (h : f_X7_effort M o0 a1 a2 = some res) : Met l yX7_effort (wU yX7_effort cX7_effort 6 (some .int)) rmX7_effort (va_Pc [.ref (ad o0), .int a1, .int a2] (Pre D cy shM ad nM adK adV M)) (va_Qi (fun r (M2 : Mm) => r = res.2 ∧ M2 = res.1) (Pre D cy shM ad nM adK adV) (Aw ad nM)) 0 0 (Aw ad nM) := by
  refine Met.ofW (cc := cX7_effort) (maxL := 6) (ret := (some .int)) (by decide) rfl ?_
  intro p e s m args below meth c s₁ B hml hv
  obtain ⟨hargs, hPre⟩ := hv
  have hx := B.exec
  have hb := B.bytes
  have hr := B.returns
  have hts := atoms_spec (ws := wU yX7_effort cX7_effort 6 (some .int)) B.pre
  have hq : ∀ w ∈ gW, w.before args s = true := fun w hw => hts w (List.mem_cons_of_mem _ hw)
  have hcm : ∀ w ∈ gW, w ∈ wU yX7_effort cX7_effort 6 (some .int) := fun w hw => List.mem_cons_of_mem _ hw
  have hown : s.vm.findClass RX7 = some m.cls := findClass_of_methodNamed B.named
  have hlocks := B.notSynchronized
  have hF : CallFix p m c cX7_effort 6 s args (wU yX7_effort cX7_effort 6 (some .int)) RX7 := ⟨hx, hb, hml, hown, hts⟩
  have hK := hPre.2.1
  have hZ := hPre.2.2.2
  have hw : Wd D cy shM ad nM (Aw ad nM) s.heap M s.heap [] := ⟨hPre.1, hPre.2.2.1, va_S.rf⟩
  have iw7 : ∀ w ∈ u_ws RX7 TX7 30, w ∈ wU yX7_effort cX7_effort 6 (some .int) := fun w hw => List.mem_cons_of_mem _ (iX7 w hw)
  rw [show entryFrame m args 6 = entryFrame m ([.ref (ad o0), .int a1, .int a2] : List Value).toArray 6 from by rw [hargs]]
  have hl := lv_entry ([.ref (ad o0), .int a1, .int a2]) (n := 6) (Nat.le_of_ble_eq_true rfl)
  rw [lg_entry_eq]
  generalize (lg_sl ([.ref (ad o0), .int a1, .int a2]) ++ List.replicate (6 - (lg_sl ([.ref (ad o0), .int a1, .int a2])).length) Slot.unset).toArray = ls at hl ⊢
  have hl : lv_has ls 6 [(0, .ref (ad o0)), (1, .int a1), (2, .int a2)] := hl
  have hb114 : ∀ (M : Mm) (x0 : Nat) (x3 : Int32) (x4 : Int32) (t0 : Int32), f_X7_effort_b114 M x0 x3 x4 t0 = some res → ∀ (H : Heap) (locs : List Loc) (ls : Array Slot), Wd D cy shM ad nM (Aw ad nM) s.heap M H locs → lv_has ls 6 [(0, .ref (ad x0)), (3, .int x3), (4, .int x4)] → W p l e (headSpec (wU yX7_effort cX7_effort 6 (some .int)) rmX7_effort).room s m args below meth c H locs 0 0 (QI D cy shM ad nM adK adV below args s res) (F0 m 114 ls [.int t0]) := by
    intro M x0 x3 x4 t0 h H locs ls hw hl
    unfold f_X7_effort_b114 at h
    refine lv_istore (lv' := [(5, .int t0), (0, .ref (ad x0)), (3, .int x3), (4, .int x4)]) hx hb dX7_effort_114 hl (by decide) rfl (fun ls hl => ?_)
    refine lv_iload_n hx hb dX7_effort_116 rfl (lv_at hl 2 rfl) ?_
    refine lv_if_eq (tgt := 124) hx hb dX7_effort_117 (by decide) (fun c1 => ?_) (fun c1 => ?_)
    · replace h := if_some_t c1 h
      refine lv_aload_n hx hb dX7_effort_124 rfl (lv_at hl 1 rfl) ?_
      refine lv_iload hx hb dX7_effort_125 (lv_at hl 0 rfl) ?_
      replace h := gd_some h
      obtain ⟨g3, h⟩ := h
      replace h := bd_some h
      obtain ⟨r2, er2, h⟩ := h
      refine r_callVi (As := [.int t0]) (rest := []) hF (c_X7_isBarred l D cy ad adK adV M x0 t0 r2 er2) (gW_goodV hcm qw1016 qw1013 qw1015 qw24 qw68) hdX7_isBarred rfl ⟨Nat.le_of_ble_eq_true rfl, Nat.le_of_ble_eq_true rfl⟩ rfl rfl hZ hK hw g3 (by decide) rfl rfl hl.1 rfl (Nat.le_of_ble_eq_true rfl) ⟨Nat.zero_le _, Nat.zero_le _⟩ dX7_effort_127 (fun H locs hw => ?_)
      refine lv_if_eq (tgt := 137) hx hb dX7_effort_130 (by decide) (fun c4 => ?_) (fun c4 => ?_)
      · replace h := if_some_t c4 h
        refine lv_iload hx hb dX7_effort_137 (lv_at hl 3 rfl) ?_
        exact r_iret hx hb hr rfl hlocks hZ hK hw h dX7_effort_139
      · replace h := if_some_f c4 h
        refine lv_iconst (v := (3 : Int32)) hx hb dX7_effort_133 (by decide) ?_
        refine lv_goto (tgt := 139) hx hb dX7_effort_134 (by decide) ?_
        exact r_iret hx hb hr rfl hlocks hZ hK hw h dX7_effort_139
    · replace h := if_some_f c1 h
      refine lv_iconst (v := (0 : Int32)) hx hb dX7_effort_120 (by decide) ?_
      refine lv_goto (tgt := 139) hx hb dX7_effort_121 (by decide) ?_
      exact r_iret hx hb hr rfl hlocks hZ hK hw h dX7_effort_139
  have hb36 : ∀ (M : Mm) (x0 : Nat) (x1 : Int32) (x2 : Int32) (x3 : Int32) (t0 : Int32), f_X7_effort_b36 M x0 x1 x2 x3 t0 = some res → ∀ (H : Heap) (locs : List Loc) (ls : Array Slot), Wd D cy shM ad nM (Aw ad nM) s.heap M H locs → lv_has ls 6 [(0, .ref (ad x0)), (1, .int x1), (2, .int x2), (3, .int x3)] → W p l e (headSpec (wU yX7_effort cX7_effort 6 (some .int)) rmX7_effort).room s m args below meth c H locs 0 0 (QI D cy shM ad nM adK adV below args s res) (F0 m 36 ls [.int t0]) := by
    intro M x0 x1 x2 x3 t0 h H locs ls hw hl
    unfold f_X7_effort_b36 at h
    refine lv_istore (lv' := [(4, .int t0), (0, .ref (ad x0)), (1, .int x1), (2, .int x2), (3, .int x3)]) hx hb dX7_effort_36 hl (by decide) rfl (fun ls hl => ?_)
    refine lv_aload_n hx hb dX7_effort_38 rfl (lv_at hl 1 rfl) ?_
    refine lv_iload_n hx hb dX7_effort_39 rfl (lv_at hl 2 rfl) ?_
    refine lv_iconst (v := (0 : Int32)) hx hb dX7_effort_40 (by decide) ?_
    replace h := gd_some h
    obtain ⟨g6, h⟩ := h
    replace h := bd_some h
    obtain ⟨r5, er5, h⟩ := h
    refine r_callVi (As := [.int x1, .int (0 : Int32)]) (rest := []) hF (c_X7_its l D cy ad adK adV M x0 x1 (0 : Int32) r5 er5) (gW_goodV hcm qw1032 qw1029 qw1031 qw28 qw68) hdX7_its rfl ⟨Nat.le_of_ble_eq_true rfl, Nat.le_of_ble_eq_true rfl⟩ rfl rfl hZ hK hw g6 (by decide) rfl rfl hl.1 rfl (Nat.le_of_ble_eq_true rfl) ⟨Nat.zero_le _, Nat.zero_le _⟩ dX7_effort_41 (fun H locs hw => ?_)
    by_cases s7 : r5.2 = 1
    · replace h := if_some_t s7 h
      refine lv_tableIn (off := 40) (tgt := 84) hx hb dX7_effort_44 (by rw [s7]; decide) (by rw [s7]; decide) (by rw [s7]; decide) (by decide) ?_
      refine lv_iconst (v := (3 : Int32)) hx hb dX7_effort_84 (by decide) ?_
      exact r_iret hx hb hr rfl hlocks hZ hK hw h dX7_effort_85
    replace h := if_some_f s7 h
    by_cases s8 : r5.2 = 2
    · replace h := if_some_t s8 h
      refine lv_tableIn (off := 42) (tgt := 86) hx hb dX7_effort_44 (by rw [s8]; decide) (by rw [s8]; decide) (by rw [s8]; decide) (by decide) ?_
      refine lv_iload hx hb dX7_effort_86 (lv_at hl 0 rfl) ?_
      exact r_iret hx hb hr rfl hlocks hZ hK hw h dX7_effort_88
    replace h := if_some_f s8 h
    by_cases s9 : r5.2 = 3
    · replace h := if_some_t s9 h
      refine lv_tableIn (off := 45) (tgt := 89) hx hb dX7_effort_44 (by rw [s9]; decide) (by rw [s9]; decide) (by rw [s9]; decide) (by decide) ?_
      refine lv_aload_n hx hb dX7_effort_89 rfl (lv_at hl 1 rfl) ?_
      refine lv_iload_n hx hb dX7_effort_90 rfl (lv_at hl 3 rfl) ?_
      refine lv_iconst (v := (0 : Int32)) hx hb dX7_effort_91 (by decide) ?_
      replace h := bd_some h
      obtain ⟨r10, er10, h⟩ := h
      refine r_callVi (As := [.int x2, .int (0 : Int32)]) (rest := []) hF (c_X7_of l D cy ad adK adV r5.1 x0 x2 (0 : Int32) r10 er10) (gW_goodV hcm qw1012 qw1009 qw1011 qw23 qw68) hdX7_of rfl ⟨Nat.le_of_ble_eq_true rfl, Nat.le_of_ble_eq_true rfl⟩ rfl rfl hZ hK hw g6 (by decide) rfl rfl hl.1 rfl (Nat.le_of_ble_eq_true rfl) ⟨Nat.zero_le _, Nat.zero_le _⟩ dX7_effort_92 (fun H locs hw => ?_)
      refine lv_iload_n hx hb dX7_effort_95 rfl (lv_at hl 2 rfl) ?_
      refine lv_icmp_ne (tgt := 108) hx hb dX7_effort_96 (by decide) (fun c11 => ?_) (fun c11 => ?_)
      · replace h := if_some_f c11 h
        refine lv_aload_n hx hb dX7_effort_108 rfl (lv_at hl 1 rfl) ?_
        refine lv_iload_n hx hb dX7_effort_109 rfl (lv_at hl 3 rfl) ?_
        refine lv_iconst (v := (0 : Int32)) hx hb dX7_effort_110 (by decide) ?_
        replace h := bd_some h
        obtain ⟨r12, er12, h⟩ := h
        refine r_callVi (As := [.int x2, .int (0 : Int32)]) (rest := []) hF (c_X7_of l D cy ad adK adV r10.1 x0 x2 (0 : Int32) r12 er12) (gW_goodV hcm qw1012 qw1009 qw1011 qw23 qw68) hdX7_of rfl ⟨Nat.le_of_ble_eq_true rfl, Nat.le_of_ble_eq_true rfl⟩ rfl rfl hZ hK hw g6 (by decide) rfl rfl hl.1 rfl (Nat.le_of_ble_eq_true rfl) ⟨Nat.zero_le _, Nat.zero_le _⟩ dX7_effort_111 (fun H locs hw => ?_)
        exact hb114 _ _ _ _ _ h _ _ _ hw (lv_sub hl [1, 4, 0] rfl)
      · replace h := if_some_t c11 h
        refine lv_aload_n hx hb dX7_effort_99 rfl (lv_at hl 1 rfl) ?_
        refine lv_iload_n hx hb dX7_effort_100 rfl (lv_at hl 3 rfl) ?_
        refine lv_iconst (v := (1 : Int32)) hx hb dX7_effort_101 (by decide) ?_
        replace h := bd_some h
        obtain ⟨r13, er13, h⟩ := h
        refine r_callVi (As := [.int x2, .int (1 : Int32)]) (rest := []) hF (c_X7_of l D cy ad adK adV r10.1 x0 x2 (1 : Int32) r13 er13) (gW_goodV hcm qw1012 qw1009 qw1011 qw23 qw68) hdX7_of rfl ⟨Nat.le_of_ble_eq_true rfl, Nat.le_of_ble_eq_true rfl⟩ rfl rfl hZ hK hw g6 (by decide) rfl rfl hl.1 rfl (Nat.le_of_ble_eq_true rfl) ⟨Nat.zero_le _, Nat.zero_le _⟩ dX7_effort_102 (fun H locs hw => ?_)
        refine lv_goto (tgt := 114) hx hb dX7_effort_105 (by decide) ?_
        exact hb114 _ _ _ _ _ h _ _ _ hw (lv_sub hl [1, 4, 0] rfl)
    replace h := if_some_f s9 h
    by_cases s14 : r5.2 = 4
    · replace h := if_some_t s14 h
      refine lv_tableIn (off := 96) (tgt := 140) hx hb dX7_effort_44 (by rw [s14]; decide) (by rw [s14]; decide) (by rw [s14]; decide) (by decide) ?_
      refine lv_iload_n hx hb dX7_effort_140 rfl (lv_at hl 4 rfl) ?_
      refine lv_if_ne (tgt := 157) hx hb dX7_effort_141 (by decide) (fun c15 => ?_) (fun c15 => ?_)
      · replace h := if_some_f c15 h
        refine lv_iload hx hb dX7_effort_157 (lv_at hl 0 rfl) ?_
        exact r_iret hx hb hr rfl hlocks hZ hK hw h dX7_effort_159
      · replace h := if_some_t c15 h
        refine lv_aload_n hx hb dX7_effort_144 rfl (lv_at hl 1 rfl) ?_
        refine lv_iload_n hx hb dX7_effort_145 rfl (lv_at hl 2 rfl) ?_
        refine lv_iload_n hx hb dX7_effort_146 rfl (lv_at hl 3 rfl) ?_
        replace h := bd_some h
        obtain ⟨r16, er16, h⟩ := h
        refine r_callVi (As := [.int x1, .int x2]) (rest := []) hF (c_X7_hasGreater l D cy ad adK adV r5.1 x0 x1 x2 r16 er16) (gW_goodV hcm qw1148 qw1145 qw1147 qw44 qw68) hdX7_hasGreater rfl ⟨Nat.le_of_ble_eq_true rfl, Nat.le_of_ble_eq_true rfl⟩ rfl rfl hZ hK hw g6 (by decide) rfl rfl hl.1 rfl (Nat.le_of_ble_eq_true rfl) ⟨Nat.zero_le _, Nat.zero_le _⟩ dX7_effort_147 (fun H locs hw => ?_)
        refine lv_if_eq (tgt := 157) hx hb dX7_effort_150 (by decide) (fun c17 => ?_) (fun c17 => ?_)
        · replace h := if_some_t c17 h
          refine lv_iload hx hb dX7_effort_157 (lv_at hl 0 rfl) ?_
          exact r_iret hx hb hr rfl hlocks hZ hK hw h dX7_effort_159
        · replace h := if_some_f c17 h
          refine lv_iconst (v := (0 : Int32)) hx hb dX7_effort_153 (by decide) ?_
          refine lv_goto (tgt := 159) hx hb dX7_effort_154 (by decide) ?_
          exact r_iret hx hb hr rfl hlocks hZ hK hw h dX7_effort_159
    replace h := if_some_f s14 h
    by_cases s18 : r5.2 = 5
    · replace h := if_some_t s18 h
      refine lv_tableIn (off := 116) (tgt := 160) hx hb dX7_effort_44 (by rw [s18]; decide) (by rw [s18]; decide) (by rw [s18]; decide) (by decide) ?_
      refine lv_aload_n hx hb dX7_effort_160 rfl (lv_at hl 1 rfl) ?_
      refine lv_iload_n hx hb dX7_effort_161 rfl (lv_at hl 3 rfl) ?_
      refine lv_iconst (v := (2 : Int32)) hx hb dX7_effort_162 (by decide) ?_
      replace h := bd_some h
      obtain ⟨r19, er19, h⟩ := h
      refine r_callVi (As := [.int x2, .int (2 : Int32)]) (rest := []) hF (c_X7_of l D cy ad adK adV r5.1 x0 x2 (2 : Int32) r19 er19) (gW_goodV hcm qw1012 qw1009 qw1011 qw23 qw68) hdX7_of rfl ⟨Nat.le_of_ble_eq_true rfl, Nat.le_of_ble_eq_true rfl⟩ rfl rfl hZ hK hw g6 (by decide) rfl rfl hl.1 rfl (Nat.le_of_ble_eq_true rfl) ⟨Nat.zero_le _, Nat.zero_le _⟩ dX7_effort_163 (fun H locs hw => ?_)
      refine lv_aload_n hx hb dX7_effort_166 rfl (lv_at hl 1 rfl) ?_
      refine lv_iload_n hx hb dX7_effort_167 rfl (lv_at hl 2 rfl) ?_
      refine lv_iconst (v := (2 : Int32)) hx hb dX7_effort_168 (by decide) ?_
      replace h := bd_some h
      obtain ⟨r20, er20, h⟩ := h
      refine r_callVi (As := [.int x1, .int (2 : Int32)]) (rest := [.int r19.2]) hF (c_X7_its l D cy ad adK adV r19.1 x0 x1 (2 : Int32) r20 er20) (gW_goodV hcm qw1032 qw1029 qw1031 qw28 qw68) hdX7_its rfl ⟨Nat.le_of_ble_eq_true rfl, Nat.le_of_ble_eq_true rfl⟩ rfl rfl hZ hK hw g6 (by decide) rfl rfl hl.1 rfl (Nat.le_of_ble_eq_true rfl) ⟨Nat.zero_le _, Nat.zero_le _⟩ dX7_effort_169 (fun H locs hw => ?_)
      refine lv_icmp_ge (tgt := 179) hx hb dX7_effort_172 (by decide) (fun c21 => ?_) (fun c21 => ?_)
      · replace h := if_some_t c21 h
        refine lv_iconst (v := (3 : Int32)) hx hb dX7_effort_179 (by decide) ?_
        exact r_iret hx hb hr rfl hlocks hZ hK hw h dX7_effort_180
      · replace h := if_some_f c21 h
        refine lv_iconst (v := (0 : Int32)) hx hb dX7_effort_175 (by decide) ?_
        refine lv_goto (tgt := 180) hx hb dX7_effort_176 (by decide) ?_
        exact r_iret hx hb hr rfl hlocks hZ hK hw h dX7_effort_180
    replace h := if_some_f s18 h
    by_cases s22 : r5.2 = 6
    · replace h := if_some_t s22 h
      refine lv_tableIn (off := 137) (tgt := 181) hx hb dX7_effort_44 (by rw [s22]; decide) (by rw [s22]; decide) (by rw [s22]; decide) (by decide) ?_
      refine lv_aload_n hx hb dX7_effort_181 rfl (lv_at hl 1 rfl) ?_
      refine lv_iload_n hx hb dX7_effort_182 rfl (lv_at hl 2 rfl) ?_
      refine lv_iconst (v := (2 : Int32)) hx hb dX7_effort_183 (by decide) ?_
      replace h := bd_some h
      obtain ⟨r23, er23, h⟩ := h
      refine r_callVi (As := [.int x1, .int (2 : Int32)]) (rest := []) hF (c_X7_its l D cy ad adK adV r5.1 x0 x1 (2 : Int32) r23 er23) (gW_goodV hcm qw1032 qw1029 qw1031 qw28 qw68) hdX7_its rfl ⟨Nat.le_of_ble_eq_true rfl, Nat.le_of_ble_eq_true rfl⟩ rfl rfl hZ hK hw g6 (by decide) rfl rfl hl.1 rfl (Nat.le_of_ble_eq_true rfl) ⟨Nat.zero_le _, Nat.zero_le _⟩ dX7_effort_184 (fun H locs hw => ?_)
      refine lv_iconst (v := (3 : Int32)) hx hb dX7_effort_187 (by decide) ?_
      refine lv_icmp_le (tgt := 195) hx hb dX7_effort_188 (by decide) (fun c24 => ?_) (fun c24 => ?_)
      · replace h := if_some_t c24 h
        refine lv_aload_n hx hb dX7_effort_195 rfl (lv_at hl 1 rfl) ?_
        refine lv_iload_n hx hb dX7_effort_196 rfl (lv_at hl 2 rfl) ?_
        refine lv_iconst (v := (2 : Int32)) hx hb dX7_effort_197 (by decide) ?_
        replace h := bd_some h
        obtain ⟨r25, er25, h⟩ := h
        refine r_callVi (As := [.int x1, .int (2 : Int32)]) (rest := []) hF (c_X7_its l D cy ad adK adV r23.1 x0 x1 (2 : Int32) r25 er25) (gW_goodV hcm qw1032 qw1029 qw1031 qw28 qw68) hdX7_its rfl ⟨Nat.le_of_ble_eq_true rfl, Nat.le_of_ble_eq_true rfl⟩ rfl rfl hZ hK hw g6 (by decide) rfl rfl hl.1 rfl (Nat.le_of_ble_eq_true rfl) ⟨Nat.zero_le _, Nat.zero_le _⟩ dX7_effort_198 (fun H locs hw => ?_)
        exact r_iret hx hb hr rfl hlocks hZ hK hw h dX7_effort_201
      · replace h := if_some_f c24 h
        refine lv_iconst (v := (3 : Int32)) hx hb dX7_effort_191 (by decide) ?_
        refine lv_goto (tgt := 201) hx hb dX7_effort_192 (by decide) ?_
        exact r_iret hx hb hr rfl hlocks hZ hK hw h dX7_effort_201
    replace h := if_some_f s22 h
    have hout26 : r5.2.toInt < 1 ∨ 6 < r5.2.toInt := by
      refine tsw_out (fun cz h1 h2 => ?_)
      rcases (show cz = 1 ∨ cz = 2 ∨ cz = 3 ∨ cz = 4 ∨ cz = 5 ∨ cz = 6 by omega) with rfl | rfl | rfl | rfl | rfl | rfl
      · exact fun e9 => s7 (e9.trans (by decide))
      · exact fun e9 => s8 (e9.trans (by decide))
      · exact fun e9 => s9 (e9.trans (by decide))
      · exact fun e9 => s14 (e9.trans (by decide))
      · exact fun e9 => s18 (e9.trans (by decide))
      · exact fun e9 => s22 (e9.trans (by decide))
    refine lv_tableOut (tgt := 202) hx hb dX7_effort_44 hout26 (by decide) ?_
    refine lv_iconst (v := (2 : Int32)) hx hb dX7_effort_202 (by decide) ?_
    exact r_iret hx hb hr rfl hlocks hZ hK hw h dX7_effort_203
  have hb21 : ∀ (M : Mm) (x0 : Nat) (x1 : Int32) (x2 : Int32), f_X7_effort_b21 M x0 x1 x2 = some res → ∀ (H : Heap) (locs : List Loc) (ls : Array Slot), Wd D cy shM ad nM (Aw ad nM) s.heap M H locs → lv_has ls 6 [(0, .ref (ad x0)), (1, .int x1), (2, .int x2)] → W p l e (headSpec (wU yX7_effort cX7_effort 6 (some .int)) rmX7_effort).room s m args below meth c H locs 0 0 (QI D cy shM ad nM adK adV below args s res) (F0 m 21 ls []) := by
    intro M x0 x1 x2 h H locs ls hw hl
    unfold f_X7_effort_b21 at h
    refine lv_aload_n hx hb dX7_effort_21 rfl (lv_at hl 0 rfl) ?_
    refine lv_iload_n hx hb dX7_effort_22 rfl (lv_at hl 1 rfl) ?_
    replace h := gd_some h
    obtain ⟨g28, h⟩ := h
    replace h := bd_some h
    obtain ⟨r27, er27, h⟩ := h
    refine r_callVi (As := [.int x1]) (rest := []) hF (c_X7_isBarred l D cy ad adK adV M x0 x1 r27 er27) (gW_goodV hcm qw1016 qw1013 qw1015 qw24 qw68) hdX7_isBarred rfl ⟨Nat.le_of_ble_eq_true rfl, Nat.le_of_ble_eq_true rfl⟩ rfl rfl hZ hK hw g28 (by decide) rfl rfl hl.1 rfl (Nat.le_of_ble_eq_true rfl) ⟨Nat.zero_le _, Nat.zero_le _⟩ dX7_effort_23 (fun H locs hw => ?_)
    refine lv_istore_n (lv' := [(3, .int r27.2), (0, .ref (ad x0)), (1, .int x1), (2, .int x2)]) hx hb dX7_effort_26 rfl hl (by decide) rfl (fun ls hl => ?_)
    refine lv_iload_n hx hb dX7_effort_27 rfl (lv_at hl 0 rfl) ?_
    refine lv_if_eq (tgt := 35) hx hb dX7_effort_28 (by decide) (fun c29 => ?_) (fun c29 => ?_)
    · replace h := if_some_t c29 h
      refine lv_iconst (v := (2 : Int32)) hx hb dX7_effort_35 (by decide) ?_
      exact hb36 _ _ _ _ _ _ h _ _ _ hw (lv_sub hl [1, 2, 3, 0] rfl)
    · replace h := if_some_f c29 h
      refine lv_iconst (v := (1 : Int32)) hx hb dX7_effort_31 (by decide) ?_
      refine lv_goto (tgt := 36) hx hb dX7_effort_32 (by decide) ?_
      exact hb36 _ _ _ _ _ _ h _ _ _ hw (lv_sub hl [1, 2, 3, 0] rfl)
  unfold f_X7_effort at h
  refine lv_aload_n hx hb dX7_effort_0 rfl (lv_at hl 0 rfl) ?_
  replace h := gd_some h
  obtain ⟨g30, h⟩ := h
  refine r_getI hx hb hts iw7 hown hK hw o0 5 g30 (by decide) rfl (by decide) rfl (hq _ qw895) (fun _ h9 => h9) dX7_effort_1 ?_
  refine lv_iload_n hx hb dX7_effort_4 rfl (lv_at hl 2 rfl) ?_
  refine lv_icmp_ne (tgt := 21) hx hb dX7_effort_5 (by decide) (fun c31 => ?_) (fun c31 => ?_)
  · replace h := if_some_f c31 h
    exact hb21 _ _ _ _ h _ _ _ hw (lv_sub hl [0, 1, 2] rfl)
  · replace h := if_some_t c31 h
    refine lv_aload_n hx hb dX7_effort_8 rfl (lv_at hl 0 rfl) ?_
    refine r_getI hx hb hts iw7 hown hK hw o0 6 g30 (by decide) rfl (by decide) rfl (hq _ qw896) (fun _ h9 => h9) dX7_effort_9 ?_
    refine lv_iload_n hx hb dX7_effort_12 rfl (lv_at hl 1 rfl) ?_
    refine lv_icmp_ne (tgt := 21) hx hb dX7_effort_13 (by decide) (fun c32 => ?_) (fun c32 => ?_)
    · replace h := if_some_f c32 h
      exact hb21 _ _ _ _ h _ _ _ hw (lv_sub hl [0, 1, 2] rfl)
    · replace h := if_some_t c32 h
      refine lv_aload_n hx hb dX7_effort_16 rfl (lv_at hl 0 rfl) ?_
      refine r_getI hx hb hts iw7 hown hK hw o0 7 g30 (by decide) rfl (by decide) rfl (hq _ qw897) (fun _ h9 => h9) dX7_effort_17 ?_
      exact r_iret hx hb hr rfl hlocks hZ hK hw h dX7_effort_20
theorem dX7_force_0 : decode cX7_force 0 = .ok (.aload_n 0, 1) := by decide +kernel
theorem dX7_force_1 : decode cX7_force 1 = .ok (.iload_n 1, 1) := by decide +kernel
theorem dX7_force_2 : decode cX7_force 2 = .ok (.iconst 1, 1) := by decide +kernel
theorem dX7_force_3 : decode cX7_force 3 = .ok (.invokevirtual 89, 3) := by decide +kernel
theorem dX7_force_6 : decode cX7_force 6 = .ok (.aload_n 0, 1) := by decide +kernel
theorem dX7_force_7 : decode cX7_force 7 = .ok (.iload_n 1, 1) := by decide +kernel
theorem dX7_force_8 : decode cX7_force 8 = .ok (.invokevirtual 95, 3) := by decide +kernel
theorem dX7_force_11 : decode cX7_force 11 = .ok (.ifCond .eq 7, 3) := by decide +kernel
theorem dX7_force_14 : decode cX7_force 14 = .ok (.iconst 1, 1) := by decide +kernel
theorem dX7_force_15 : decode cX7_force 15 = .ok (.goto 4, 3) := by decide +kernel
theorem dX7_force_18 : decode cX7_force 18 = .ok (.iconst 0, 1) := by decide +kernel
theorem dX7_force_19 : decode cX7_force 19 = .ok (.isub, 1) := by decide +kernel
theorem dX7_force_20 : decode cX7_force 20 = .ok (.istore_n 3, 1) := by decide +kernel
theorem dX7_force_21 : decode cX7_force 21 = .ok (.iload_n 3, 1) := by decide +kernel
theorem dX7_force_22 : decode cX7_force 22 = .ok (.iconst 1, 1) := by decide +kernel
theorem dX7_force_23 : decode cX7_force 23 = .ok (.if_icmp .ge 7, 3) := by decide +kernel
theorem dX7_force_26 : decode cX7_force 26 = .ok (.iconst 1, 1) := by decide +kernel
theorem dX7_force_27 : decode cX7_force 27 = .ok (.goto 4, 3) := by decide +kernel
theorem dX7_force_30 : decode cX7_force 30 = .ok (.iload_n 3, 1) := by decide +kernel
theorem dX7_force_31 : decode cX7_force 31 = .ok (.iload_n 2, 1) := by decide +kernel
theorem dX7_force_32 : decode cX7_force 32 = .ok (.imul, 1) := by decide +kernel
theorem dX7_force_33 : decode cX7_force 33 = .ok (.ireturn, 1) := by decide +kernel
set_option maxHeartbeats 4000000 in
set_option maxRecDepth 100000 in
theorem c_X7_force (l : Launch) (D : va_G) (cy : Nat → ClassId) (ad adK adV : Nat → Nat) (M : Mm) (o0 : Nat) (a1 : Int32) (a2 : Int32) (res : Mm × Int32) (h : f_X7_force M o0 a1 a2 = some res) : Met l yX7_force (wU yX7_force cX7_force 4 (some .int)) rmX7_force (va_Pc [.ref (ad o0), .int a1, .int a2] (Pre D cy shM ad nM adK adV M)) (va_Qi (fun r (M2 : Mm) => r = res.2 ∧ M2 = res.1) (Pre D cy shM ad nM adK adV) (Aw ad nM)) 0 0 (Aw ad nM) := by
  refine Met.ofW (cc := cX7_force) (maxL := 4) (ret := (some .int)) (by decide) rfl ?_
  intro p e s m args below meth c s₁ B hml hv
  obtain ⟨hargs, hPre⟩ := hv
  have hx := B.exec
  have hb := B.bytes
  have hr := B.returns
  have hts := atoms_spec (ws := wU yX7_force cX7_force 4 (some .int)) B.pre
  have hq : ∀ w ∈ gW, w.before args s = true := fun w hw => hts w (List.mem_cons_of_mem _ hw)
  have hcm : ∀ w ∈ gW, w ∈ wU yX7_force cX7_force 4 (some .int) := fun w hw => List.mem_cons_of_mem _ hw
  have hown : s.vm.findClass RX7 = some m.cls := findClass_of_methodNamed B.named
  have hlocks := B.notSynchronized
  have hF : CallFix p m c cX7_force 4 s args (wU yX7_force cX7_force 4 (some .int)) RX7 := ⟨hx, hb, hml, hown, hts⟩
  have hK := hPre.2.1
  have hZ := hPre.2.2.2
  have hw : Wd D cy shM ad nM (Aw ad nM) s.heap M s.heap [] := ⟨hPre.1, hPre.2.2.1, va_S.rf⟩
  rw [show entryFrame m args 4 = entryFrame m ([.ref (ad o0), .int a1, .int a2] : List Value).toArray 4 from by rw [hargs]]
  have hl := lv_entry ([.ref (ad o0), .int a1, .int a2]) (n := 4) (Nat.le_of_ble_eq_true rfl)
  rw [lg_entry_eq]
  generalize (lg_sl ([.ref (ad o0), .int a1, .int a2]) ++ List.replicate (4 - (lg_sl ([.ref (ad o0), .int a1, .int a2])).length) Slot.unset).toArray = ls at hl ⊢
  have hl : lv_has ls 4 [(0, .ref (ad o0)), (1, .int a1), (2, .int a2)] := hl
  have hb31 : ∀ (M : Mm) (x2 : Int32) (t0 : Int32), f_X7_force_b31 M x2 t0 = some res → ∀ (H : Heap) (locs : List Loc) (ls : Array Slot), Wd D cy shM ad nM (Aw ad nM) s.heap M H locs → lv_has ls 4 [(2, .int x2)] → W p l e (headSpec (wU yX7_force cX7_force 4 (some .int)) rmX7_force).room s m args below meth c H locs 0 0 (QI D cy shM ad nM adK adV below args s res) (F0 m 31 ls [.int t0]) := by
    intro M x2 t0 h H locs ls hw hl
    unfold f_X7_force_b31 at h
    refine lv_iload_n hx hb dX7_force_31 rfl (lv_at hl 0 rfl) ?_
    refine lv_imul hx hb dX7_force_32 ?_
    exact r_iret hx hb hr rfl hlocks hZ hK hw h dX7_force_33
  have hb19 : ∀ (M : Mm) (x2 : Int32) (t0 : Int32) (t1 : Int32), f_X7_force_b19 M x2 t0 t1 = some res → ∀ (H : Heap) (locs : List Loc) (ls : Array Slot), Wd D cy shM ad nM (Aw ad nM) s.heap M H locs → lv_has ls 4 [(2, .int x2)] → W p l e (headSpec (wU yX7_force cX7_force 4 (some .int)) rmX7_force).room s m args below meth c H locs 0 0 (QI D cy shM ad nM adK adV below args s res) (F0 m 19 ls [.int t1, .int t0]) := by
    intro M x2 t0 t1 h H locs ls hw hl
    unfold f_X7_force_b19 at h
    refine lv_isub hx hb dX7_force_19 ?_
    refine lv_istore_n (lv' := [(3, .int (t0 - t1)), (2, .int x2)]) hx hb dX7_force_20 rfl hl (by decide) rfl (fun ls hl => ?_)
    refine lv_iload_n hx hb dX7_force_21 rfl (lv_at hl 0 rfl) ?_
    refine lv_iconst (v := (1 : Int32)) hx hb dX7_force_22 (by decide) ?_
    refine lv_icmp_ge (tgt := 30) hx hb dX7_force_23 (by decide) (fun c1 => ?_) (fun c1 => ?_)
    · replace h := if_some_t c1 h
      refine lv_iload_n hx hb dX7_force_30 rfl (lv_at hl 0 rfl) ?_
      exact hb31 _ _ _ h _ _ _ hw (lv_sub hl [1] rfl)
    · replace h := if_some_f c1 h
      refine lv_iconst (v := (1 : Int32)) hx hb dX7_force_26 (by decide) ?_
      refine lv_goto (tgt := 31) hx hb dX7_force_27 (by decide) ?_
      exact hb31 _ _ _ h _ _ _ hw (lv_sub hl [1] rfl)
  unfold f_X7_force at h
  refine lv_aload_n hx hb dX7_force_0 rfl (lv_at hl 0 rfl) ?_
  refine lv_iload_n hx hb dX7_force_1 rfl (lv_at hl 1 rfl) ?_
  refine lv_iconst (v := (1 : Int32)) hx hb dX7_force_2 (by decide) ?_
  replace h := gd_some h
  obtain ⟨g3, h⟩ := h
  replace h := bd_some h
  obtain ⟨r2, er2, h⟩ := h
  refine r_callVi (As := [.int a1, .int (1 : Int32)]) (rest := []) hF (c_X7_its l D cy ad adK adV M o0 a1 (1 : Int32) r2 er2) (gW_goodV hcm qw1032 qw1029 qw1031 qw28 qw68) hdX7_its rfl ⟨Nat.le_of_ble_eq_true rfl, Nat.le_of_ble_eq_true rfl⟩ rfl rfl hZ hK hw g3 (by decide) rfl rfl hl.1 rfl (Nat.le_of_ble_eq_true rfl) ⟨Nat.zero_le _, Nat.zero_le _⟩ dX7_force_3 (fun H locs hw => ?_)
  refine lv_aload_n hx hb dX7_force_6 rfl (lv_at hl 0 rfl) ?_
  refine lv_iload_n hx hb dX7_force_7 rfl (lv_at hl 1 rfl) ?_
  replace h := bd_some h
  obtain ⟨r4, er4, h⟩ := h
  refine r_callVi (As := [.int a1]) (rest := [.int r2.2]) hF (c_X7_isTired l D cy ad adK adV r2.1 o0 a1 r4 er4) (gW_goodV hcm qw1024 qw1021 qw1023 qw26 qw68) hdX7_isTired rfl ⟨Nat.le_of_ble_eq_true rfl, Nat.le_of_ble_eq_true rfl⟩ rfl rfl hZ hK hw g3 (by decide) rfl rfl hl.1 rfl (Nat.le_of_ble_eq_true rfl) ⟨Nat.zero_le _, Nat.zero_le _⟩ dX7_force_8 (fun H locs hw => ?_)
  refine lv_if_eq (tgt := 18) hx hb dX7_force_11 (by decide) (fun c5 => ?_) (fun c5 => ?_)
  · replace h := if_some_t c5 h
    refine lv_iconst (v := (0 : Int32)) hx hb dX7_force_18 (by decide) ?_
    exact hb19 _ _ _ _ h _ _ _ hw (lv_sub hl [2] rfl)
  · replace h := if_some_f c5 h
    refine lv_iconst (v := (1 : Int32)) hx hb dX7_force_14 (by decide) ?_
    refine lv_goto (tgt := 19) hx hb dX7_force_15 (by decide) ?_
    exact hb19 _ _ _ _ h _ _ _ hw (lv_sub hl [2] rfl)
theorem dX7_chance_0 : decode cX7_chance 0 = .ok (.aload_n 0, 1) := by decide +kernel
theorem dX7_chance_1 : decode cX7_chance 1 = .ok (.aload_n 0, 1) := by decide +kernel
theorem dX7_chance_2 : decode cX7_chance 2 = .ok (.iload_n 1, 1) := by decide +kernel
theorem dX7_chance_3 : decode cX7_chance 3 = .ok (.iconst 0, 1) := by decide +kernel
theorem dX7_chance_4 : decode cX7_chance 4 = .ok (.invokevirtual 71, 3) := by decide +kernel
theorem dX7_chance_7 : decode cX7_chance 7 = .ok (.iload_n 2, 1) := by decide +kernel
theorem dX7_chance_8 : decode cX7_chance 8 = .ok (.invokevirtual 98, 3) := by decide +kernel
theorem dX7_chance_11 : decode cX7_chance 11 = .ok (.istore 4, 2) := by decide +kernel
theorem dX7_chance_13 : decode cX7_chance 13 = .ok (.aload_n 0, 1) := by decide +kernel
theorem dX7_chance_14 : decode cX7_chance 14 = .ok (.aload_n 0, 1) := by decide +kernel
theorem dX7_chance_15 : decode cX7_chance 15 = .ok (.iload_n 1, 1) := by decide +kernel
theorem dX7_chance_16 : decode cX7_chance 16 = .ok (.iconst 1, 1) := by decide +kernel
theorem dX7_chance_17 : decode cX7_chance 17 = .ok (.invokevirtual 71, 3) := by decide +kernel
theorem dX7_chance_20 : decode cX7_chance 20 = .ok (.iload_n 3, 1) := by decide +kernel
theorem dX7_chance_21 : decode cX7_chance 21 = .ok (.invokevirtual 98, 3) := by decide +kernel
theorem dX7_chance_24 : decode cX7_chance 24 = .ok (.istore 5, 2) := by decide +kernel
theorem dX7_chance_26 : decode cX7_chance 26 = .ok (.iload 4, 2) := by decide +kernel
theorem dX7_chance_28 : decode cX7_chance 28 = .ok (.iload 5, 2) := by decide +kernel
theorem dX7_chance_30 : decode cX7_chance 30 = .ok (.iadd, 1) := by decide +kernel
theorem dX7_chance_31 : decode cX7_chance 31 = .ok (.ifCond .ne 7, 3) := by decide +kernel
theorem dX7_chance_34 : decode cX7_chance 34 = .ok (.iconst 5, 1) := by decide +kernel
theorem dX7_chance_35 : decode cX7_chance 35 = .ok (.goto 14, 3) := by decide +kernel
theorem dX7_chance_38 : decode cX7_chance 38 = .ok (.bipush 10, 2) := by decide +kernel
theorem dX7_chance_40 : decode cX7_chance 40 = .ok (.iload 4, 2) := by decide +kernel
theorem dX7_chance_42 : decode cX7_chance 42 = .ok (.imul, 1) := by decide +kernel
theorem dX7_chance_43 : decode cX7_chance 43 = .ok (.iload 4, 2) := by decide +kernel
theorem dX7_chance_45 : decode cX7_chance 45 = .ok (.iload 5, 2) := by decide +kernel
theorem dX7_chance_47 : decode cX7_chance 47 = .ok (.iadd, 1) := by decide +kernel
theorem dX7_chance_48 : decode cX7_chance 48 = .ok (.idiv, 1) := by decide +kernel
theorem dX7_chance_49 : decode cX7_chance 49 = .ok (.ireturn, 1) := by decide +kernel
set_option maxHeartbeats 4000000 in
set_option maxRecDepth 100000 in
theorem c_X7_chance (l : Launch) (D : va_G) (cy : Nat → ClassId) (ad adK adV : Nat → Nat) (M : Mm) (o0 : Nat) (a1 : Int32) (a2 : Int32) (a3 : Int32) (res : Mm × Int32) (h : f_X7_chance M o0 a1 a2 a3 = some res) : Met l yX7_chance (wU yX7_chance cX7_chance 6 (some .int)) rmX7_chance (va_Pc [.ref (ad o0), .int a1, .int a2, .int a3] (Pre D cy shM ad nM adK adV M)) (va_Qi (fun r (M2 : Mm) => r = res.2 ∧ M2 = res.1) (Pre D cy shM ad nM adK adV) (Aw ad nM)) 0 0 (Aw ad nM) := by
  refine Met.ofW (cc := cX7_chance) (maxL := 6) (ret := (some .int)) (by decide) rfl ?_
  intro p e s m args below meth c s₁ B hml hv
  obtain ⟨hargs, hPre⟩ := hv
  have hx := B.exec
  have hb := B.bytes
  have hr := B.returns
  have hts := atoms_spec (ws := wU yX7_chance cX7_chance 6 (some .int)) B.pre
  have hq : ∀ w ∈ gW, w.before args s = true := fun w hw => hts w (List.mem_cons_of_mem _ hw)
  have hcm : ∀ w ∈ gW, w ∈ wU yX7_chance cX7_chance 6 (some .int) := fun w hw => List.mem_cons_of_mem _ hw
  have hown : s.vm.findClass RX7 = some m.cls := findClass_of_methodNamed B.named
  have hlocks := B.notSynchronized
  have hF : CallFix p m c cX7_chance 6 s args (wU yX7_chance cX7_chance 6 (some .int)) RX7 := ⟨hx, hb, hml, hown, hts⟩
  have hK := hPre.2.1
  have hZ := hPre.2.2.2
  have hw : Wd D cy shM ad nM (Aw ad nM) s.heap M s.heap [] := ⟨hPre.1, hPre.2.2.1, va_S.rf⟩
  rw [show entryFrame m args 6 = entryFrame m ([.ref (ad o0), .int a1, .int a2, .int a3] : List Value).toArray 6 from by rw [hargs]]
  have hl := lv_entry ([.ref (ad o0), .int a1, .int a2, .int a3]) (n := 6) (Nat.le_of_ble_eq_true rfl)
  rw [lg_entry_eq]
  generalize (lg_sl ([.ref (ad o0), .int a1, .int a2, .int a3]) ++ List.replicate (6 - (lg_sl ([.ref (ad o0), .int a1, .int a2, .int a3])).length) Slot.unset).toArray = ls at hl ⊢
  have hl : lv_has ls 6 [(0, .ref (ad o0)), (1, .int a1), (2, .int a2), (3, .int a3)] := hl
  unfold f_X7_chance at h
  refine lv_aload_n hx hb dX7_chance_0 rfl (lv_at hl 0 rfl) ?_
  refine lv_aload_n hx hb dX7_chance_1 rfl (lv_at hl 0 rfl) ?_
  refine lv_iload_n hx hb dX7_chance_2 rfl (lv_at hl 1 rfl) ?_
  refine lv_iconst (v := (0 : Int32)) hx hb dX7_chance_3 (by decide) ?_
  replace h := gd_some h
  obtain ⟨g2, h⟩ := h
  replace h := bd_some h
  obtain ⟨r1, er1, h⟩ := h
  refine r_callVi (As := [.int a1, .int (0 : Int32)]) (rest := [.ref (ad o0)]) hF (c_X7_of l D cy ad adK adV M o0 a1 (0 : Int32) r1 er1) (gW_goodV hcm qw1012 qw1009 qw1011 qw23 qw68) hdX7_of rfl ⟨Nat.le_of_ble_eq_true rfl, Nat.le_of_ble_eq_true rfl⟩ rfl rfl hZ hK hw g2 (by decide) rfl rfl hl.1 rfl (Nat.le_of_ble_eq_true rfl) ⟨Nat.zero_le _, Nat.zero_le _⟩ dX7_chance_4 (fun H locs hw => ?_)
  refine lv_iload_n hx hb dX7_chance_7 rfl (lv_at hl 2 rfl) ?_
  replace h := bd_some h
  obtain ⟨r3, er3, h⟩ := h
  refine r_callVi (As := [.int r1.2, .int a2]) (rest := []) hF (c_X7_force l D cy ad adK adV r1.1 o0 r1.2 a2 r3 er3) (gW_goodV hcm qw1156 qw1153 qw1155 qw46 qw68) hdX7_force rfl ⟨Nat.le_of_ble_eq_true rfl, Nat.le_of_ble_eq_true rfl⟩ rfl rfl hZ hK hw g2 (by decide) rfl rfl hl.1 rfl (Nat.le_of_ble_eq_true rfl) ⟨Nat.zero_le _, Nat.zero_le _⟩ dX7_chance_8 (fun H locs hw => ?_)
  refine lv_istore (lv' := [(4, .int r3.2), (0, .ref (ad o0)), (1, .int a1), (2, .int a2), (3, .int a3)]) hx hb dX7_chance_11 hl (by decide) rfl (fun ls hl => ?_)
  refine lv_aload_n hx hb dX7_chance_13 rfl (lv_at hl 1 rfl) ?_
  refine lv_aload_n hx hb dX7_chance_14 rfl (lv_at hl 1 rfl) ?_
  refine lv_iload_n hx hb dX7_chance_15 rfl (lv_at hl 2 rfl) ?_
  refine lv_iconst (v := (1 : Int32)) hx hb dX7_chance_16 (by decide) ?_
  replace h := bd_some h
  obtain ⟨r4, er4, h⟩ := h
  refine r_callVi (As := [.int a1, .int (1 : Int32)]) (rest := [.ref (ad o0)]) hF (c_X7_of l D cy ad adK adV r3.1 o0 a1 (1 : Int32) r4 er4) (gW_goodV hcm qw1012 qw1009 qw1011 qw23 qw68) hdX7_of rfl ⟨Nat.le_of_ble_eq_true rfl, Nat.le_of_ble_eq_true rfl⟩ rfl rfl hZ hK hw g2 (by decide) rfl rfl hl.1 rfl (Nat.le_of_ble_eq_true rfl) ⟨Nat.zero_le _, Nat.zero_le _⟩ dX7_chance_17 (fun H locs hw => ?_)
  refine lv_iload_n hx hb dX7_chance_20 rfl (lv_at hl 4 rfl) ?_
  replace h := bd_some h
  obtain ⟨r5, er5, h⟩ := h
  refine r_callVi (As := [.int r4.2, .int a3]) (rest := []) hF (c_X7_force l D cy ad adK adV r4.1 o0 r4.2 a3 r5 er5) (gW_goodV hcm qw1156 qw1153 qw1155 qw46 qw68) hdX7_force rfl ⟨Nat.le_of_ble_eq_true rfl, Nat.le_of_ble_eq_true rfl⟩ rfl rfl hZ hK hw g2 (by decide) rfl rfl hl.1 rfl (Nat.le_of_ble_eq_true rfl) ⟨Nat.zero_le _, Nat.zero_le _⟩ dX7_chance_21 (fun H locs hw => ?_)
  refine lv_istore (lv' := [(5, .int r5.2), (4, .int r3.2), (0, .ref (ad o0)), (1, .int a1), (2, .int a2), (3, .int a3)]) hx hb dX7_chance_24 hl (by decide) rfl (fun ls hl => ?_)
  refine lv_iload hx hb dX7_chance_26 (lv_at hl 1 rfl) ?_
  refine lv_iload hx hb dX7_chance_28 (lv_at hl 0 rfl) ?_
  refine lv_iadd hx hb dX7_chance_30 ?_
  refine lv_if_ne (tgt := 38) hx hb dX7_chance_31 (by decide) (fun c6 => ?_) (fun c6 => ?_)
  · replace h := if_some_f c6 h
    refine lv_bipush (v := (10 : Int32)) hx hb dX7_chance_38 (by decide) ?_
    refine lv_iload hx hb dX7_chance_40 (lv_at hl 1 rfl) ?_
    refine lv_imul hx hb dX7_chance_42 ?_
    refine lv_iload hx hb dX7_chance_43 (lv_at hl 1 rfl) ?_
    refine lv_iload hx hb dX7_chance_45 (lv_at hl 0 rfl) ?_
    refine lv_iadd hx hb dX7_chance_47 ?_
    replace h := gd_some h
    obtain ⟨g7, h⟩ := h
    refine lv_idiv hx hb dX7_chance_48 g7 ?_
    exact r_iret hx hb hr rfl hlocks hZ hK hw h dX7_chance_49
  · replace h := if_some_t c6 h
    refine lv_iconst (v := (5 : Int32)) hx hb dX7_chance_34 (by decide) ?_
    refine lv_goto (tgt := 49) hx hb dX7_chance_35 (by decide) ?_
    exact r_iret hx hb hr rfl hlocks hZ hK hw h dX7_chance_49
theorem dX7_givenTo_0 : decode cX7_givenTo 0 = .ok (.aload_n 0, 1) := by decide +kernel
theorem dX7_givenTo_1 : decode cX7_givenTo 1 = .ok (.iload_n 1, 1) := by decide +kernel
theorem dX7_givenTo_2 : decode cX7_givenTo 2 = .ok (.iconst 0, 1) := by decide +kernel
theorem dX7_givenTo_3 : decode cX7_givenTo 3 = .ok (.invokevirtual 71, 3) := by decide +kernel
theorem dX7_givenTo_6 : decode cX7_givenTo 6 = .ok (.iload_n 2, 1) := by decide +kernel
theorem dX7_givenTo_7 : decode cX7_givenTo 7 = .ok (.if_icmp .ne 12, 3) := by decide +kernel
theorem dX7_givenTo_10 : decode cX7_givenTo 10 = .ok (.aload_n 0, 1) := by decide +kernel
theorem dX7_givenTo_11 : decode cX7_givenTo 11 = .ok (.iload_n 1, 1) := by decide +kernel
theorem dX7_givenTo_12 : decode cX7_givenTo 12 = .ok (.iconst 1, 1) := by decide +kernel
theorem dX7_givenTo_13 : decode cX7_givenTo 13 = .ok (.invokevirtual 71, 3) := by decide +kernel
theorem dX7_givenTo_16 : decode cX7_givenTo 16 = .ok (.goto 9, 3) := by decide +kernel
theorem dX7_givenTo_19 : decode cX7_givenTo 19 = .ok (.aload_n 0, 1) := by decide +kernel
theorem dX7_givenTo_20 : decode cX7_givenTo 20 = .ok (.iload_n 1, 1) := by decide +kernel
theorem dX7_givenTo_21 : decode cX7_givenTo 21 = .ok (.iconst 0, 1) := by decide +kernel
theorem dX7_givenTo_22 : decode cX7_givenTo 22 = .ok (.invokevirtual 71, 3) := by decide +kernel
theorem dX7_givenTo_25 : decode cX7_givenTo 25 = .ok (.istore_n 3, 1) := by decide +kernel
theorem dX7_givenTo_26 : decode cX7_givenTo 26 = .ok (.aload_n 0, 1) := by decide +kernel
theorem dX7_givenTo_27 : decode cX7_givenTo 27 = .ok (.iload_n 2, 1) := by decide +kernel
theorem dX7_givenTo_28 : decode cX7_givenTo 28 = .ok (.invokevirtual 85, 3) := by decide +kernel
theorem dX7_givenTo_31 : decode cX7_givenTo 31 = .ok (.ifCond .ne 5, 3) := by decide +kernel
theorem dX7_givenTo_34 : decode cX7_givenTo 34 = .ok (.iload_n 2, 1) := by decide +kernel
theorem dX7_givenTo_35 : decode cX7_givenTo 35 = .ok (.ireturn, 1) := by decide +kernel
theorem dX7_givenTo_36 : decode cX7_givenTo 36 = .ok (.aload_n 0, 1) := by decide +kernel
theorem dX7_givenTo_37 : decode cX7_givenTo 37 = .ok (.iload_n 3, 1) := by decide +kernel
theorem dX7_givenTo_38 : decode cX7_givenTo 38 = .ok (.invokevirtual 85, 3) := by decide +kernel
theorem dX7_givenTo_41 : decode cX7_givenTo 41 = .ok (.ifCond .ne 5, 3) := by decide +kernel
theorem dX7_givenTo_44 : decode cX7_givenTo 44 = .ok (.iload_n 3, 1) := by decide +kernel
theorem dX7_givenTo_45 : decode cX7_givenTo 45 = .ok (.ireturn, 1) := by decide +kernel
theorem dX7_givenTo_46 : decode cX7_givenTo 46 = .ok (.aload_n 0, 1) := by decide +kernel
theorem dX7_givenTo_47 : decode cX7_givenTo 47 = .ok (.iload_n 2, 1) := by decide +kernel
theorem dX7_givenTo_48 : decode cX7_givenTo 48 = .ok (.invokevirtual 101, 3) := by decide +kernel
theorem dX7_givenTo_51 : decode cX7_givenTo 51 = .ok (.aload_n 0, 1) := by decide +kernel
theorem dX7_givenTo_52 : decode cX7_givenTo 52 = .ok (.iload_n 3, 1) := by decide +kernel
theorem dX7_givenTo_53 : decode cX7_givenTo 53 = .ok (.invokevirtual 101, 3) := by decide +kernel
theorem dX7_givenTo_56 : decode cX7_givenTo 56 = .ok (.isub, 1) := by decide +kernel
theorem dX7_givenTo_57 : decode cX7_givenTo 57 = .ok (.istore 4, 2) := by decide +kernel
theorem dX7_givenTo_59 : decode cX7_givenTo 59 = .ok (.iload 4, 2) := by decide +kernel
theorem dX7_givenTo_61 : decode cX7_givenTo 61 = .ok (.ifCond .lt 13, 3) := by decide +kernel
theorem dX7_givenTo_64 : decode cX7_givenTo 64 = .ok (.iload 4, 2) := by decide +kernel
theorem dX7_givenTo_66 : decode cX7_givenTo 66 = .ok (.ifCond .ne 12, 3) := by decide +kernel
theorem dX7_givenTo_69 : decode cX7_givenTo 69 = .ok (.iload_n 2, 1) := by decide +kernel
theorem dX7_givenTo_70 : decode cX7_givenTo 70 = .ok (.iload_n 3, 1) := by decide +kernel
theorem dX7_givenTo_71 : decode cX7_givenTo 71 = .ok (.if_icmp .ge 7, 3) := by decide +kernel
theorem dX7_givenTo_74 : decode cX7_givenTo 74 = .ok (.iload_n 2, 1) := by decide +kernel
theorem dX7_givenTo_75 : decode cX7_givenTo 75 = .ok (.goto 4, 3) := by decide +kernel
theorem dX7_givenTo_78 : decode cX7_givenTo 78 = .ok (.iload_n 3, 1) := by decide +kernel
theorem dX7_givenTo_79 : decode cX7_givenTo 79 = .ok (.ireturn, 1) := by decide +kernel
set_option maxHeartbeats 4000000 in
set_option maxRecDepth 100000 in
theorem c_X7_givenTo (l : Launch) (D : va_G) (cy : Nat → ClassId) (ad adK adV : Nat → Nat) (M : Mm) (o0 : Nat) (a1 : Int32) (a2 : Int32) (res : Mm × Int32) (h : f_X7_givenTo M o0 a1 a2 = some res) : Met l yX7_givenTo (wU yX7_givenTo cX7_givenTo 5 (some .int)) rmX7_givenTo (va_Pc [.ref (ad o0), .int a1, .int a2] (Pre D cy shM ad nM adK adV M)) (va_Qi (fun r (M2 : Mm) => r = res.2 ∧ M2 = res.1) (Pre D cy shM ad nM adK adV) (Aw ad nM)) 0 0 (Aw ad nM) := by
  refine Met.ofW (cc := cX7_givenTo) (maxL := 5) (ret := (some .int)) (by decide) rfl ?_
  intro p e s m args below meth c s₁ B hml hv
  obtain ⟨hargs, hPre⟩ := hv
  have hx := B.exec
  have hb := B.bytes
  have hr := B.returns
  have hts := atoms_spec (ws := wU yX7_givenTo cX7_givenTo 5 (some .int)) B.pre
  have hq : ∀ w ∈ gW, w.before args s = true := fun w hw => hts w (List.mem_cons_of_mem _ hw)
  have hcm : ∀ w ∈ gW, w ∈ wU yX7_givenTo cX7_givenTo 5 (some .int) := fun w hw => List.mem_cons_of_mem _ hw
  have hown : s.vm.findClass RX7 = some m.cls := findClass_of_methodNamed B.named
  have hlocks := B.notSynchronized
  have hF : CallFix p m c cX7_givenTo 5 s args (wU yX7_givenTo cX7_givenTo 5 (some .int)) RX7 := ⟨hx, hb, hml, hown, hts⟩
  have hK := hPre.2.1
  have hZ := hPre.2.2.2
  have hw : Wd D cy shM ad nM (Aw ad nM) s.heap M s.heap [] := ⟨hPre.1, hPre.2.2.1, va_S.rf⟩
  rw [show entryFrame m args 5 = entryFrame m ([.ref (ad o0), .int a1, .int a2] : List Value).toArray 5 from by rw [hargs]]
  have hl := lv_entry ([.ref (ad o0), .int a1, .int a2]) (n := 5) (Nat.le_of_ble_eq_true rfl)
  rw [lg_entry_eq]
  generalize (lg_sl ([.ref (ad o0), .int a1, .int a2]) ++ List.replicate (5 - (lg_sl ([.ref (ad o0), .int a1, .int a2])).length) Slot.unset).toArray = ls at hl ⊢
  have hl : lv_has ls 5 [(0, .ref (ad o0)), (1, .int a1), (2, .int a2)] := hl
  have hb74 : ∀ (M : Mm) (x2 : Int32), f_X7_givenTo_b74 M x2 = some res → ∀ (H : Heap) (locs : List Loc) (ls : Array Slot), Wd D cy shM ad nM (Aw ad nM) s.heap M H locs → lv_has ls 5 [(2, .int x2)] → W p l e (headSpec (wU yX7_givenTo cX7_givenTo 5 (some .int)) rmX7_givenTo).room s m args below meth c H locs 0 0 (QI D cy shM ad nM adK adV below args s res) (F0 m 74 ls []) := by
    intro M x2 h H locs ls hw hl
    unfold f_X7_givenTo_b74 at h
    refine lv_iload_n hx hb dX7_givenTo_74 rfl (lv_at hl 0 rfl) ?_
    refine lv_goto (tgt := 79) hx hb dX7_givenTo_75 (by decide) ?_
    exact r_iret hx hb hr rfl hlocks hZ hK hw h dX7_givenTo_79
  have hb25 : ∀ (M : Mm) (x0 : Nat) (x2 : Int32) (t0 : Int32), f_X7_givenTo_b25 M x0 x2 t0 = some res → ∀ (H : Heap) (locs : List Loc) (ls : Array Slot), Wd D cy shM ad nM (Aw ad nM) s.heap M H locs → lv_has ls 5 [(0, .ref (ad x0)), (2, .int x2)] → W p l e (headSpec (wU yX7_givenTo cX7_givenTo 5 (some .int)) rmX7_givenTo).room s m args below meth c H locs 0 0 (QI D cy shM ad nM adK adV below args s res) (F0 m 25 ls [.int t0]) := by
    intro M x0 x2 t0 h H locs ls hw hl
    unfold f_X7_givenTo_b25 at h
    refine lv_istore_n (lv' := [(3, .int t0), (0, .ref (ad x0)), (2, .int x2)]) hx hb dX7_givenTo_25 rfl hl (by decide) rfl (fun ls hl => ?_)
    refine lv_aload_n hx hb dX7_givenTo_26 rfl (lv_at hl 1 rfl) ?_
    refine lv_iload_n hx hb dX7_givenTo_27 rfl (lv_at hl 2 rfl) ?_
    replace h := gd_some h
    obtain ⟨g2, h⟩ := h
    replace h := bd_some h
    obtain ⟨r1, er1, h⟩ := h
    refine r_callVi (As := [.int x2]) (rest := []) hF (c_X7_isBarred l D cy ad adK adV M x0 x2 r1 er1) (gW_goodV hcm qw1016 qw1013 qw1015 qw24 qw68) hdX7_isBarred rfl ⟨Nat.le_of_ble_eq_true rfl, Nat.le_of_ble_eq_true rfl⟩ rfl rfl hZ hK hw g2 (by decide) rfl rfl hl.1 rfl (Nat.le_of_ble_eq_true rfl) ⟨Nat.zero_le _, Nat.zero_le _⟩ dX7_givenTo_28 (fun H locs hw => ?_)
    refine lv_if_ne (tgt := 36) hx hb dX7_givenTo_31 (by decide) (fun c3 => ?_) (fun c3 => ?_)
    · replace h := if_some_f c3 h
      refine lv_aload_n hx hb dX7_givenTo_36 rfl (lv_at hl 1 rfl) ?_
      refine lv_iload_n hx hb dX7_givenTo_37 rfl (lv_at hl 0 rfl) ?_
      replace h := bd_some h
      obtain ⟨r4, er4, h⟩ := h
      refine r_callVi (As := [.int t0]) (rest := []) hF (c_X7_isBarred l D cy ad adK adV r1.1 x0 t0 r4 er4) (gW_goodV hcm qw1016 qw1013 qw1015 qw24 qw68) hdX7_isBarred rfl ⟨Nat.le_of_ble_eq_true rfl, Nat.le_of_ble_eq_true rfl⟩ rfl rfl hZ hK hw g2 (by decide) rfl rfl hl.1 rfl (Nat.le_of_ble_eq_true rfl) ⟨Nat.zero_le _, Nat.zero_le _⟩ dX7_givenTo_38 (fun H locs hw => ?_)
      refine lv_if_ne (tgt := 46) hx hb dX7_givenTo_41 (by decide) (fun c5 => ?_) (fun c5 => ?_)
      · replace h := if_some_f c5 h
        refine lv_aload_n hx hb dX7_givenTo_46 rfl (lv_at hl 1 rfl) ?_
        refine lv_iload_n hx hb dX7_givenTo_47 rfl (lv_at hl 2 rfl) ?_
        replace h := bd_some h
        obtain ⟨r6, er6, h⟩ := h
        refine r_callVi (As := [.int x2]) (rest := []) hF (c_X7_points l D cy ad adK adV r4.1 x0 x2 r6 er6) (gW_goodV hcm qw1008 qw1005 qw1007 qw22 qw68) hdX7_points rfl ⟨Nat.le_of_ble_eq_true rfl, Nat.le_of_ble_eq_true rfl⟩ rfl rfl hZ hK hw g2 (by decide) rfl rfl hl.1 rfl (Nat.le_of_ble_eq_true rfl) ⟨Nat.zero_le _, Nat.zero_le _⟩ dX7_givenTo_48 (fun H locs hw => ?_)
        refine lv_aload_n hx hb dX7_givenTo_51 rfl (lv_at hl 1 rfl) ?_
        refine lv_iload_n hx hb dX7_givenTo_52 rfl (lv_at hl 0 rfl) ?_
        replace h := bd_some h
        obtain ⟨r7, er7, h⟩ := h
        refine r_callVi (As := [.int t0]) (rest := [.int r6.2]) hF (c_X7_points l D cy ad adK adV r6.1 x0 t0 r7 er7) (gW_goodV hcm qw1008 qw1005 qw1007 qw22 qw68) hdX7_points rfl ⟨Nat.le_of_ble_eq_true rfl, Nat.le_of_ble_eq_true rfl⟩ rfl rfl hZ hK hw g2 (by decide) rfl rfl hl.1 rfl (Nat.le_of_ble_eq_true rfl) ⟨Nat.zero_le _, Nat.zero_le _⟩ dX7_givenTo_53 (fun H locs hw => ?_)
        refine lv_isub hx hb dX7_givenTo_56 ?_
        refine lv_istore (lv' := [(4, .int (r6.2 - r7.2)), (3, .int t0), (0, .ref (ad x0)), (2, .int x2)]) hx hb dX7_givenTo_57 hl (by decide) rfl (fun ls hl => ?_)
        refine lv_iload hx hb dX7_givenTo_59 (lv_at hl 0 rfl) ?_
        refine lv_if_lt (tgt := 74) hx hb dX7_givenTo_61 (by decide) (fun c8 => ?_) (fun c8 => ?_)
        · replace h := if_some_t c8 h
          exact hb74 _ _ h _ _ _ hw (lv_sub hl [3] rfl)
        · replace h := if_some_f c8 h
          refine lv_iload hx hb dX7_givenTo_64 (lv_at hl 0 rfl) ?_
          refine lv_if_ne (tgt := 78) hx hb dX7_givenTo_66 (by decide) (fun c9 => ?_) (fun c9 => ?_)
          · replace h := if_some_f c9 h
            refine lv_iload_n hx hb dX7_givenTo_78 rfl (lv_at hl 1 rfl) ?_
            exact r_iret hx hb hr rfl hlocks hZ hK hw h dX7_givenTo_79
          · replace h := if_some_t c9 h
            refine lv_iload_n hx hb dX7_givenTo_69 rfl (lv_at hl 3 rfl) ?_
            refine lv_iload_n hx hb dX7_givenTo_70 rfl (lv_at hl 1 rfl) ?_
            refine lv_icmp_ge (tgt := 78) hx hb dX7_givenTo_71 (by decide) (fun c10 => ?_) (fun c10 => ?_)
            · replace h := if_some_t c10 h
              refine lv_iload_n hx hb dX7_givenTo_78 rfl (lv_at hl 1 rfl) ?_
              exact r_iret hx hb hr rfl hlocks hZ hK hw h dX7_givenTo_79
            · replace h := if_some_f c10 h
              exact hb74 _ _ h _ _ _ hw (lv_sub hl [3] rfl)
      · replace h := if_some_t c5 h
        refine lv_iload_n hx hb dX7_givenTo_44 rfl (lv_at hl 0 rfl) ?_
        exact r_iret hx hb hr rfl hlocks hZ hK hw h dX7_givenTo_45
    · replace h := if_some_t c3 h
      refine lv_iload_n hx hb dX7_givenTo_34 rfl (lv_at hl 2 rfl) ?_
      exact r_iret hx hb hr rfl hlocks hZ hK hw h dX7_givenTo_35
  unfold f_X7_givenTo at h
  refine lv_aload_n hx hb dX7_givenTo_0 rfl (lv_at hl 0 rfl) ?_
  refine lv_iload_n hx hb dX7_givenTo_1 rfl (lv_at hl 1 rfl) ?_
  refine lv_iconst (v := (0 : Int32)) hx hb dX7_givenTo_2 (by decide) ?_
  replace h := gd_some h
  obtain ⟨g12, h⟩ := h
  replace h := bd_some h
  obtain ⟨r11, er11, h⟩ := h
  refine r_callVi (As := [.int a1, .int (0 : Int32)]) (rest := []) hF (c_X7_of l D cy ad adK adV M o0 a1 (0 : Int32) r11 er11) (gW_goodV hcm qw1012 qw1009 qw1011 qw23 qw68) hdX7_of rfl ⟨Nat.le_of_ble_eq_true rfl, Nat.le_of_ble_eq_true rfl⟩ rfl rfl hZ hK hw g12 (by decide) rfl rfl hl.1 rfl (Nat.le_of_ble_eq_true rfl) ⟨Nat.zero_le _, Nat.zero_le _⟩ dX7_givenTo_3 (fun H locs hw => ?_)
  refine lv_iload_n hx hb dX7_givenTo_6 rfl (lv_at hl 2 rfl) ?_
  refine lv_icmp_ne (tgt := 19) hx hb dX7_givenTo_7 (by decide) (fun c13 => ?_) (fun c13 => ?_)
  · replace h := if_some_f c13 h
    refine lv_aload_n hx hb dX7_givenTo_19 rfl (lv_at hl 0 rfl) ?_
    refine lv_iload_n hx hb dX7_givenTo_20 rfl (lv_at hl 1 rfl) ?_
    refine lv_iconst (v := (0 : Int32)) hx hb dX7_givenTo_21 (by decide) ?_
    replace h := bd_some h
    obtain ⟨r14, er14, h⟩ := h
    refine r_callVi (As := [.int a1, .int (0 : Int32)]) (rest := []) hF (c_X7_of l D cy ad adK adV r11.1 o0 a1 (0 : Int32) r14 er14) (gW_goodV hcm qw1012 qw1009 qw1011 qw23 qw68) hdX7_of rfl ⟨Nat.le_of_ble_eq_true rfl, Nat.le_of_ble_eq_true rfl⟩ rfl rfl hZ hK hw g12 (by decide) rfl rfl hl.1 rfl (Nat.le_of_ble_eq_true rfl) ⟨Nat.zero_le _, Nat.zero_le _⟩ dX7_givenTo_22 (fun H locs hw => ?_)
    exact hb25 _ _ _ _ h _ _ _ hw (lv_sub hl [0, 2] rfl)
  · replace h := if_some_t c13 h
    refine lv_aload_n hx hb dX7_givenTo_10 rfl (lv_at hl 0 rfl) ?_
    refine lv_iload_n hx hb dX7_givenTo_11 rfl (lv_at hl 1 rfl) ?_
    refine lv_iconst (v := (1 : Int32)) hx hb dX7_givenTo_12 (by decide) ?_
    replace h := bd_some h
    obtain ⟨r15, er15, h⟩ := h
    refine r_callVi (As := [.int a1, .int (1 : Int32)]) (rest := []) hF (c_X7_of l D cy ad adK adV r11.1 o0 a1 (1 : Int32) r15 er15) (gW_goodV hcm qw1012 qw1009 qw1011 qw23 qw68) hdX7_of rfl ⟨Nat.le_of_ble_eq_true rfl, Nat.le_of_ble_eq_true rfl⟩ rfl rfl hZ hK hw g12 (by decide) rfl rfl hl.1 rfl (Nat.le_of_ble_eq_true rfl) ⟨Nat.zero_le _, Nat.zero_le _⟩ dX7_givenTo_13 (fun H locs hw => ?_)
    refine lv_goto (tgt := 25) hx hb dX7_givenTo_16 (by decide) ?_
    exact hb25 _ _ _ _ h _ _ _ hw (lv_sub hl [0, 2] rfl)
theorem dX7_wins_0 : decode cX7_wins 0 = .ok (.aload_n 0, 1) := by decide +kernel
theorem dX7_wins_1 : decode cX7_wins 1 = .ok (.getfield 7, 3) := by decide +kernel
theorem dX7_wins_4 : decode cX7_wins 4 = .ok (.iconst 2, 1) := by decide +kernel
theorem dX7_wins_5 : decode cX7_wins 5 = .ok (.iaload, 1) := by decide +kernel
theorem dX7_wins_6 : decode cX7_wins 6 = .ok (.istore 4, 2) := by decide +kernel
theorem dX7_wins_8 : decode cX7_wins 8 = .ok (.bipush 23, 2) := by decide +kernel
theorem dX7_wins_10 : decode cX7_wins 10 = .ok (.bipush 7, 2) := by decide +kernel
theorem dX7_wins_12 : decode cX7_wins 12 = .ok (.iload 4, 2) := by decide +kernel
theorem dX7_wins_14 : decode cX7_wins 14 = .ok (.imul, 1) := by decide +kernel
theorem dX7_wins_15 : decode cX7_wins 15 = .ok (.iadd, 1) := by decide +kernel
theorem dX7_wins_16 : decode cX7_wins 16 = .ok (.istore 5, 2) := by decide +kernel
theorem dX7_wins_18 : decode cX7_wins 18 = .ok (.aload_n 0, 1) := by decide +kernel
theorem dX7_wins_19 : decode cX7_wins 19 = .ok (.getfield 7, 3) := by decide +kernel
theorem dX7_wins_22 : decode cX7_wins 22 = .ok (.iload 5, 2) := by decide +kernel
theorem dX7_wins_24 : decode cX7_wins 24 = .ok (.iconst 4, 1) := by decide +kernel
theorem dX7_wins_25 : decode cX7_wins 25 = .ok (.iadd, 1) := by decide +kernel
theorem dX7_wins_26 : decode cX7_wins 26 = .ok (.aload_n 0, 1) := by decide +kernel
theorem dX7_wins_27 : decode cX7_wins 27 = .ok (.iload 4, 2) := by decide +kernel
theorem dX7_wins_29 : decode cX7_wins 29 = .ok (.iload_n 1, 1) := by decide +kernel
theorem dX7_wins_30 : decode cX7_wins 30 = .ok (.invokevirtual 105, 3) := by decide +kernel
theorem dX7_wins_33 : decode cX7_wins 33 = .ok (.iastore, 1) := by decide +kernel
theorem dX7_wins_34 : decode cX7_wins 34 = .ok (.aload_n 0, 1) := by decide +kernel
theorem dX7_wins_35 : decode cX7_wins 35 = .ok (.getfield 7, 3) := by decide +kernel
theorem dX7_wins_38 : decode cX7_wins 38 = .ok (.iload 5, 2) := by decide +kernel
theorem dX7_wins_40 : decode cX7_wins 40 = .ok (.iconst 3, 1) := by decide +kernel
theorem dX7_wins_41 : decode cX7_wins 41 = .ok (.iadd, 1) := by decide +kernel
theorem dX7_wins_42 : decode cX7_wins 42 = .ok (.iload_n 1, 1) := by decide +kernel
theorem dX7_wins_43 : decode cX7_wins 43 = .ok (.iastore, 1) := by decide +kernel
theorem dX7_wins_44 : decode cX7_wins 44 = .ok (.aload_n 0, 1) := by decide +kernel
theorem dX7_wins_45 : decode cX7_wins 45 = .ok (.getfield 7, 3) := by decide +kernel
theorem dX7_wins_48 : decode cX7_wins 48 = .ok (.iload 5, 2) := by decide +kernel
theorem dX7_wins_50 : decode cX7_wins 50 = .ok (.iconst 5, 1) := by decide +kernel
theorem dX7_wins_51 : decode cX7_wins 51 = .ok (.iadd, 1) := by decide +kernel
theorem dX7_wins_52 : decode cX7_wins 52 = .ok (.iload_n 2, 1) := by decide +kernel
theorem dX7_wins_53 : decode cX7_wins 53 = .ok (.iastore, 1) := by decide +kernel
theorem dX7_wins_54 : decode cX7_wins 54 = .ok (.aload_n 0, 1) := by decide +kernel
theorem dX7_wins_55 : decode cX7_wins 55 = .ok (.getfield 7, 3) := by decide +kernel
theorem dX7_wins_58 : decode cX7_wins 58 = .ok (.iload 5, 2) := by decide +kernel
theorem dX7_wins_60 : decode cX7_wins 60 = .ok (.iconst 5, 1) := by decide +kernel
theorem dX7_wins_61 : decode cX7_wins 61 = .ok (.iadd, 1) := by decide +kernel
theorem dX7_wins_62 : decode cX7_wins 62 = .ok (.iconst 1, 1) := by decide +kernel
theorem dX7_wins_63 : decode cX7_wins 63 = .ok (.iadd, 1) := by decide +kernel
theorem dX7_wins_64 : decode cX7_wins 64 = .ok (.iload_n 3, 1) := by decide +kernel
theorem dX7_wins_65 : decode cX7_wins 65 = .ok (.iastore, 1) := by decide +kernel
theorem dX7_wins_66 : decode cX7_wins 66 = .ok (.aload_n 0, 1) := by decide +kernel
theorem dX7_wins_67 : decode cX7_wins 67 = .ok (.getfield 7, 3) := by decide +kernel
theorem dX7_wins_70 : decode cX7_wins 70 = .ok (.iconst 2, 1) := by decide +kernel
theorem dX7_wins_71 : decode cX7_wins 71 = .ok (.dup2, 1) := by decide +kernel
theorem dX7_wins_72 : decode cX7_wins 72 = .ok (.iaload, 1) := by decide +kernel
theorem dX7_wins_73 : decode cX7_wins 73 = .ok (.iconst 1, 1) := by decide +kernel
theorem dX7_wins_74 : decode cX7_wins 74 = .ok (.iadd, 1) := by decide +kernel
theorem dX7_wins_75 : decode cX7_wins 75 = .ok (.iastore, 1) := by decide +kernel
theorem dX7_wins_76 : decode cX7_wins 76 = .ok (.return_, 1) := by decide +kernel
set_option maxHeartbeats 4000000 in
set_option maxRecDepth 100000 in
theorem c_X7_wins (l : Launch) (D : va_G) (cy : Nat → ClassId) (ad adK adV : Nat → Nat) (M : Mm) (o0 : Nat) (a1 : Int32) (a2 : Int32) (a3 : Int32) (res : Mm × Unit) (h : f_X7_wins M o0 a1 a2 a3 = some res) : Met l yX7_wins (wU yX7_wins cX7_wins 6 none) rmX7_wins (va_Pc [.ref (ad o0), .int a1, .int a2, .int a3] (Pre D cy shM ad nM adK adV M)) (va_Qv (fun (M2 : Mm) => M2 = res.1) (Pre D cy shM ad nM adK adV) (Aw ad nM)) 0 0 (Aw ad nM) := by
  refine Met.ofW (cc := cX7_wins) (maxL := 6) (ret := none) (by decide) rfl ?_
  intro p e s m args below meth c s₁ B hml hv
  obtain ⟨hargs, hPre⟩ := hv
  have hx := B.exec
  have hb := B.bytes
  have hr := B.returns
  have hts := atoms_spec (ws := wU yX7_wins cX7_wins 6 none) B.pre
  have hq : ∀ w ∈ gW, w.before args s = true := fun w hw => hts w (List.mem_cons_of_mem _ hw)
  have hcm : ∀ w ∈ gW, w ∈ wU yX7_wins cX7_wins 6 none := fun w hw => List.mem_cons_of_mem _ hw
  have hown : s.vm.findClass RX7 = some m.cls := findClass_of_methodNamed B.named
  have hlocks := B.notSynchronized
  have hF : CallFix p m c cX7_wins 6 s args (wU yX7_wins cX7_wins 6 none) RX7 := ⟨hx, hb, hml, hown, hts⟩
  have hK := hPre.2.1
  have hZ := hPre.2.2.2
  have hw : Wd D cy shM ad nM (Aw ad nM) s.heap M s.heap [] := ⟨hPre.1, hPre.2.2.1, va_S.rf⟩
  have iw7 : ∀ w ∈ u_ws RX7 TX7 30, w ∈ wU yX7_wins cX7_wins 6 none := fun w hw => List.mem_cons_of_mem _ (iX7 w hw)
  rw [show entryFrame m args 6 = entryFrame m ([.ref (ad o0), .int a1, .int a2, .int a3] : List Value).toArray 6 from by rw [hargs]]
  have hl := lv_entry ([.ref (ad o0), .int a1, .int a2, .int a3]) (n := 6) (Nat.le_of_ble_eq_true rfl)
  rw [lg_entry_eq]
  generalize (lg_sl ([.ref (ad o0), .int a1, .int a2, .int a3]) ++ List.replicate (6 - (lg_sl ([.ref (ad o0), .int a1, .int a2, .int a3])).length) Slot.unset).toArray = ls at hl ⊢
  have hl : lv_has ls 6 [(0, .ref (ad o0)), (1, .int a1), (2, .int a2), (3, .int a3)] := hl
  unfold f_X7_wins at h
  refine lv_aload_n hx hb dX7_wins_0 rfl (lv_at hl 0 rfl) ?_
  replace h := gd_some h
  obtain ⟨g1, h⟩ := h
  replace h := bd_some h
  obtain ⟨q2, eq2, h⟩ := h
  refine r_getR hx hb hts iw7 hown hK hw o0 0 g1 (by decide) rfl (by decide) rfl (hq _ qw890) (fun _ h9 => h9) dX7_wins_1 eq2 ?_
  refine lv_iconst (v := (2 : Int32)) hx hb dX7_wins_4 (by decide) ?_
  replace h := gd_some h
  obtain ⟨g3, h⟩ := h
  refine r_iald hx hb hK hw q2 g3 dX7_wins_5 ?_
  refine lv_istore (lv' := [(4, .int (M.1 q2 (2 : Int32).toNatClampNeg)), (0, .ref (ad o0)), (1, .int a1), (2, .int a2), (3, .int a3)]) hx hb dX7_wins_6 hl (by decide) rfl (fun ls hl => ?_)
  refine lv_bipush (v := (23 : Int32)) hx hb dX7_wins_8 (by decide) ?_
  refine lv_bipush (v := (7 : Int32)) hx hb dX7_wins_10 (by decide) ?_
  refine lv_iload hx hb dX7_wins_12 (lv_at hl 0 rfl) ?_
  refine lv_imul hx hb dX7_wins_14 ?_
  refine lv_iadd hx hb dX7_wins_15 ?_
  refine lv_topi (fun y4 ey4 => ?_)
  replace h := lt_at ey4 h
  refine lv_istore (lv' := [(5, .int y4), (4, .int (M.1 q2 (2 : Int32).toNatClampNeg)), (0, .ref (ad o0)), (1, .int a1), (2, .int a2), (3, .int a3)]) hx hb dX7_wins_16 hl (by decide) rfl (fun ls hl => ?_)
  refine lv_aload_n hx hb dX7_wins_18 rfl (lv_at hl 2 rfl) ?_
  replace h := bd_some h
  obtain ⟨q5, eq5, h⟩ := h
  refine r_getR hx hb hts iw7 hown hK hw o0 0 g1 (by decide) rfl (by decide) rfl (hq _ qw890) (fun _ h9 => h9) dX7_wins_19 eq5 ?_
  refine lv_iload hx hb dX7_wins_22 (lv_at hl 0 rfl) ?_
  refine lv_iconst (v := (4 : Int32)) hx hb dX7_wins_24 (by decide) ?_
  refine lv_iadd hx hb dX7_wins_25 ?_
  refine lv_aload_n hx hb dX7_wins_26 rfl (lv_at hl 2 rfl) ?_
  refine lv_iload hx hb dX7_wins_27 (lv_at hl 1 rfl) ?_
  refine lv_iload_n hx hb dX7_wins_29 rfl (lv_at hl 3 rfl) ?_
  replace h := bd_some h
  obtain ⟨r6, er6, h⟩ := h
  refine r_callVi (As := [.int (M.1 q2 (2 : Int32).toNatClampNeg), .int a1]) (rest := [.int (y4 + (4 : Int32)), .ref (ad q5)]) hF (c_X7_givenTo l D cy ad adK adV M o0 (M.1 q2 (2 : Int32).toNatClampNeg) a1 r6 er6) (gW_goodV hcm qw1172 qw1169 qw1171 qw49 qw68) hdX7_givenTo rfl ⟨Nat.le_of_ble_eq_true rfl, Nat.le_of_ble_eq_true rfl⟩ rfl rfl hZ hK hw g1 (by decide) rfl rfl hl.1 rfl (Nat.le_of_ble_eq_true rfl) ⟨Nat.zero_le _, Nat.zero_le _⟩ dX7_wins_30 (fun H locs hw => ?_)
  replace h := gd_some h
  obtain ⟨g7, h⟩ := h
  refine r_iast hx hb hK hw q5 g7 dX7_wins_33 (fun H locs hw => ?_)
  replace h := lt_some h
  obtain ⟨M8, eM8, h⟩ := h
  rw [← eM8] at hw
  refine lv_aload_n hx hb dX7_wins_34 rfl (lv_at hl 2 rfl) ?_
  replace h := bd_some h
  obtain ⟨q9, eq9, h⟩ := h
  refine r_getR hx hb hts iw7 hown hK hw o0 0 g1 (by decide) rfl (by decide) rfl (hq _ qw890) (fun _ h9 => h9) dX7_wins_35 eq9 ?_
  refine lv_iload hx hb dX7_wins_38 (lv_at hl 0 rfl) ?_
  refine lv_iconst (v := (3 : Int32)) hx hb dX7_wins_40 (by decide) ?_
  refine lv_iadd hx hb dX7_wins_41 ?_
  refine lv_iload_n hx hb dX7_wins_42 rfl (lv_at hl 3 rfl) ?_
  replace h := gd_some h
  obtain ⟨g10, h⟩ := h
  refine r_iast hx hb hK hw q9 g10 dX7_wins_43 (fun H locs hw => ?_)
  replace h := lt_some h
  obtain ⟨M11, eM11, h⟩ := h
  rw [← eM11] at hw
  refine lv_aload_n hx hb dX7_wins_44 rfl (lv_at hl 2 rfl) ?_
  replace h := bd_some h
  obtain ⟨q12, eq12, h⟩ := h
  refine r_getR hx hb hts iw7 hown hK hw o0 0 g1 (by decide) rfl (by decide) rfl (hq _ qw890) (fun _ h9 => h9) dX7_wins_45 eq12 ?_
  refine lv_iload hx hb dX7_wins_48 (lv_at hl 0 rfl) ?_
  refine lv_iconst (v := (5 : Int32)) hx hb dX7_wins_50 (by decide) ?_
  refine lv_iadd hx hb dX7_wins_51 ?_
  refine lv_iload_n hx hb dX7_wins_52 rfl (lv_at hl 4 rfl) ?_
  replace h := gd_some h
  obtain ⟨g13, h⟩ := h
  refine r_iast hx hb hK hw q12 g13 dX7_wins_53 (fun H locs hw => ?_)
  replace h := lt_some h
  obtain ⟨M14, eM14, h⟩ := h
  rw [← eM14] at hw
  refine lv_aload_n hx hb dX7_wins_54 rfl (lv_at hl 2 rfl) ?_
  replace h := bd_some h
  obtain ⟨q15, eq15, h⟩ := h
  refine r_getR hx hb hts iw7 hown hK hw o0 0 g1 (by decide) rfl (by decide) rfl (hq _ qw890) (fun _ h9 => h9) dX7_wins_55 eq15 ?_
  refine lv_iload hx hb dX7_wins_58 (lv_at hl 0 rfl) ?_
  refine lv_iconst (v := (5 : Int32)) hx hb dX7_wins_60 (by decide) ?_
  refine lv_iadd hx hb dX7_wins_61 ?_
  refine lv_iconst (v := (1 : Int32)) hx hb dX7_wins_62 (by decide) ?_
  refine lv_iadd hx hb dX7_wins_63 ?_
  refine lv_iload_n hx hb dX7_wins_64 rfl (lv_at hl 5 rfl) ?_
  replace h := gd_some h
  obtain ⟨g16, h⟩ := h
  refine r_iast hx hb hK hw q15 g16 dX7_wins_65 (fun H locs hw => ?_)
  replace h := lt_some h
  obtain ⟨M17, eM17, h⟩ := h
  rw [← eM17] at hw
  refine lv_aload_n hx hb dX7_wins_66 rfl (lv_at hl 2 rfl) ?_
  replace h := bd_some h
  obtain ⟨q18, eq18, h⟩ := h
  refine r_getR hx hb hts iw7 hown hK hw o0 0 g1 (by decide) rfl (by decide) rfl (hq _ qw890) (fun _ h9 => h9) dX7_wins_67 eq18 ?_
  refine lv_iconst (v := (2 : Int32)) hx hb dX7_wins_70 (by decide) ?_
  refine lv_dup2_11 hx hb dX7_wins_71 rfl rfl ?_
  replace h := gd_some h
  obtain ⟨g19, h⟩ := h
  refine r_iald hx hb hK hw q18 g19 dX7_wins_72 ?_
  refine lv_iconst (v := (1 : Int32)) hx hb dX7_wins_73 (by decide) ?_
  refine lv_iadd hx hb dX7_wins_74 ?_
  replace h := gd_some h
  obtain ⟨g20, h⟩ := h
  refine r_iast hx hb hK hw q18 g20 dX7_wins_75 (fun H locs hw => ?_)
  replace h := lt_some h
  obtain ⟨M21, eM21, h⟩ := h
  rw [← eM21] at hw
  exact r_vret hx hb hr hlocks hZ hK hw h dX7_wins_76
theorem dX7_winsNow_0 : decode cX7_winsNow 0 = .ok (.aload_n 0, 1) := by decide +kernel
theorem dX7_winsNow_1 : decode cX7_winsNow 1 = .ok (.getfield 7, 3) := by decide +kernel
theorem dX7_winsNow_4 : decode cX7_winsNow 4 = .ok (.iconst 2, 1) := by decide +kernel
theorem dX7_winsNow_5 : decode cX7_winsNow 5 = .ok (.iaload, 1) := by decide +kernel
theorem dX7_winsNow_6 : decode cX7_winsNow 6 = .ok (.istore_n 2, 1) := by decide +kernel
theorem dX7_winsNow_7 : decode cX7_winsNow 7 = .ok (.aload_n 0, 1) := by decide +kernel
theorem dX7_winsNow_8 : decode cX7_winsNow 8 = .ok (.iload_n 1, 1) := by decide +kernel
theorem dX7_winsNow_9 : decode cX7_winsNow 9 = .ok (.aload_n 0, 1) := by decide +kernel
theorem dX7_winsNow_10 : decode cX7_winsNow 10 = .ok (.aload_n 0, 1) := by decide +kernel
theorem dX7_winsNow_11 : decode cX7_winsNow 11 = .ok (.iload_n 2, 1) := by decide +kernel
theorem dX7_winsNow_12 : decode cX7_winsNow 12 = .ok (.iconst 0, 1) := by decide +kernel
theorem dX7_winsNow_13 : decode cX7_winsNow 13 = .ok (.invokevirtual 71, 3) := by decide +kernel
theorem dX7_winsNow_16 : decode cX7_winsNow 16 = .ok (.iload_n 2, 1) := by decide +kernel
theorem dX7_winsNow_17 : decode cX7_winsNow 17 = .ok (.invokevirtual 108, 3) := by decide +kernel
theorem dX7_winsNow_20 : decode cX7_winsNow 20 = .ok (.aload_n 0, 1) := by decide +kernel
theorem dX7_winsNow_21 : decode cX7_winsNow 21 = .ok (.aload_n 0, 1) := by decide +kernel
theorem dX7_winsNow_22 : decode cX7_winsNow 22 = .ok (.iload_n 2, 1) := by decide +kernel
theorem dX7_winsNow_23 : decode cX7_winsNow 23 = .ok (.iconst 1, 1) := by decide +kernel
theorem dX7_winsNow_24 : decode cX7_winsNow 24 = .ok (.invokevirtual 71, 3) := by decide +kernel
theorem dX7_winsNow_27 : decode cX7_winsNow 27 = .ok (.iload_n 2, 1) := by decide +kernel
theorem dX7_winsNow_28 : decode cX7_winsNow 28 = .ok (.invokevirtual 108, 3) := by decide +kernel
theorem dX7_winsNow_31 : decode cX7_winsNow 31 = .ok (.invokevirtual 111, 3) := by decide +kernel
theorem dX7_winsNow_34 : decode cX7_winsNow 34 = .ok (.return_, 1) := by decide +kernel
set_option maxHeartbeats 4000000 in
set_option maxRecDepth 100000 in
theorem c_X7_winsNow (l : Launch) (D : va_G) (cy : Nat → ClassId) (ad adK adV : Nat → Nat) (M : Mm) (o0 : Nat) (a1 : Int32) (res : Mm × Unit) (h : f_X7_winsNow M o0 a1 = some res) : Met l yX7_winsNow (wU yX7_winsNow cX7_winsNow 3 none) rmX7_winsNow (va_Pc [.ref (ad o0), .int a1] (Pre D cy shM ad nM adK adV M)) (va_Qv (fun (M2 : Mm) => M2 = res.1) (Pre D cy shM ad nM adK adV) (Aw ad nM)) 0 0 (Aw ad nM) := by
  refine Met.ofW (cc := cX7_winsNow) (maxL := 3) (ret := none) (by decide) rfl ?_
  intro p e s m args below meth c s₁ B hml hv
  obtain ⟨hargs, hPre⟩ := hv
  have hx := B.exec
  have hb := B.bytes
  have hr := B.returns
  have hts := atoms_spec (ws := wU yX7_winsNow cX7_winsNow 3 none) B.pre
  have hq : ∀ w ∈ gW, w.before args s = true := fun w hw => hts w (List.mem_cons_of_mem _ hw)
  have hcm : ∀ w ∈ gW, w ∈ wU yX7_winsNow cX7_winsNow 3 none := fun w hw => List.mem_cons_of_mem _ hw
  have hown : s.vm.findClass RX7 = some m.cls := findClass_of_methodNamed B.named
  have hlocks := B.notSynchronized
  have hF : CallFix p m c cX7_winsNow 3 s args (wU yX7_winsNow cX7_winsNow 3 none) RX7 := ⟨hx, hb, hml, hown, hts⟩
  have hK := hPre.2.1
  have hZ := hPre.2.2.2
  have hw : Wd D cy shM ad nM (Aw ad nM) s.heap M s.heap [] := ⟨hPre.1, hPre.2.2.1, va_S.rf⟩
  have iw7 : ∀ w ∈ u_ws RX7 TX7 30, w ∈ wU yX7_winsNow cX7_winsNow 3 none := fun w hw => List.mem_cons_of_mem _ (iX7 w hw)
  rw [show entryFrame m args 3 = entryFrame m ([.ref (ad o0), .int a1] : List Value).toArray 3 from by rw [hargs]]
  have hl := lv_entry ([.ref (ad o0), .int a1]) (n := 3) (Nat.le_of_ble_eq_true rfl)
  rw [lg_entry_eq]
  generalize (lg_sl ([.ref (ad o0), .int a1]) ++ List.replicate (3 - (lg_sl ([.ref (ad o0), .int a1])).length) Slot.unset).toArray = ls at hl ⊢
  have hl : lv_has ls 3 [(0, .ref (ad o0)), (1, .int a1)] := hl
  unfold f_X7_winsNow at h
  refine lv_aload_n hx hb dX7_winsNow_0 rfl (lv_at hl 0 rfl) ?_
  replace h := gd_some h
  obtain ⟨g1, h⟩ := h
  replace h := bd_some h
  obtain ⟨q2, eq2, h⟩ := h
  refine r_getR hx hb hts iw7 hown hK hw o0 0 g1 (by decide) rfl (by decide) rfl (hq _ qw890) (fun _ h9 => h9) dX7_winsNow_1 eq2 ?_
  refine lv_iconst (v := (2 : Int32)) hx hb dX7_winsNow_4 (by decide) ?_
  replace h := gd_some h
  obtain ⟨g3, h⟩ := h
  refine r_iald hx hb hK hw q2 g3 dX7_winsNow_5 ?_
  refine lv_istore_n (lv' := [(2, .int (M.1 q2 (2 : Int32).toNatClampNeg)), (0, .ref (ad o0)), (1, .int a1)]) hx hb dX7_winsNow_6 rfl hl (by decide) rfl (fun ls hl => ?_)
  refine lv_aload_n hx hb dX7_winsNow_7 rfl (lv_at hl 1 rfl) ?_
  refine lv_iload_n hx hb dX7_winsNow_8 rfl (lv_at hl 2 rfl) ?_
  refine lv_aload_n hx hb dX7_winsNow_9 rfl (lv_at hl 1 rfl) ?_
  refine lv_aload_n hx hb dX7_winsNow_10 rfl (lv_at hl 1 rfl) ?_
  refine lv_iload_n hx hb dX7_winsNow_11 rfl (lv_at hl 0 rfl) ?_
  refine lv_iconst (v := (0 : Int32)) hx hb dX7_winsNow_12 (by decide) ?_
  replace h := bd_some h
  obtain ⟨r4, er4, h⟩ := h
  refine r_callVi (As := [.int (M.1 q2 (2 : Int32).toNatClampNeg), .int (0 : Int32)]) (rest := [.ref (ad o0), .int a1, .ref (ad o0)]) hF (c_X7_of l D cy ad adK adV M o0 (M.1 q2 (2 : Int32).toNatClampNeg) (0 : Int32) r4 er4) (gW_goodV hcm qw1012 qw1009 qw1011 qw23 qw68) hdX7_of rfl ⟨Nat.le_of_ble_eq_true rfl, Nat.le_of_ble_eq_true rfl⟩ rfl rfl hZ hK hw g1 (by decide) rfl rfl hl.1 rfl (Nat.le_of_ble_eq_true rfl) ⟨Nat.zero_le _, Nat.zero_le _⟩ dX7_winsNow_13 (fun H locs hw => ?_)
  refine lv_iload_n hx hb dX7_winsNow_16 rfl (lv_at hl 0 rfl) ?_
  replace h := bd_some h
  obtain ⟨r5, er5, h⟩ := h
  refine r_callVi (As := [.int r4.2, .int (M.1 q2 (2 : Int32).toNatClampNeg)]) (rest := [.int a1, .ref (ad o0)]) hF (c_X7_effort l D cy ad adK adV r4.1 o0 r4.2 (M.1 q2 (2 : Int32).toNatClampNeg) r5 er5) (gW_goodV hcm qw1144 qw1141 qw1143 qw43 qw68) hdX7_effort rfl ⟨Nat.le_of_ble_eq_true rfl, Nat.le_of_ble_eq_true rfl⟩ rfl rfl hZ hK hw g1 (by decide) rfl rfl hl.1 rfl (Nat.le_of_ble_eq_true rfl) ⟨Nat.zero_le _, Nat.zero_le _⟩ dX7_winsNow_17 (fun H locs hw => ?_)
  refine lv_aload_n hx hb dX7_winsNow_20 rfl (lv_at hl 1 rfl) ?_
  refine lv_aload_n hx hb dX7_winsNow_21 rfl (lv_at hl 1 rfl) ?_
  refine lv_iload_n hx hb dX7_winsNow_22 rfl (lv_at hl 0 rfl) ?_
  refine lv_iconst (v := (1 : Int32)) hx hb dX7_winsNow_23 (by decide) ?_
  replace h := bd_some h
  obtain ⟨r6, er6, h⟩ := h
  refine r_callVi (As := [.int (M.1 q2 (2 : Int32).toNatClampNeg), .int (1 : Int32)]) (rest := [.ref (ad o0), .int r5.2, .int a1, .ref (ad o0)]) hF (c_X7_of l D cy ad adK adV r5.1 o0 (M.1 q2 (2 : Int32).toNatClampNeg) (1 : Int32) r6 er6) (gW_goodV hcm qw1012 qw1009 qw1011 qw23 qw68) hdX7_of rfl ⟨Nat.le_of_ble_eq_true rfl, Nat.le_of_ble_eq_true rfl⟩ rfl rfl hZ hK hw g1 (by decide) rfl rfl hl.1 rfl (Nat.le_of_ble_eq_true rfl) ⟨Nat.zero_le _, Nat.zero_le _⟩ dX7_winsNow_24 (fun H locs hw => ?_)
  refine lv_iload_n hx hb dX7_winsNow_27 rfl (lv_at hl 0 rfl) ?_
  replace h := bd_some h
  obtain ⟨r7, er7, h⟩ := h
  refine r_callVi (As := [.int r6.2, .int (M.1 q2 (2 : Int32).toNatClampNeg)]) (rest := [.int r5.2, .int a1, .ref (ad o0)]) hF (c_X7_effort l D cy ad adK adV r6.1 o0 r6.2 (M.1 q2 (2 : Int32).toNatClampNeg) r7 er7) (gW_goodV hcm qw1144 qw1141 qw1143 qw43 qw68) hdX7_effort rfl ⟨Nat.le_of_ble_eq_true rfl, Nat.le_of_ble_eq_true rfl⟩ rfl rfl hZ hK hw g1 (by decide) rfl rfl hl.1 rfl (Nat.le_of_ble_eq_true rfl) ⟨Nat.zero_le _, Nat.zero_le _⟩ dX7_winsNow_28 (fun H locs hw => ?_)
  replace h := bd_some h
  obtain ⟨r8, er8, h⟩ := h
  refine r_callVv (As := [.int a1, .int r5.2, .int r7.2]) (rest := []) hF (c_X7_wins l D cy ad adK adV r7.1 o0 a1 r5.2 r7.2 r8 er8) (gW_goodV hcm qw1168 qw1165 qw1167 qw48 qw68) hdX7_wins rfl ⟨Nat.le_of_ble_eq_true rfl, Nat.le_of_ble_eq_true rfl⟩ rfl rfl hZ hK hw g1 (by decide) rfl rfl hl.1 rfl (Nat.le_of_ble_eq_true rfl) ⟨Nat.zero_le _, Nat.zero_le _⟩ dX7_winsNow_31 (fun H locs hw => ?_)
  exact r_vret hx hb hr hlocks hZ hK hw h dX7_winsNow_34
theorem dX7_isOver_0 : decode cX7_isOver 0 = .ok (.aload_n 0, 1) := by decide +kernel
theorem dX7_isOver_1 : decode cX7_isOver 1 = .ok (.getfield 7, 3) := by decide +kernel
theorem dX7_isOver_4 : decode cX7_isOver 4 = .ok (.iconst 2, 1) := by decide +kernel
theorem dX7_isOver_5 : decode cX7_isOver 5 = .ok (.iaload, 1) := by decide +kernel
theorem dX7_isOver_6 : decode cX7_isOver 6 = .ok (.aload_n 0, 1) := by decide +kernel
theorem dX7_isOver_7 : decode cX7_isOver 7 = .ok (.getfield 7, 3) := by decide +kernel
theorem dX7_isOver_10 : decode cX7_isOver 10 = .ok (.iconst 1, 1) := by decide +kernel
theorem dX7_isOver_11 : decode cX7_isOver 11 = .ok (.iaload, 1) := by decide +kernel
theorem dX7_isOver_12 : decode cX7_isOver 12 = .ok (.if_icmp .ne 7, 3) := by decide +kernel
theorem dX7_isOver_15 : decode cX7_isOver 15 = .ok (.iconst 1, 1) := by decide +kernel
theorem dX7_isOver_16 : decode cX7_isOver 16 = .ok (.goto 4, 3) := by decide +kernel
theorem dX7_isOver_19 : decode cX7_isOver 19 = .ok (.iconst 0, 1) := by decide +kernel
theorem dX7_isOver_20 : decode cX7_isOver 20 = .ok (.ireturn, 1) := by decide +kernel
set_option maxHeartbeats 4000000 in
set_option maxRecDepth 100000 in
theorem c_X7_isOver (l : Launch) (D : va_G) (cy : Nat → ClassId) (ad adK adV : Nat → Nat) (M : Mm) (o0 : Nat) (res : Mm × Int32) (h : f_X7_isOver M o0 = some res) : Met l yX7_isOver (wU yX7_isOver cX7_isOver 1 (some .boolean)) rmX7_isOver (va_Pc [.ref (ad o0)] (Pre D cy shM ad nM adK adV M)) (va_Qi (fun r (M2 : Mm) => r = res.2 ∧ M2 = res.1) (Pre D cy shM ad nM adK adV) (Aw ad nM)) 0 0 (Aw ad nM) := by
  refine Met.ofW (cc := cX7_isOver) (maxL := 1) (ret := (some .boolean)) (by decide) rfl ?_
  intro p e s m args below meth c s₁ B hml hv
  obtain ⟨hargs, hPre⟩ := hv
  have hx := B.exec
  have hb := B.bytes
  have hr := B.returns
  have hts := atoms_spec (ws := wU yX7_isOver cX7_isOver 1 (some .boolean)) B.pre
  have hq : ∀ w ∈ gW, w.before args s = true := fun w hw => hts w (List.mem_cons_of_mem _ hw)
  have hcm : ∀ w ∈ gW, w ∈ wU yX7_isOver cX7_isOver 1 (some .boolean) := fun w hw => List.mem_cons_of_mem _ hw
  have hown : s.vm.findClass RX7 = some m.cls := findClass_of_methodNamed B.named
  have hlocks := B.notSynchronized
  have hF : CallFix p m c cX7_isOver 1 s args (wU yX7_isOver cX7_isOver 1 (some .boolean)) RX7 := ⟨hx, hb, hml, hown, hts⟩
  have hK := hPre.2.1
  have hZ := hPre.2.2.2
  have hw : Wd D cy shM ad nM (Aw ad nM) s.heap M s.heap [] := ⟨hPre.1, hPre.2.2.1, va_S.rf⟩
  have iw7 : ∀ w ∈ u_ws RX7 TX7 30, w ∈ wU yX7_isOver cX7_isOver 1 (some .boolean) := fun w hw => List.mem_cons_of_mem _ (iX7 w hw)
  rw [show entryFrame m args 1 = entryFrame m ([.ref (ad o0)] : List Value).toArray 1 from by rw [hargs]]
  have hl := lv_entry ([.ref (ad o0)]) (n := 1) (Nat.le_of_ble_eq_true rfl)
  rw [lg_entry_eq]
  generalize (lg_sl ([.ref (ad o0)]) ++ List.replicate (1 - (lg_sl ([.ref (ad o0)])).length) Slot.unset).toArray = ls at hl ⊢
  have hl : lv_has ls 1 [(0, .ref (ad o0))] := hl
  unfold f_X7_isOver at h
  refine lv_aload_n hx hb dX7_isOver_0 rfl (lv_at hl 0 rfl) ?_
  replace h := gd_some h
  obtain ⟨g1, h⟩ := h
  replace h := bd_some h
  obtain ⟨q2, eq2, h⟩ := h
  refine r_getR hx hb hts iw7 hown hK hw o0 0 g1 (by decide) rfl (by decide) rfl (hq _ qw890) (fun _ h9 => h9) dX7_isOver_1 eq2 ?_
  refine lv_iconst (v := (2 : Int32)) hx hb dX7_isOver_4 (by decide) ?_
  replace h := gd_some h
  obtain ⟨g3, h⟩ := h
  refine r_iald hx hb hK hw q2 g3 dX7_isOver_5 ?_
  refine lv_aload_n hx hb dX7_isOver_6 rfl (lv_at hl 0 rfl) ?_
  replace h := bd_some h
  obtain ⟨q4, eq4, h⟩ := h
  refine r_getR hx hb hts iw7 hown hK hw o0 0 g1 (by decide) rfl (by decide) rfl (hq _ qw890) (fun _ h9 => h9) dX7_isOver_7 eq4 ?_
  refine lv_iconst (v := (1 : Int32)) hx hb dX7_isOver_10 (by decide) ?_
  replace h := gd_some h
  obtain ⟨g5, h⟩ := h
  refine r_iald hx hb hK hw q4 g5 dX7_isOver_11 ?_
  refine lv_icmp_ne (tgt := 19) hx hb dX7_isOver_12 (by decide) (fun c6 => ?_) (fun c6 => ?_)
  · replace h := if_some_f c6 h
    refine lv_iconst (v := (0 : Int32)) hx hb dX7_isOver_19 (by decide) ?_
    exact r_iret hx hb hr rfl hlocks hZ hK hw h dX7_isOver_20
  · replace h := if_some_t c6 h
    refine lv_iconst (v := (1 : Int32)) hx hb dX7_isOver_15 (by decide) ?_
    refine lv_goto (tgt := 20) hx hb dX7_isOver_16 (by decide) ?_
    exact r_iret hx hb hr rfl hlocks hZ hK hw h dX7_isOver_20
theorem dX7_leader_0 : decode cX7_leader 0 = .ok (.iconst 0, 1) := by decide +kernel
theorem dX7_leader_1 : decode cX7_leader 1 = .ok (.istore_n 1, 1) := by decide +kernel
theorem dX7_leader_2 : decode cX7_leader 2 = .ok (.iconst 1, 1) := by decide +kernel
theorem dX7_leader_3 : decode cX7_leader 3 = .ok (.istore_n 2, 1) := by decide +kernel
theorem dX7_leader_4 : decode cX7_leader 4 = .ok (.iload_n 2, 1) := by decide +kernel
theorem dX7_leader_5 : decode cX7_leader 5 = .ok (.aload_n 0, 1) := by decide +kernel
theorem dX7_leader_6 : decode cX7_leader 6 = .ok (.getfield 7, 3) := by decide +kernel
theorem dX7_leader_9 : decode cX7_leader 9 = .ok (.iconst 0, 1) := by decide +kernel
theorem dX7_leader_10 : decode cX7_leader 10 = .ok (.iaload, 1) := by decide +kernel
theorem dX7_leader_11 : decode cX7_leader 11 = .ok (.if_icmp .ge 28, 3) := by decide +kernel
theorem dX7_leader_14 : decode cX7_leader 14 = .ok (.aload_n 0, 1) := by decide +kernel
theorem dX7_leader_15 : decode cX7_leader 15 = .ok (.iload_n 2, 1) := by decide +kernel
theorem dX7_leader_16 : decode cX7_leader 16 = .ok (.invokevirtual 101, 3) := by decide +kernel
theorem dX7_leader_19 : decode cX7_leader 19 = .ok (.aload_n 0, 1) := by decide +kernel
theorem dX7_leader_20 : decode cX7_leader 20 = .ok (.iload_n 1, 1) := by decide +kernel
theorem dX7_leader_21 : decode cX7_leader 21 = .ok (.invokevirtual 101, 3) := by decide +kernel
theorem dX7_leader_24 : decode cX7_leader 24 = .ok (.if_icmp .le 7, 3) := by decide +kernel
theorem dX7_leader_27 : decode cX7_leader 27 = .ok (.iload_n 2, 1) := by decide +kernel
theorem dX7_leader_28 : decode cX7_leader 28 = .ok (.goto 4, 3) := by decide +kernel
theorem dX7_leader_31 : decode cX7_leader 31 = .ok (.iload_n 1, 1) := by decide +kernel
theorem dX7_leader_32 : decode cX7_leader 32 = .ok (.istore_n 1, 1) := by decide +kernel
theorem dX7_leader_33 : decode cX7_leader 33 = .ok (.iinc 2 1, 3) := by decide +kernel
theorem dX7_leader_36 : decode cX7_leader 36 = .ok (.goto (-32), 3) := by decide +kernel
theorem dX7_leader_39 : decode cX7_leader 39 = .ok (.iload_n 1, 1) := by decide +kernel
theorem dX7_leader_40 : decode cX7_leader 40 = .ok (.ireturn, 1) := by decide +kernel
set_option maxHeartbeats 4000000 in
set_option maxRecDepth 100000 in
theorem c_X7_leader (l : Launch) (D : va_G) (cy : Nat → ClassId) (ad adK adV : Nat → Nat) (M : Mm) (o0 : Nat) (res : Mm × Int32) (h : f_X7_leader M o0 = some res) : Met l yX7_leader (wU yX7_leader cX7_leader 3 (some .int)) rmX7_leader (va_Pc [.ref (ad o0)] (Pre D cy shM ad nM adK adV M)) (va_Qi (fun r (M2 : Mm) => r = res.2 ∧ M2 = res.1) (Pre D cy shM ad nM adK adV) (Aw ad nM)) 0 0 (Aw ad nM) := by
  refine Met.ofW (cc := cX7_leader) (maxL := 3) (ret := (some .int)) (by decide) rfl ?_
  intro p e s m args below meth c s₁ B hml hv
  obtain ⟨hargs, hPre⟩ := hv
  have hx := B.exec
  have hb := B.bytes
  have hr := B.returns
  have hts := atoms_spec (ws := wU yX7_leader cX7_leader 3 (some .int)) B.pre
  have hq : ∀ w ∈ gW, w.before args s = true := fun w hw => hts w (List.mem_cons_of_mem _ hw)
  have hcm : ∀ w ∈ gW, w ∈ wU yX7_leader cX7_leader 3 (some .int) := fun w hw => List.mem_cons_of_mem _ hw
  have hown : s.vm.findClass RX7 = some m.cls := findClass_of_methodNamed B.named
  have hlocks := B.notSynchronized
  have hF : CallFix p m c cX7_leader 3 s args (wU yX7_leader cX7_leader 3 (some .int)) RX7 := ⟨hx, hb, hml, hown, hts⟩
  have hK := hPre.2.1
  have hZ := hPre.2.2.2
  have hw : Wd D cy shM ad nM (Aw ad nM) s.heap M s.heap [] := ⟨hPre.1, hPre.2.2.1, va_S.rf⟩
  have iw7 : ∀ w ∈ u_ws RX7 TX7 30, w ∈ wU yX7_leader cX7_leader 3 (some .int) := fun w hw => List.mem_cons_of_mem _ (iX7 w hw)
  rw [show entryFrame m args 3 = entryFrame m ([.ref (ad o0)] : List Value).toArray 3 from by rw [hargs]]
  have hl := lv_entry ([.ref (ad o0)]) (n := 3) (Nat.le_of_ble_eq_true rfl)
  rw [lg_entry_eq]
  generalize (lg_sl ([.ref (ad o0)]) ++ List.replicate (3 - (lg_sl ([.ref (ad o0)])).length) Slot.unset).toArray = ls at hl ⊢
  have hl : lv_has ls 3 [(0, .ref (ad o0))] := hl
  have hb32 : ∀ (k4 : Mm → Nat → Int32 → Int32 → Option (Mm × Int32)) (hk4 : ∀ (M : Mm) (x0 : Nat) (x1 : Int32) (x2 : Int32), k4 M x0 x1 x2 = some res → ∀ (H : Heap) (locs : List Loc) (ls : Array Slot), Wd D cy shM ad nM (Aw ad nM) s.heap M H locs → lv_has ls 3 [(0, .ref (ad x0)), (1, .int x1), (2, .int x2)] → W p l e (headSpec (wU yX7_leader cX7_leader 3 (some .int)) rmX7_leader).room s m args below meth c H locs 0 0 (QI D cy shM ad nM adK adV below args s res) (F0 m 4 ls [])), ∀ (M : Mm) (x0 : Nat) (x2 : Int32) (t0 : Int32), f_X7_leader_b32 k4 M x0 x2 t0 = some res → ∀ (H : Heap) (locs : List Loc) (ls : Array Slot), Wd D cy shM ad nM (Aw ad nM) s.heap M H locs → lv_has ls 3 [(0, .ref (ad x0)), (2, .int x2)] → W p l e (headSpec (wU yX7_leader cX7_leader 3 (some .int)) rmX7_leader).room s m args below meth c H locs 0 0 (QI D cy shM ad nM adK adV below args s res) (F0 m 32 ls [.int t0]) := by
    intro k4 hk4
    intro M x0 x2 t0 h H locs ls hw hl
    unfold f_X7_leader_b32 at h
    refine lv_istore_n (lv' := [(1, .int t0), (0, .ref (ad x0)), (2, .int x2)]) hx hb dX7_leader_32 rfl hl (by decide) rfl (fun ls hl => ?_)
    refine lv_iinc (v := x2 + (1 : Int32)) (lv' := [(2, .int (x2 + (1 : Int32))), (1, .int t0), (0, .ref (ad x0))]) hx hb dX7_leader_33 hl (k := 2) rfl (congrArg (fun z => x2 + z) (by decide)) (by decide) rfl (fun ls hl => ?_)
    refine lv_goto (tgt := 4) hx hb dX7_leader_36 (by decide) ?_
    exact hk4 _ _ _ _ h _ _ _ hw (lv_sub hl [2, 1, 0] rfl)
  have hb4 : ∀ (nn : Nat), ∀ (M : Mm) (x0 : Nat) (x1 : Int32) (x2 : Int32), f_X7_leader_b4 nn M x0 x1 x2 = some res → ∀ (H : Heap) (locs : List Loc) (ls : Array Slot), Wd D cy shM ad nM (Aw ad nM) s.heap M H locs → lv_has ls 3 [(0, .ref (ad x0)), (1, .int x1), (2, .int x2)] → W p l e (headSpec (wU yX7_leader cX7_leader 3 (some .int)) rmX7_leader).room s m args below meth c H locs 0 0 (QI D cy shM ad nM adK adV below args s res) (F0 m 4 ls []) := by
    intro nn
    induction nn with
    | zero => intro M x0 x1 x2 h; simp [f_X7_leader_b4] at h
    | succ nn ih =>
      intro M x0 x1 x2 h H locs ls hw hl
      unfold f_X7_leader_b4 at h
      refine lv_iload_n hx hb dX7_leader_4 rfl (lv_at hl 2 rfl) ?_
      refine lv_aload_n hx hb dX7_leader_5 rfl (lv_at hl 0 rfl) ?_
      replace h := gd_some h
      obtain ⟨g1, h⟩ := h
      replace h := bd_some h
      obtain ⟨q2, eq2, h⟩ := h
      refine r_getR hx hb hts iw7 hown hK hw x0 0 g1 (by decide) rfl (by decide) rfl (hq _ qw890) (fun _ h9 => h9) dX7_leader_6 eq2 ?_
      refine lv_iconst (v := (0 : Int32)) hx hb dX7_leader_9 (by decide) ?_
      replace h := gd_some h
      obtain ⟨g3, h⟩ := h
      refine r_iald hx hb hK hw q2 g3 dX7_leader_10 ?_
      refine lv_icmp_ge (tgt := 39) hx hb dX7_leader_11 (by decide) (fun c4 => ?_) (fun c4 => ?_)
      · replace h := if_some_t c4 h
        refine lv_iload_n hx hb dX7_leader_39 rfl (lv_at hl 1 rfl) ?_
        exact r_iret hx hb hr rfl hlocks hZ hK hw h dX7_leader_40
      · replace h := if_some_f c4 h
        refine lv_aload_n hx hb dX7_leader_14 rfl (lv_at hl 0 rfl) ?_
        refine lv_iload_n hx hb dX7_leader_15 rfl (lv_at hl 2 rfl) ?_
        replace h := bd_some h
        obtain ⟨r5, er5, h⟩ := h
        refine r_callVi (As := [.int x2]) (rest := []) hF (c_X7_points l D cy ad adK adV M x0 x2 r5 er5) (gW_goodV hcm qw1008 qw1005 qw1007 qw22 qw68) hdX7_points rfl ⟨Nat.le_of_ble_eq_true rfl, Nat.le_of_ble_eq_true rfl⟩ rfl rfl hZ hK hw g1 (by decide) rfl rfl hl.1 rfl (Nat.le_of_ble_eq_true rfl) ⟨Nat.zero_le _, Nat.zero_le _⟩ dX7_leader_16 (fun H locs hw => ?_)
        refine lv_aload_n hx hb dX7_leader_19 rfl (lv_at hl 0 rfl) ?_
        refine lv_iload_n hx hb dX7_leader_20 rfl (lv_at hl 1 rfl) ?_
        replace h := bd_some h
        obtain ⟨r6, er6, h⟩ := h
        refine r_callVi (As := [.int x1]) (rest := [.int r5.2]) hF (c_X7_points l D cy ad adK adV r5.1 x0 x1 r6 er6) (gW_goodV hcm qw1008 qw1005 qw1007 qw22 qw68) hdX7_points rfl ⟨Nat.le_of_ble_eq_true rfl, Nat.le_of_ble_eq_true rfl⟩ rfl rfl hZ hK hw g1 (by decide) rfl rfl hl.1 rfl (Nat.le_of_ble_eq_true rfl) ⟨Nat.zero_le _, Nat.zero_le _⟩ dX7_leader_21 (fun H locs hw => ?_)
        refine lv_icmp_le (tgt := 31) hx hb dX7_leader_24 (by decide) (fun c7 => ?_) (fun c7 => ?_)
        · replace h := if_some_t c7 h
          refine lv_iload_n hx hb dX7_leader_31 rfl (lv_at hl 1 rfl) ?_
          exact hb32 _ ih _ _ _ _ h _ _ _ hw (lv_sub hl [0, 2] rfl)
        · replace h := if_some_f c7 h
          refine lv_iload_n hx hb dX7_leader_27 rfl (lv_at hl 2 rfl) ?_
          refine lv_goto (tgt := 32) hx hb dX7_leader_28 (by decide) ?_
          exact hb32 _ ih _ _ _ _ h _ _ _ hw (lv_sub hl [0, 2] rfl)
  unfold f_X7_leader at h
  refine lv_iconst (v := (0 : Int32)) hx hb dX7_leader_0 (by decide) ?_
  refine lv_istore_n (lv' := [(1, .int (0 : Int32)), (0, .ref (ad o0))]) hx hb dX7_leader_1 rfl hl (by decide) rfl (fun ls hl => ?_)
  refine lv_iconst (v := (1 : Int32)) hx hb dX7_leader_2 (by decide) ?_
  refine lv_istore_n (lv' := [(2, .int (1 : Int32)), (1, .int (0 : Int32)), (0, .ref (ad o0))]) hx hb dX7_leader_3 rfl hl (by decide) rfl (fun ls hl => ?_)
  exact hb4 1000 _ _ _ _ h _ _ _ hw (lv_sub hl [2, 1, 0] rfl)
theorem dX7_addSide_0 : decode cX7_addSide 0 = .ok (.iconst 5, 1) := by decide +kernel
theorem dX7_addSide_1 : decode cX7_addSide 1 = .ok (.iconst 3, 1) := by decide +kernel
theorem dX7_addSide_2 : decode cX7_addSide 2 = .ok (.aload_n 0, 1) := by decide +kernel
theorem dX7_addSide_3 : decode cX7_addSide 3 = .ok (.getfield 7, 3) := by decide +kernel
theorem dX7_addSide_6 : decode cX7_addSide 6 = .ok (.iconst 0, 1) := by decide +kernel
theorem dX7_addSide_7 : decode cX7_addSide 7 = .ok (.iaload, 1) := by decide +kernel
theorem dX7_addSide_8 : decode cX7_addSide 8 = .ok (.imul, 1) := by decide +kernel
theorem dX7_addSide_9 : decode cX7_addSide 9 = .ok (.iadd, 1) := by decide +kernel
theorem dX7_addSide_10 : decode cX7_addSide 10 = .ok (.istore 4, 2) := by decide +kernel
theorem dX7_addSide_12 : decode cX7_addSide 12 = .ok (.aload_n 0, 1) := by decide +kernel
theorem dX7_addSide_13 : decode cX7_addSide 13 = .ok (.getfield 7, 3) := by decide +kernel
theorem dX7_addSide_16 : decode cX7_addSide 16 = .ok (.iload 4, 2) := by decide +kernel
theorem dX7_addSide_18 : decode cX7_addSide 18 = .ok (.iconst 0, 1) := by decide +kernel
theorem dX7_addSide_19 : decode cX7_addSide 19 = .ok (.iadd, 1) := by decide +kernel
theorem dX7_addSide_20 : decode cX7_addSide 20 = .ok (.iload_n 1, 1) := by decide +kernel
theorem dX7_addSide_21 : decode cX7_addSide 21 = .ok (.iastore, 1) := by decide +kernel
theorem dX7_addSide_22 : decode cX7_addSide 22 = .ok (.aload_n 0, 1) := by decide +kernel
theorem dX7_addSide_23 : decode cX7_addSide 23 = .ok (.getfield 7, 3) := by decide +kernel
theorem dX7_addSide_26 : decode cX7_addSide 26 = .ok (.iload 4, 2) := by decide +kernel
theorem dX7_addSide_28 : decode cX7_addSide 28 = .ok (.iconst 1, 1) := by decide +kernel
theorem dX7_addSide_29 : decode cX7_addSide 29 = .ok (.iadd, 1) := by decide +kernel
theorem dX7_addSide_30 : decode cX7_addSide 30 = .ok (.iload_n 2, 1) := by decide +kernel
theorem dX7_addSide_31 : decode cX7_addSide 31 = .ok (.iastore, 1) := by decide +kernel
theorem dX7_addSide_32 : decode cX7_addSide 32 = .ok (.aload_n 0, 1) := by decide +kernel
theorem dX7_addSide_33 : decode cX7_addSide 33 = .ok (.getfield 7, 3) := by decide +kernel
theorem dX7_addSide_36 : decode cX7_addSide 36 = .ok (.iload 4, 2) := by decide +kernel
theorem dX7_addSide_38 : decode cX7_addSide 38 = .ok (.iconst 2, 1) := by decide +kernel
theorem dX7_addSide_39 : decode cX7_addSide 39 = .ok (.iadd, 1) := by decide +kernel
theorem dX7_addSide_40 : decode cX7_addSide 40 = .ok (.iload_n 3, 1) := by decide +kernel
theorem dX7_addSide_41 : decode cX7_addSide 41 = .ok (.iastore, 1) := by decide +kernel
theorem dX7_addSide_42 : decode cX7_addSide 42 = .ok (.aload_n 0, 1) := by decide +kernel
theorem dX7_addSide_43 : decode cX7_addSide 43 = .ok (.getfield 7, 3) := by decide +kernel
theorem dX7_addSide_46 : decode cX7_addSide 46 = .ok (.iconst 0, 1) := by decide +kernel
theorem dX7_addSide_47 : decode cX7_addSide 47 = .ok (.dup2, 1) := by decide +kernel
theorem dX7_addSide_48 : decode cX7_addSide 48 = .ok (.iaload, 1) := by decide +kernel
theorem dX7_addSide_49 : decode cX7_addSide 49 = .ok (.iconst 1, 1) := by decide +kernel
theorem dX7_addSide_50 : decode cX7_addSide 50 = .ok (.iadd, 1) := by decide +kernel
theorem dX7_addSide_51 : decode cX7_addSide 51 = .ok (.iastore, 1) := by decide +kernel
theorem dX7_addSide_52 : decode cX7_addSide 52 = .ok (.return_, 1) := by decide +kernel
set_option maxHeartbeats 4000000 in
set_option maxRecDepth 100000 in
theorem c_X7_addSide (l : Launch) (D : va_G) (cy : Nat → ClassId) (ad adK adV : Nat → Nat) (M : Mm) (o0 : Nat) (a1 : Int32) (a2 : Int32) (a3 : Int32) (res : Mm × Unit) (h : f_X7_addSide M o0 a1 a2 a3 = some res) : Met l yX7_addSide (wU yX7_addSide cX7_addSide 5 none) rmX7_addSide (va_Pc [.ref (ad o0), .int a1, .int a2, .int a3] (Pre D cy shM ad nM adK adV M)) (va_Qv (fun (M2 : Mm) => M2 = res.1) (Pre D cy shM ad nM adK adV) (Aw ad nM)) 0 0 (Aw ad nM) := by
  refine Met.ofW (cc := cX7_addSide) (maxL := 5) (ret := none) (by decide) rfl ?_
  intro p e s m args below meth c s₁ B hml hv
  obtain ⟨hargs, hPre⟩ := hv
  have hx := B.exec
  have hb := B.bytes
  have hr := B.returns
  have hts := atoms_spec (ws := wU yX7_addSide cX7_addSide 5 none) B.pre
  have hq : ∀ w ∈ gW, w.before args s = true := fun w hw => hts w (List.mem_cons_of_mem _ hw)
  have hcm : ∀ w ∈ gW, w ∈ wU yX7_addSide cX7_addSide 5 none := fun w hw => List.mem_cons_of_mem _ hw
  have hown : s.vm.findClass RX7 = some m.cls := findClass_of_methodNamed B.named
  have hlocks := B.notSynchronized
  have hF : CallFix p m c cX7_addSide 5 s args (wU yX7_addSide cX7_addSide 5 none) RX7 := ⟨hx, hb, hml, hown, hts⟩
  have hK := hPre.2.1
  have hZ := hPre.2.2.2
  have hw : Wd D cy shM ad nM (Aw ad nM) s.heap M s.heap [] := ⟨hPre.1, hPre.2.2.1, va_S.rf⟩
  have iw7 : ∀ w ∈ u_ws RX7 TX7 30, w ∈ wU yX7_addSide cX7_addSide 5 none := fun w hw => List.mem_cons_of_mem _ (iX7 w hw)
  rw [show entryFrame m args 5 = entryFrame m ([.ref (ad o0), .int a1, .int a2, .int a3] : List Value).toArray 5 from by rw [hargs]]
  have hl := lv_entry ([.ref (ad o0), .int a1, .int a2, .int a3]) (n := 5) (Nat.le_of_ble_eq_true rfl)
  rw [lg_entry_eq]
  generalize (lg_sl ([.ref (ad o0), .int a1, .int a2, .int a3]) ++ List.replicate (5 - (lg_sl ([.ref (ad o0), .int a1, .int a2, .int a3])).length) Slot.unset).toArray = ls at hl ⊢
  have hl : lv_has ls 5 [(0, .ref (ad o0)), (1, .int a1), (2, .int a2), (3, .int a3)] := hl
  unfold f_X7_addSide at h
  refine lv_iconst (v := (5 : Int32)) hx hb dX7_addSide_0 (by decide) ?_
  refine lv_iconst (v := (3 : Int32)) hx hb dX7_addSide_1 (by decide) ?_
  refine lv_aload_n hx hb dX7_addSide_2 rfl (lv_at hl 0 rfl) ?_
  replace h := gd_some h
  obtain ⟨g1, h⟩ := h
  replace h := bd_some h
  obtain ⟨q2, eq2, h⟩ := h
  refine r_getR hx hb hts iw7 hown hK hw o0 0 g1 (by decide) rfl (by decide) rfl (hq _ qw890) (fun _ h9 => h9) dX7_addSide_3 eq2 ?_
  refine lv_iconst (v := (0 : Int32)) hx hb dX7_addSide_6 (by decide) ?_
  replace h := gd_some h
  obtain ⟨g3, h⟩ := h
  refine r_iald hx hb hK hw q2 g3 dX7_addSide_7 ?_
  refine lv_imul hx hb dX7_addSide_8 ?_
  refine lv_iadd hx hb dX7_addSide_9 ?_
  refine lv_topi (fun y4 ey4 => ?_)
  replace h := lt_at ey4 h
  refine lv_istore (lv' := [(4, .int y4), (0, .ref (ad o0)), (1, .int a1), (2, .int a2), (3, .int a3)]) hx hb dX7_addSide_10 hl (by decide) rfl (fun ls hl => ?_)
  refine lv_aload_n hx hb dX7_addSide_12 rfl (lv_at hl 1 rfl) ?_
  replace h := bd_some h
  obtain ⟨q5, eq5, h⟩ := h
  refine r_getR hx hb hts iw7 hown hK hw o0 0 g1 (by decide) rfl (by decide) rfl (hq _ qw890) (fun _ h9 => h9) dX7_addSide_13 eq5 ?_
  refine lv_iload hx hb dX7_addSide_16 (lv_at hl 0 rfl) ?_
  refine lv_iconst (v := (0 : Int32)) hx hb dX7_addSide_18 (by decide) ?_
  refine lv_iadd hx hb dX7_addSide_19 ?_
  refine lv_iload_n hx hb dX7_addSide_20 rfl (lv_at hl 2 rfl) ?_
  replace h := gd_some h
  obtain ⟨g6, h⟩ := h
  refine r_iast hx hb hK hw q5 g6 dX7_addSide_21 (fun H locs hw => ?_)
  replace h := lt_some h
  obtain ⟨M7, eM7, h⟩ := h
  rw [← eM7] at hw
  refine lv_aload_n hx hb dX7_addSide_22 rfl (lv_at hl 1 rfl) ?_
  replace h := bd_some h
  obtain ⟨q8, eq8, h⟩ := h
  refine r_getR hx hb hts iw7 hown hK hw o0 0 g1 (by decide) rfl (by decide) rfl (hq _ qw890) (fun _ h9 => h9) dX7_addSide_23 eq8 ?_
  refine lv_iload hx hb dX7_addSide_26 (lv_at hl 0 rfl) ?_
  refine lv_iconst (v := (1 : Int32)) hx hb dX7_addSide_28 (by decide) ?_
  refine lv_iadd hx hb dX7_addSide_29 ?_
  refine lv_iload_n hx hb dX7_addSide_30 rfl (lv_at hl 3 rfl) ?_
  replace h := gd_some h
  obtain ⟨g9, h⟩ := h
  refine r_iast hx hb hK hw q8 g9 dX7_addSide_31 (fun H locs hw => ?_)
  replace h := lt_some h
  obtain ⟨M10, eM10, h⟩ := h
  rw [← eM10] at hw
  refine lv_aload_n hx hb dX7_addSide_32 rfl (lv_at hl 1 rfl) ?_
  replace h := bd_some h
  obtain ⟨q11, eq11, h⟩ := h
  refine r_getR hx hb hts iw7 hown hK hw o0 0 g1 (by decide) rfl (by decide) rfl (hq _ qw890) (fun _ h9 => h9) dX7_addSide_33 eq11 ?_
  refine lv_iload hx hb dX7_addSide_36 (lv_at hl 0 rfl) ?_
  refine lv_iconst (v := (2 : Int32)) hx hb dX7_addSide_38 (by decide) ?_
  refine lv_iadd hx hb dX7_addSide_39 ?_
  refine lv_iload_n hx hb dX7_addSide_40 rfl (lv_at hl 4 rfl) ?_
  replace h := gd_some h
  obtain ⟨g12, h⟩ := h
  refine r_iast hx hb hK hw q11 g12 dX7_addSide_41 (fun H locs hw => ?_)
  replace h := lt_some h
  obtain ⟨M13, eM13, h⟩ := h
  rw [← eM13] at hw
  refine lv_aload_n hx hb dX7_addSide_42 rfl (lv_at hl 1 rfl) ?_
  replace h := bd_some h
  obtain ⟨q14, eq14, h⟩ := h
  refine r_getR hx hb hts iw7 hown hK hw o0 0 g1 (by decide) rfl (by decide) rfl (hq _ qw890) (fun _ h9 => h9) dX7_addSide_43 eq14 ?_
  refine lv_iconst (v := (0 : Int32)) hx hb dX7_addSide_46 (by decide) ?_
  refine lv_dup2_11 hx hb dX7_addSide_47 rfl rfl ?_
  replace h := gd_some h
  obtain ⟨g15, h⟩ := h
  refine r_iald hx hb hK hw q14 g15 dX7_addSide_48 ?_
  refine lv_iconst (v := (1 : Int32)) hx hb dX7_addSide_49 (by decide) ?_
  refine lv_iadd hx hb dX7_addSide_50 ?_
  replace h := gd_some h
  obtain ⟨g16, h⟩ := h
  refine r_iast hx hb hK hw q14 g16 dX7_addSide_51 (fun H locs hw => ?_)
  replace h := lt_some h
  obtain ⟨M17, eM17, h⟩ := h
  rw [← eM17] at hw
  exact r_vret hx hb hr hlocks hZ hK hw h dX7_addSide_52
theorem dX7_side_0 : decode cX7_side 0 = .ok (.iload_n 1, 1) := by decide +kernel
theorem dX7_side_1 : decode cX7_side 1 = .ok (.iconst 0, 1) := by decide +kernel
theorem dX7_side_2 : decode cX7_side 2 = .ok (.bipush 6, 2) := by decide +kernel
theorem dX7_side_4 : decode cX7_side 4 = .ok (.invokestatic 67, 3) := by decide +kernel
theorem dX7_side_7 : decode cX7_side 7 = .ok (.ifCond .eq 13, 3) := by decide +kernel
theorem dX7_side_10 : decode cX7_side 10 = .ok (.iload_n 2, 1) := by decide +kernel
theorem dX7_side_11 : decode cX7_side 11 = .ok (.iconst 1, 1) := by decide +kernel
theorem dX7_side_12 : decode cX7_side 12 = .ok (.bipush 9, 2) := by decide +kernel
theorem dX7_side_14 : decode cX7_side 14 = .ok (.invokestatic 67, 3) := by decide +kernel
theorem dX7_side_17 : decode cX7_side 17 = .ok (.ifCond .ne 9, 3) := by decide +kernel
theorem dX7_side_20 : decode cX7_side 20 = .ok (.aload_n 0, 1) := by decide +kernel
theorem dX7_side_21 : decode cX7_side 21 = .ok (.iconst 0, 1) := by decide +kernel
theorem dX7_side_22 : decode cX7_side 22 = .ok (.invokevirtual 115, 3) := by decide +kernel
theorem dX7_side_25 : decode cX7_side 25 = .ok (.ireturn, 1) := by decide +kernel
theorem dX7_side_26 : decode cX7_side 26 = .ok (.aload_n 0, 1) := by decide +kernel
theorem dX7_side_27 : decode cX7_side 27 = .ok (.getfield 7, 3) := by decide +kernel
theorem dX7_side_30 : decode cX7_side 30 = .ok (.iconst 0, 1) := by decide +kernel
theorem dX7_side_31 : decode cX7_side 31 = .ok (.iaload, 1) := by decide +kernel
theorem dX7_side_32 : decode cX7_side 32 = .ok (.bipush 6, 2) := by decide +kernel
theorem dX7_side_34 : decode cX7_side 34 = .ok (.if_icmp .ne 9, 3) := by decide +kernel
theorem dX7_side_37 : decode cX7_side 37 = .ok (.aload_n 0, 1) := by decide +kernel
theorem dX7_side_38 : decode cX7_side 38 = .ok (.iconst 1, 1) := by decide +kernel
theorem dX7_side_39 : decode cX7_side 39 = .ok (.invokevirtual 115, 3) := by decide +kernel
theorem dX7_side_42 : decode cX7_side 42 = .ok (.ireturn, 1) := by decide +kernel
theorem dX7_side_43 : decode cX7_side 43 = .ok (.aload_n 0, 1) := by decide +kernel
theorem dX7_side_44 : decode cX7_side 44 = .ok (.iload_n 1, 1) := by decide +kernel
theorem dX7_side_45 : decode cX7_side 45 = .ok (.iload_n 2, 1) := by decide +kernel
theorem dX7_side_46 : decode cX7_side 46 = .ok (.iconst 0, 1) := by decide +kernel
theorem dX7_side_47 : decode cX7_side 47 = .ok (.invokevirtual 118, 3) := by decide +kernel
theorem dX7_side_50 : decode cX7_side 50 = .ok (.aload_n 0, 1) := by decide +kernel
theorem dX7_side_51 : decode cX7_side 51 = .ok (.getfield 7, 3) := by decide +kernel
theorem dX7_side_54 : decode cX7_side 54 = .ok (.iconst 0, 1) := by decide +kernel
theorem dX7_side_55 : decode cX7_side 55 = .ok (.iaload, 1) := by decide +kernel
theorem dX7_side_56 : decode cX7_side 56 = .ok (.iconst 1, 1) := by decide +kernel
theorem dX7_side_57 : decode cX7_side 57 = .ok (.isub, 1) := by decide +kernel
theorem dX7_side_58 : decode cX7_side 58 = .ok (.ireturn, 1) := by decide +kernel
set_option maxHeartbeats 4000000 in
set_option maxRecDepth 100000 in
theorem c_X7_side (l : Launch) (D : va_G) (cy : Nat → ClassId) (ad adK adV : Nat → Nat) (M : Mm) (o0 : Nat) (a1 : Int32) (a2 : Int32) (res : Mm × Int32) (h : f_X7_side M o0 a1 a2 = some res) : Met l yX7_side (wU yX7_side cX7_side 3 (some .int)) rmX7_side (va_Pc [.ref (ad o0), .int a1, .int a2] (Pre D cy shM ad nM adK adV M)) (va_Qi (fun r (M2 : Mm) => r = res.2 ∧ M2 = res.1) (Pre D cy shM ad nM adK adV) (Aw ad nM)) 0 0 (Aw ad nM) := by
  refine Met.ofW (cc := cX7_side) (maxL := 3) (ret := (some .int)) (by decide) rfl ?_
  intro p e s m args below meth c s₁ B hml hv
  obtain ⟨hargs, hPre⟩ := hv
  have hx := B.exec
  have hb := B.bytes
  have hr := B.returns
  have hts := atoms_spec (ws := wU yX7_side cX7_side 3 (some .int)) B.pre
  have hq : ∀ w ∈ gW, w.before args s = true := fun w hw => hts w (List.mem_cons_of_mem _ hw)
  have hcm : ∀ w ∈ gW, w ∈ wU yX7_side cX7_side 3 (some .int) := fun w hw => List.mem_cons_of_mem _ hw
  have hown : s.vm.findClass RX7 = some m.cls := findClass_of_methodNamed B.named
  have hlocks := B.notSynchronized
  have hF : CallFix p m c cX7_side 3 s args (wU yX7_side cX7_side 3 (some .int)) RX7 := ⟨hx, hb, hml, hown, hts⟩
  have hK := hPre.2.1
  have hZ := hPre.2.2.2
  have hw : Wd D cy shM ad nM (Aw ad nM) s.heap M s.heap [] := ⟨hPre.1, hPre.2.2.1, va_S.rf⟩
  have iw7 : ∀ w ∈ u_ws RX7 TX7 30, w ∈ wU yX7_side cX7_side 3 (some .int) := fun w hw => List.mem_cons_of_mem _ (iX7 w hw)
  rw [show entryFrame m args 3 = entryFrame m ([.ref (ad o0), .int a1, .int a2] : List Value).toArray 3 from by rw [hargs]]
  have hl := lv_entry ([.ref (ad o0), .int a1, .int a2]) (n := 3) (Nat.le_of_ble_eq_true rfl)
  rw [lg_entry_eq]
  generalize (lg_sl ([.ref (ad o0), .int a1, .int a2]) ++ List.replicate (3 - (lg_sl ([.ref (ad o0), .int a1, .int a2])).length) Slot.unset).toArray = ls at hl ⊢
  have hl : lv_has ls 3 [(0, .ref (ad o0)), (1, .int a1), (2, .int a2)] := hl
  have hb20 : ∀ (M : Mm) (x0 : Nat), f_X7_side_b20 M x0 = some res → ∀ (H : Heap) (locs : List Loc) (ls : Array Slot), Wd D cy shM ad nM (Aw ad nM) s.heap M H locs → lv_has ls 3 [(0, .ref (ad x0))] → W p l e (headSpec (wU yX7_side cX7_side 3 (some .int)) rmX7_side).room s m args below meth c H locs 0 0 (QI D cy shM ad nM adK adV below args s res) (F0 m 20 ls []) := by
    intro M x0 h H locs ls hw hl
    unfold f_X7_side_b20 at h
    refine lv_aload_n hx hb dX7_side_20 rfl (lv_at hl 0 rfl) ?_
    refine lv_iconst (v := (0 : Int32)) hx hb dX7_side_21 (by decide) ?_
    replace h := gd_some h
    obtain ⟨g2, h⟩ := h
    replace h := bd_some h
    obtain ⟨r1, er1, h⟩ := h
    refine r_callVi (As := [.int (0 : Int32)]) (rest := []) hF (c_X7_finding l D cy ad adK adV M x0 (0 : Int32) r1 er1) (gW_goodV hcm qw991 qw988 qw990 qw19 qw68) hdX7_finding rfl ⟨Nat.le_of_ble_eq_true rfl, Nat.le_of_ble_eq_true rfl⟩ rfl rfl hZ hK hw g2 (by decide) rfl rfl hl.1 rfl (Nat.le_of_ble_eq_true rfl) ⟨Nat.zero_le _, Nat.zero_le _⟩ dX7_side_22 (fun H locs hw => ?_)
    exact r_iret hx hb hr rfl hlocks hZ hK hw h dX7_side_25
  unfold f_X7_side at h
  refine lv_iload_n hx hb dX7_side_0 rfl (lv_at hl 1 rfl) ?_
  refine lv_iconst (v := (0 : Int32)) hx hb dX7_side_1 (by decide) ?_
  refine lv_bipush (v := (6 : Int32)) hx hb dX7_side_2 (by decide) ?_
  replace h := bd_some h
  obtain ⟨r3, er3, h⟩ := h
  refine r_callSi (As := [.int a1, .int (0 : Int32), .int (6 : Int32)]) (rest := []) hF (c_X7_in l D cy ad adK adV M a1 (0 : Int32) (6 : Int32) r3 er3) (gW_goodS hcm qw987 qw985 qw986 qw68) hdX7_in ⟨Nat.le_of_ble_eq_true rfl, Nat.le_of_ble_eq_true rfl⟩ rfl rfl hZ hK hw rfl hl.1 rfl (Nat.le_of_ble_eq_true rfl) ⟨Nat.zero_le _, Nat.zero_le _⟩ dX7_side_4 (fun H locs hw => ?_)
  refine lv_if_eq (tgt := 20) hx hb dX7_side_7 (by decide) (fun c4 => ?_) (fun c4 => ?_)
  · replace h := if_some_t c4 h
    exact hb20 _ _ h _ _ _ hw (lv_sub hl [0] rfl)
  · replace h := if_some_f c4 h
    refine lv_iload_n hx hb dX7_side_10 rfl (lv_at hl 2 rfl) ?_
    refine lv_iconst (v := (1 : Int32)) hx hb dX7_side_11 (by decide) ?_
    refine lv_bipush (v := (9 : Int32)) hx hb dX7_side_12 (by decide) ?_
    replace h := bd_some h
    obtain ⟨r5, er5, h⟩ := h
    refine r_callSi (As := [.int a2, .int (1 : Int32), .int (9 : Int32)]) (rest := []) hF (c_X7_in l D cy ad adK adV r3.1 a2 (1 : Int32) (9 : Int32) r5 er5) (gW_goodS hcm qw987 qw985 qw986 qw68) hdX7_in ⟨Nat.le_of_ble_eq_true rfl, Nat.le_of_ble_eq_true rfl⟩ rfl rfl hZ hK hw rfl hl.1 rfl (Nat.le_of_ble_eq_true rfl) ⟨Nat.zero_le _, Nat.zero_le _⟩ dX7_side_14 (fun H locs hw => ?_)
    refine lv_if_ne (tgt := 26) hx hb dX7_side_17 (by decide) (fun c6 => ?_) (fun c6 => ?_)
    · replace h := if_some_f c6 h
      refine lv_aload_n hx hb dX7_side_26 rfl (lv_at hl 0 rfl) ?_
      replace h := gd_some h
      obtain ⟨g7, h⟩ := h
      replace h := bd_some h
      obtain ⟨q8, eq8, h⟩ := h
      refine r_getR hx hb hts iw7 hown hK hw o0 0 g7 (by decide) rfl (by decide) rfl (hq _ qw890) (fun _ h9 => h9) dX7_side_27 eq8 ?_
      refine lv_iconst (v := (0 : Int32)) hx hb dX7_side_30 (by decide) ?_
      replace h := gd_some h
      obtain ⟨g9, h⟩ := h
      refine r_iald hx hb hK hw q8 g9 dX7_side_31 ?_
      refine lv_bipush (v := (6 : Int32)) hx hb dX7_side_32 (by decide) ?_
      refine lv_icmp_ne (tgt := 43) hx hb dX7_side_34 (by decide) (fun c10 => ?_) (fun c10 => ?_)
      · replace h := if_some_f c10 h
        refine lv_aload_n hx hb dX7_side_43 rfl (lv_at hl 0 rfl) ?_
        refine lv_iload_n hx hb dX7_side_44 rfl (lv_at hl 1 rfl) ?_
        refine lv_iload_n hx hb dX7_side_45 rfl (lv_at hl 2 rfl) ?_
        refine lv_iconst (v := (0 : Int32)) hx hb dX7_side_46 (by decide) ?_
        replace h := bd_some h
        obtain ⟨r11, er11, h⟩ := h
        refine r_callVv (As := [.int a1, .int a2, .int (0 : Int32)]) (rest := []) hF (c_X7_addSide l D cy ad adK adV r5.1 o0 a1 a2 (0 : Int32) r11 er11) (gW_goodV hcm qw996 qw993 qw995 qw20 qw68) hdX7_addSide rfl ⟨Nat.le_of_ble_eq_true rfl, Nat.le_of_ble_eq_true rfl⟩ rfl rfl hZ hK hw g7 (by decide) rfl rfl hl.1 rfl (Nat.le_of_ble_eq_true rfl) ⟨Nat.zero_le _, Nat.zero_le _⟩ dX7_side_47 (fun H locs hw => ?_)
        refine lv_aload_n hx hb dX7_side_50 rfl (lv_at hl 0 rfl) ?_
        replace h := bd_some h
        obtain ⟨q12, eq12, h⟩ := h
        refine r_getR hx hb hts iw7 hown hK hw o0 0 g7 (by decide) rfl (by decide) rfl (hq _ qw890) (fun _ h9 => h9) dX7_side_51 eq12 ?_
        refine lv_iconst (v := (0 : Int32)) hx hb dX7_side_54 (by decide) ?_
        replace h := gd_some h
        obtain ⟨g13, h⟩ := h
        refine r_iald hx hb hK hw q12 g13 dX7_side_55 ?_
        refine lv_iconst (v := (1 : Int32)) hx hb dX7_side_56 (by decide) ?_
        refine lv_isub hx hb dX7_side_57 ?_
        exact r_iret hx hb hr rfl hlocks hZ hK hw h dX7_side_58
      · replace h := if_some_t c10 h
        refine lv_aload_n hx hb dX7_side_37 rfl (lv_at hl 0 rfl) ?_
        refine lv_iconst (v := (1 : Int32)) hx hb dX7_side_38 (by decide) ?_
        replace h := bd_some h
        obtain ⟨r14, er14, h⟩ := h
        refine r_callVi (As := [.int (1 : Int32)]) (rest := []) hF (c_X7_finding l D cy ad adK adV r5.1 o0 (1 : Int32) r14 er14) (gW_goodV hcm qw991 qw988 qw990 qw19 qw68) hdX7_finding rfl ⟨Nat.le_of_ble_eq_true rfl, Nat.le_of_ble_eq_true rfl⟩ rfl rfl hZ hK hw g7 (by decide) rfl rfl hl.1 rfl (Nat.le_of_ble_eq_true rfl) ⟨Nat.zero_le _, Nat.zero_le _⟩ dX7_side_39 (fun H locs hw => ?_)
        exact r_iret hx hb hr rfl hlocks hZ hK hw h dX7_side_42
    · replace h := if_some_t c6 h
      exact hb20 _ _ h _ _ _ hw (lv_sub hl [0] rfl)
theorem dX7_games_0 : decode cX7_games 0 = .ok (.iconst 0, 1) := by decide +kernel
theorem dX7_games_1 : decode cX7_games 1 = .ok (.istore_n 3, 1) := by decide +kernel
theorem dX7_games_2 : decode cX7_games 2 = .ok (.iconst 0, 1) := by decide +kernel
theorem dX7_games_3 : decode cX7_games 3 = .ok (.istore 4, 2) := by decide +kernel
theorem dX7_games_5 : decode cX7_games 5 = .ok (.iload 4, 2) := by decide +kernel
theorem dX7_games_7 : decode cX7_games 7 = .ok (.aload_n 0, 1) := by decide +kernel
theorem dX7_games_8 : decode cX7_games 8 = .ok (.getfield 7, 3) := by decide +kernel
theorem dX7_games_11 : decode cX7_games 11 = .ok (.iconst 2, 1) := by decide +kernel
theorem dX7_games_12 : decode cX7_games 12 = .ok (.iaload, 1) := by decide +kernel
theorem dX7_games_13 : decode cX7_games 13 = .ok (.if_icmp .ge 42, 3) := by decide +kernel
theorem dX7_games_16 : decode cX7_games 16 = .ok (.iload_n 3, 1) := by decide +kernel
theorem dX7_games_17 : decode cX7_games 17 = .ok (.aload_n 0, 1) := by decide +kernel
theorem dX7_games_18 : decode cX7_games 18 = .ok (.iload_n 1, 1) := by decide +kernel
theorem dX7_games_19 : decode cX7_games 19 = .ok (.iload 4, 2) := by decide +kernel
theorem dX7_games_21 : decode cX7_games 21 = .ok (.invokevirtual 75, 3) := by decide +kernel
theorem dX7_games_24 : decode cX7_games 24 = .ok (.ifCond .eq 22, 3) := by decide +kernel
theorem dX7_games_27 : decode cX7_games 27 = .ok (.iload_n 2, 1) := by decide +kernel
theorem dX7_games_28 : decode cX7_games 28 = .ok (.ifCond .eq 14, 3) := by decide +kernel
theorem dX7_games_31 : decode cX7_games 31 = .ok (.aload_n 0, 1) := by decide +kernel
theorem dX7_games_32 : decode cX7_games 32 = .ok (.iload 4, 2) := by decide +kernel
theorem dX7_games_34 : decode cX7_games 34 = .ok (.iconst 4, 1) := by decide +kernel
theorem dX7_games_35 : decode cX7_games 35 = .ok (.invokevirtual 71, 3) := by decide +kernel
theorem dX7_games_38 : decode cX7_games 38 = .ok (.iload_n 1, 1) := by decide +kernel
theorem dX7_games_39 : decode cX7_games 39 = .ok (.if_icmp .ne 7, 3) := by decide +kernel
theorem dX7_games_42 : decode cX7_games 42 = .ok (.iconst 1, 1) := by decide +kernel
theorem dX7_games_43 : decode cX7_games 43 = .ok (.goto 4, 3) := by decide +kernel
theorem dX7_games_46 : decode cX7_games 46 = .ok (.iconst 0, 1) := by decide +kernel
theorem dX7_games_47 : decode cX7_games 47 = .ok (.iadd, 1) := by decide +kernel
theorem dX7_games_48 : decode cX7_games 48 = .ok (.istore_n 3, 1) := by decide +kernel
theorem dX7_games_49 : decode cX7_games 49 = .ok (.iinc 4 1, 3) := by decide +kernel
theorem dX7_games_52 : decode cX7_games 52 = .ok (.goto (-47), 3) := by decide +kernel
theorem dX7_games_55 : decode cX7_games 55 = .ok (.iload_n 3, 1) := by decide +kernel
theorem dX7_games_56 : decode cX7_games 56 = .ok (.ireturn, 1) := by decide +kernel
set_option maxHeartbeats 4000000 in
set_option maxRecDepth 100000 in
theorem c_X7_games (l : Launch) (D : va_G) (cy : Nat → ClassId) (ad adK adV : Nat → Nat) (M : Mm) (o0 : Nat) (a1 : Int32) (a2 : Int32) (res : Mm × Int32) (h : f_X7_games M o0 a1 a2 = some res) : Met l yX7_games (wU yX7_games cX7_games 5 (some .int)) rmX7_games (va_Pc [.ref (ad o0), .int a1, .int a2] (Pre D cy shM ad nM adK adV M)) (va_Qi (fun r (M2 : Mm) => r = res.2 ∧ M2 = res.1) (Pre D cy shM ad nM adK adV) (Aw ad nM)) 0 0 (Aw ad nM) := by
  refine Met.ofW (cc := cX7_games) (maxL := 5) (ret := (some .int)) (by decide) rfl ?_
  intro p e s m args below meth c s₁ B hml hv
  obtain ⟨hargs, hPre⟩ := hv
  have hx := B.exec
  have hb := B.bytes
  have hr := B.returns
  have hts := atoms_spec (ws := wU yX7_games cX7_games 5 (some .int)) B.pre
  have hq : ∀ w ∈ gW, w.before args s = true := fun w hw => hts w (List.mem_cons_of_mem _ hw)
  have hcm : ∀ w ∈ gW, w ∈ wU yX7_games cX7_games 5 (some .int) := fun w hw => List.mem_cons_of_mem _ hw
  have hown : s.vm.findClass RX7 = some m.cls := findClass_of_methodNamed B.named
  have hlocks := B.notSynchronized
  have hF : CallFix p m c cX7_games 5 s args (wU yX7_games cX7_games 5 (some .int)) RX7 := ⟨hx, hb, hml, hown, hts⟩
  have hK := hPre.2.1
  have hZ := hPre.2.2.2
  have hw : Wd D cy shM ad nM (Aw ad nM) s.heap M s.heap [] := ⟨hPre.1, hPre.2.2.1, va_S.rf⟩
  have iw7 : ∀ w ∈ u_ws RX7 TX7 30, w ∈ wU yX7_games cX7_games 5 (some .int) := fun w hw => List.mem_cons_of_mem _ (iX7 w hw)
  rw [show entryFrame m args 5 = entryFrame m ([.ref (ad o0), .int a1, .int a2] : List Value).toArray 5 from by rw [hargs]]
  have hl := lv_entry ([.ref (ad o0), .int a1, .int a2]) (n := 5) (Nat.le_of_ble_eq_true rfl)
  rw [lg_entry_eq]
  generalize (lg_sl ([.ref (ad o0), .int a1, .int a2]) ++ List.replicate (5 - (lg_sl ([.ref (ad o0), .int a1, .int a2])).length) Slot.unset).toArray = ls at hl ⊢
  have hl : lv_has ls 5 [(0, .ref (ad o0)), (1, .int a1), (2, .int a2)] := hl
  have hb47 : ∀ (k5 : Mm → Nat → Int32 → Int32 → Int32 → Int32 → Option (Mm × Int32)) (hk5 : ∀ (M : Mm) (x0 : Nat) (x1 : Int32) (x2 : Int32) (x3 : Int32) (x4 : Int32), k5 M x0 x1 x2 x3 x4 = some res → ∀ (H : Heap) (locs : List Loc) (ls : Array Slot), Wd D cy shM ad nM (Aw ad nM) s.heap M H locs → lv_has ls 5 [(0, .ref (ad x0)), (1, .int x1), (2, .int x2), (3, .int x3), (4, .int x4)] → W p l e (headSpec (wU yX7_games cX7_games 5 (some .int)) rmX7_games).room s m args below meth c H locs 0 0 (QI D cy shM ad nM adK adV below args s res) (F0 m 5 ls [])), ∀ (M : Mm) (x0 : Nat) (x1 : Int32) (x2 : Int32) (x4 : Int32) (t0 : Int32) (t1 : Int32), f_X7_games_b47 k5 M x0 x1 x2 x4 t0 t1 = some res → ∀ (H : Heap) (locs : List Loc) (ls : Array Slot), Wd D cy shM ad nM (Aw ad nM) s.heap M H locs → lv_has ls 5 [(0, .ref (ad x0)), (1, .int x1), (2, .int x2), (4, .int x4)] → W p l e (headSpec (wU yX7_games cX7_games 5 (some .int)) rmX7_games).room s m args below meth c H locs 0 0 (QI D cy shM ad nM adK adV below args s res) (F0 m 47 ls [.int t1, .int t0]) := by
    intro k5 hk5
    intro M x0 x1 x2 x4 t0 t1 h H locs ls hw hl
    unfold f_X7_games_b47 at h
    refine lv_iadd hx hb dX7_games_47 ?_
    refine lv_istore_n (lv' := [(3, .int (t0 + t1)), (0, .ref (ad x0)), (1, .int x1), (2, .int x2), (4, .int x4)]) hx hb dX7_games_48 rfl hl (by decide) rfl (fun ls hl => ?_)
    refine lv_iinc (v := x4 + (1 : Int32)) (lv' := [(4, .int (x4 + (1 : Int32))), (3, .int (t0 + t1)), (0, .ref (ad x0)), (1, .int x1), (2, .int x2)]) hx hb dX7_games_49 hl (k := 4) rfl (congrArg (fun z => x4 + z) (by decide)) (by decide) rfl (fun ls hl => ?_)
    refine lv_goto (tgt := 5) hx hb dX7_games_52 (by decide) ?_
    exact hk5 _ _ _ _ _ _ h _ _ _ hw (lv_sub hl [2, 3, 4, 1, 0] rfl)
  have hb46 : ∀ (k5 : Mm → Nat → Int32 → Int32 → Int32 → Int32 → Option (Mm × Int32)) (hk5 : ∀ (M : Mm) (x0 : Nat) (x1 : Int32) (x2 : Int32) (x3 : Int32) (x4 : Int32), k5 M x0 x1 x2 x3 x4 = some res → ∀ (H : Heap) (locs : List Loc) (ls : Array Slot), Wd D cy shM ad nM (Aw ad nM) s.heap M H locs → lv_has ls 5 [(0, .ref (ad x0)), (1, .int x1), (2, .int x2), (3, .int x3), (4, .int x4)] → W p l e (headSpec (wU yX7_games cX7_games 5 (some .int)) rmX7_games).room s m args below meth c H locs 0 0 (QI D cy shM ad nM adK adV below args s res) (F0 m 5 ls [])), ∀ (M : Mm) (x0 : Nat) (x1 : Int32) (x2 : Int32) (x4 : Int32) (t0 : Int32), f_X7_games_b46 k5 M x0 x1 x2 x4 t0 = some res → ∀ (H : Heap) (locs : List Loc) (ls : Array Slot), Wd D cy shM ad nM (Aw ad nM) s.heap M H locs → lv_has ls 5 [(0, .ref (ad x0)), (1, .int x1), (2, .int x2), (4, .int x4)] → W p l e (headSpec (wU yX7_games cX7_games 5 (some .int)) rmX7_games).room s m args below meth c H locs 0 0 (QI D cy shM ad nM adK adV below args s res) (F0 m 46 ls [.int t0]) := by
    intro k5 hk5
    intro M x0 x1 x2 x4 t0 h H locs ls hw hl
    unfold f_X7_games_b46 at h
    refine lv_iconst (v := (0 : Int32)) hx hb dX7_games_46 (by decide) ?_
    exact hb47 _ hk5 _ _ _ _ _ _ _ h _ _ _ hw (lv_sub hl [0, 1, 2, 3] rfl)
  have hb42 : ∀ (k5 : Mm → Nat → Int32 → Int32 → Int32 → Int32 → Option (Mm × Int32)) (hk5 : ∀ (M : Mm) (x0 : Nat) (x1 : Int32) (x2 : Int32) (x3 : Int32) (x4 : Int32), k5 M x0 x1 x2 x3 x4 = some res → ∀ (H : Heap) (locs : List Loc) (ls : Array Slot), Wd D cy shM ad nM (Aw ad nM) s.heap M H locs → lv_has ls 5 [(0, .ref (ad x0)), (1, .int x1), (2, .int x2), (3, .int x3), (4, .int x4)] → W p l e (headSpec (wU yX7_games cX7_games 5 (some .int)) rmX7_games).room s m args below meth c H locs 0 0 (QI D cy shM ad nM adK adV below args s res) (F0 m 5 ls [])), ∀ (M : Mm) (x0 : Nat) (x1 : Int32) (x2 : Int32) (x4 : Int32) (t0 : Int32), f_X7_games_b42 k5 M x0 x1 x2 x4 t0 = some res → ∀ (H : Heap) (locs : List Loc) (ls : Array Slot), Wd D cy shM ad nM (Aw ad nM) s.heap M H locs → lv_has ls 5 [(0, .ref (ad x0)), (1, .int x1), (2, .int x2), (4, .int x4)] → W p l e (headSpec (wU yX7_games cX7_games 5 (some .int)) rmX7_games).room s m args below meth c H locs 0 0 (QI D cy shM ad nM adK adV below args s res) (F0 m 42 ls [.int t0]) := by
    intro k5 hk5
    intro M x0 x1 x2 x4 t0 h H locs ls hw hl
    unfold f_X7_games_b42 at h
    refine lv_iconst (v := (1 : Int32)) hx hb dX7_games_42 (by decide) ?_
    refine lv_goto (tgt := 47) hx hb dX7_games_43 (by decide) ?_
    exact hb47 _ hk5 _ _ _ _ _ _ _ h _ _ _ hw (lv_sub hl [0, 1, 2, 3] rfl)
  have hb5 : ∀ (nn : Nat), ∀ (M : Mm) (x0 : Nat) (x1 : Int32) (x2 : Int32) (x3 : Int32) (x4 : Int32), f_X7_games_b5 nn M x0 x1 x2 x3 x4 = some res → ∀ (H : Heap) (locs : List Loc) (ls : Array Slot), Wd D cy shM ad nM (Aw ad nM) s.heap M H locs → lv_has ls 5 [(0, .ref (ad x0)), (1, .int x1), (2, .int x2), (3, .int x3), (4, .int x4)] → W p l e (headSpec (wU yX7_games cX7_games 5 (some .int)) rmX7_games).room s m args below meth c H locs 0 0 (QI D cy shM ad nM adK adV below args s res) (F0 m 5 ls []) := by
    intro nn
    induction nn with
    | zero => intro M x0 x1 x2 x3 x4 h; simp [f_X7_games_b5] at h
    | succ nn ih =>
      intro M x0 x1 x2 x3 x4 h H locs ls hw hl
      unfold f_X7_games_b5 at h
      refine lv_iload hx hb dX7_games_5 (lv_at hl 4 rfl) ?_
      refine lv_aload_n hx hb dX7_games_7 rfl (lv_at hl 0 rfl) ?_
      replace h := gd_some h
      obtain ⟨g1, h⟩ := h
      replace h := bd_some h
      obtain ⟨q2, eq2, h⟩ := h
      refine r_getR hx hb hts iw7 hown hK hw x0 0 g1 (by decide) rfl (by decide) rfl (hq _ qw890) (fun _ h9 => h9) dX7_games_8 eq2 ?_
      refine lv_iconst (v := (2 : Int32)) hx hb dX7_games_11 (by decide) ?_
      replace h := gd_some h
      obtain ⟨g3, h⟩ := h
      refine r_iald hx hb hK hw q2 g3 dX7_games_12 ?_
      refine lv_icmp_ge (tgt := 55) hx hb dX7_games_13 (by decide) (fun c4 => ?_) (fun c4 => ?_)
      · replace h := if_some_t c4 h
        refine lv_iload_n hx hb dX7_games_55 rfl (lv_at hl 3 rfl) ?_
        exact r_iret hx hb hr rfl hlocks hZ hK hw h dX7_games_56
      · replace h := if_some_f c4 h
        refine lv_iload_n hx hb dX7_games_16 rfl (lv_at hl 3 rfl) ?_
        refine lv_aload_n hx hb dX7_games_17 rfl (lv_at hl 0 rfl) ?_
        refine lv_iload_n hx hb dX7_games_18 rfl (lv_at hl 1 rfl) ?_
        refine lv_iload hx hb dX7_games_19 (lv_at hl 4 rfl) ?_
        replace h := bd_some h
        obtain ⟨r5, er5, h⟩ := h
        refine r_callVi (As := [.int x1, .int x4]) (rest := [.int x3]) hF (c_X7_plays l D cy ad adK adV M x0 x1 x4 r5 er5) (gW_goodV hcm qw1020 qw1017 qw1019 qw25 qw68) hdX7_plays rfl ⟨Nat.le_of_ble_eq_true rfl, Nat.le_of_ble_eq_true rfl⟩ rfl rfl hZ hK hw g1 (by decide) rfl rfl hl.1 rfl (Nat.le_of_ble_eq_true rfl) ⟨Nat.zero_le _, Nat.zero_le _⟩ dX7_games_21 (fun H locs hw => ?_)
        refine lv_if_eq (tgt := 46) hx hb dX7_games_24 (by decide) (fun c6 => ?_) (fun c6 => ?_)
        · replace h := if_some_t c6 h
          exact hb46 _ ih _ _ _ _ _ _ h _ _ _ hw (lv_sub hl [0, 1, 2, 4] rfl)
        · replace h := if_some_f c6 h
          refine lv_iload_n hx hb dX7_games_27 rfl (lv_at hl 2 rfl) ?_
          refine lv_if_eq (tgt := 42) hx hb dX7_games_28 (by decide) (fun c7 => ?_) (fun c7 => ?_)
          · replace h := if_some_t c7 h
            exact hb42 _ ih _ _ _ _ _ _ h _ _ _ hw (lv_sub hl [0, 1, 2, 4] rfl)
          · replace h := if_some_f c7 h
            refine lv_aload_n hx hb dX7_games_31 rfl (lv_at hl 0 rfl) ?_
            refine lv_iload hx hb dX7_games_32 (lv_at hl 4 rfl) ?_
            refine lv_iconst (v := (4 : Int32)) hx hb dX7_games_34 (by decide) ?_
            replace h := bd_some h
            obtain ⟨r8, er8, h⟩ := h
            refine r_callVi (As := [.int x4, .int (4 : Int32)]) (rest := [.int x3]) hF (c_X7_of l D cy ad adK adV r5.1 x0 x4 (4 : Int32) r8 er8) (gW_goodV hcm qw1012 qw1009 qw1011 qw23 qw68) hdX7_of rfl ⟨Nat.le_of_ble_eq_true rfl, Nat.le_of_ble_eq_true rfl⟩ rfl rfl hZ hK hw g1 (by decide) rfl rfl hl.1 rfl (Nat.le_of_ble_eq_true rfl) ⟨Nat.zero_le _, Nat.zero_le _⟩ dX7_games_35 (fun H locs hw => ?_)
            refine lv_iload_n hx hb dX7_games_38 rfl (lv_at hl 1 rfl) ?_
            refine lv_icmp_ne (tgt := 46) hx hb dX7_games_39 (by decide) (fun c9 => ?_) (fun c9 => ?_)
            · replace h := if_some_f c9 h
              exact hb46 _ ih _ _ _ _ _ _ h _ _ _ hw (lv_sub hl [0, 1, 2, 4] rfl)
            · replace h := if_some_t c9 h
              exact hb42 _ ih _ _ _ _ _ _ h _ _ _ hw (lv_sub hl [0, 1, 2, 4] rfl)
  unfold f_X7_games at h
  refine lv_iconst (v := (0 : Int32)) hx hb dX7_games_0 (by decide) ?_
  refine lv_istore_n (lv' := [(3, .int (0 : Int32)), (0, .ref (ad o0)), (1, .int a1), (2, .int a2)]) hx hb dX7_games_1 rfl hl (by decide) rfl (fun ls hl => ?_)
  refine lv_iconst (v := (0 : Int32)) hx hb dX7_games_2 (by decide) ?_
  refine lv_istore (lv' := [(4, .int (0 : Int32)), (3, .int (0 : Int32)), (0, .ref (ad o0)), (1, .int a1), (2, .int a2)]) hx hb dX7_games_3 hl (by decide) rfl (fun ls hl => ?_)
  exact hb5 1000 _ _ _ _ _ _ h _ _ _ hw (lv_sub hl [2, 3, 4, 1, 0] rfl)

/-! ===== constructors, by program (ctor.py) ===== -/
theorem dX1_init_0 : decode cX1_init 0 = .ok (.aload_n 0, 1) := by decide +kernel
theorem dX1_init_1 : decode cX1_init 1 = .ok (.invokespecial 3, 3) := by decide +kernel
theorem dX1_init_4 : decode cX1_init 4 = .ok (.aload_n 0, 1) := by decide +kernel
theorem dX1_init_5 : decode cX1_init 5 = .ok (.bipush 6, 2) := by decide +kernel
theorem dX1_init_7 : decode cX1_init 7 = .ok (.anewarray 9, 3) := by decide +kernel
theorem dX1_init_10 : decode cX1_init 10 = .ok (.putfield 11, 3) := by decide +kernel
theorem dX1_init_13 : decode cX1_init 13 = .ok (.aload_n 0, 1) := by decide +kernel
theorem dX1_init_14 : decode cX1_init 14 = .ok (.bipush 8, 2) := by decide +kernel
theorem dX1_init_16 : decode cX1_init 16 = .ok (.anewarray 17, 3) := by decide +kernel
theorem dX1_init_19 : decode cX1_init 19 = .ok (.putfield 19, 3) := by decide +kernel
theorem dX1_init_22 : decode cX1_init 22 = .ok (.aload_n 0, 1) := by decide +kernel
theorem dX1_init_23 : decode cX1_init 23 = .ok (.bipush 10, 2) := by decide +kernel
theorem dX1_init_25 : decode cX1_init 25 = .ok (.newarray .int, 2) := by decide +kernel
theorem dX1_init_27 : decode cX1_init 27 = .ok (.putfield 23, 3) := by decide +kernel
theorem dX1_init_30 : decode cX1_init 30 = .ok (.aload_n 0, 1) := by decide +kernel
theorem dX1_init_31 : decode cX1_init 31 = .ok (.iconst 0, 1) := by decide +kernel
theorem dX1_init_32 : decode cX1_init 32 = .ok (.putfield 27, 3) := by decide +kernel
theorem dX1_init_35 : decode cX1_init 35 = .ok (.aload_n 0, 1) := by decide +kernel
theorem dX1_init_36 : decode cX1_init 36 = .ok (.iconst 0, 1) := by decide +kernel
theorem dX1_init_37 : decode cX1_init 37 = .ok (.putfield 31, 3) := by decide +kernel
theorem dX1_init_40 : decode cX1_init 40 = .ok (.aload_n 0, 1) := by decide +kernel
theorem dX1_init_41 : decode cX1_init 41 = .ok (.iconst 0, 1) := by decide +kernel
theorem dX1_init_42 : decode cX1_init 42 = .ok (.putfield 34, 3) := by decide +kernel
theorem dX1_init_45 : decode cX1_init 45 = .ok (.aload_n 0, 1) := by decide +kernel
theorem dX1_init_46 : decode cX1_init 46 = .ok (.iconst 1, 1) := by decide +kernel
theorem dX1_init_47 : decode cX1_init 47 = .ok (.putfield 37, 3) := by decide +kernel
theorem dX1_init_50 : decode cX1_init 50 = .ok (.aload_n 0, 1) := by decide +kernel
theorem dX1_init_51 : decode cX1_init 51 = .ok (.iconst 1, 1) := by decide +kernel
theorem dX1_init_52 : decode cX1_init 52 = .ok (.putfield 40, 3) := by decide +kernel
theorem dX1_init_55 : decode cX1_init 55 = .ok (.aload_n 0, 1) := by decide +kernel
theorem dX1_init_56 : decode cX1_init 56 = .ok (.iconst (-1), 1) := by decide +kernel
theorem dX1_init_57 : decode cX1_init 57 = .ok (.putfield 43, 3) := by decide +kernel
theorem dX1_init_60 : decode cX1_init 60 = .ok (.aload_n 0, 1) := by decide +kernel
theorem dX1_init_61 : decode cX1_init 61 = .ok (.iconst (-1), 1) := by decide +kernel
theorem dX1_init_62 : decode cX1_init 62 = .ok (.putfield 46, 3) := by decide +kernel
theorem dX1_init_65 : decode cX1_init 65 = .ok (.aload_n 0, 1) := by decide +kernel
theorem dX1_init_66 : decode cX1_init 66 = .ok (.iconst 0, 1) := by decide +kernel
theorem dX1_init_67 : decode cX1_init 67 = .ok (.putfield 49, 3) := by decide +kernel
theorem dX1_init_70 : decode cX1_init 70 = .ok (.iconst 0, 1) := by decide +kernel
theorem dX1_init_71 : decode cX1_init 71 = .ok (.istore_n 1, 1) := by decide +kernel
theorem dX1_init_72 : decode cX1_init 72 = .ok (.iload_n 1, 1) := by decide +kernel
theorem dX1_init_73 : decode cX1_init 73 = .ok (.bipush 6, 2) := by decide +kernel
theorem dX1_init_75 : decode cX1_init 75 = .ok (.if_icmp .ge 22, 3) := by decide +kernel
theorem dX1_init_78 : decode cX1_init 78 = .ok (.aload_n 0, 1) := by decide +kernel
theorem dX1_init_79 : decode cX1_init 79 = .ok (.getfield 11, 3) := by decide +kernel
theorem dX1_init_82 : decode cX1_init 82 = .ok (.iload_n 1, 1) := by decide +kernel
theorem dX1_init_83 : decode cX1_init 83 = .ok (.new 9, 3) := by decide +kernel
theorem dX1_init_86 : decode cX1_init 86 = .ok (.dup, 1) := by decide +kernel
theorem dX1_init_87 : decode cX1_init 87 = .ok (.invokespecial 52, 3) := by decide +kernel
theorem dX1_init_90 : decode cX1_init 90 = .ok (.aastore, 1) := by decide +kernel
theorem dX1_init_91 : decode cX1_init 91 = .ok (.iinc 1 1, 3) := by decide +kernel
theorem dX1_init_94 : decode cX1_init 94 = .ok (.goto (-22), 3) := by decide +kernel
theorem dX1_init_97 : decode cX1_init 97 = .ok (.iconst 0, 1) := by decide +kernel
theorem dX1_init_98 : decode cX1_init 98 = .ok (.istore_n 1, 1) := by decide +kernel
theorem dX1_init_99 : decode cX1_init 99 = .ok (.iload_n 1, 1) := by decide +kernel
theorem dX1_init_100 : decode cX1_init 100 = .ok (.bipush 8, 2) := by decide +kernel
theorem dX1_init_102 : decode cX1_init 102 = .ok (.if_icmp .ge 22, 3) := by decide +kernel
theorem dX1_init_105 : decode cX1_init 105 = .ok (.aload_n 0, 1) := by decide +kernel
theorem dX1_init_106 : decode cX1_init 106 = .ok (.getfield 19, 3) := by decide +kernel
theorem dX1_init_109 : decode cX1_init 109 = .ok (.iload_n 1, 1) := by decide +kernel
theorem dX1_init_110 : decode cX1_init 110 = .ok (.new 17, 3) := by decide +kernel
theorem dX1_init_113 : decode cX1_init 113 = .ok (.dup, 1) := by decide +kernel
theorem dX1_init_114 : decode cX1_init 114 = .ok (.invokespecial 53, 3) := by decide +kernel
theorem dX1_init_117 : decode cX1_init 117 = .ok (.aastore, 1) := by decide +kernel
theorem dX1_init_118 : decode cX1_init 118 = .ok (.iinc 1 1, 3) := by decide +kernel
theorem dX1_init_121 : decode cX1_init 121 = .ok (.goto (-22), 3) := by decide +kernel
theorem dX1_init_124 : decode cX1_init 124 = .ok (.iconst 0, 1) := by decide +kernel
theorem dX1_init_125 : decode cX1_init 125 = .ok (.istore_n 1, 1) := by decide +kernel
theorem dX1_init_126 : decode cX1_init 126 = .ok (.iload_n 1, 1) := by decide +kernel
theorem dX1_init_127 : decode cX1_init 127 = .ok (.bipush 10, 2) := by decide +kernel
theorem dX1_init_129 : decode cX1_init 129 = .ok (.if_icmp .ge 16, 3) := by decide +kernel
theorem dX1_init_132 : decode cX1_init 132 = .ok (.aload_n 0, 1) := by decide +kernel
theorem dX1_init_133 : decode cX1_init 133 = .ok (.getfield 23, 3) := by decide +kernel
theorem dX1_init_136 : decode cX1_init 136 = .ok (.iload_n 1, 1) := by decide +kernel
theorem dX1_init_137 : decode cX1_init 137 = .ok (.iconst (-1), 1) := by decide +kernel
theorem dX1_init_138 : decode cX1_init 138 = .ok (.iastore, 1) := by decide +kernel
theorem dX1_init_139 : decode cX1_init 139 = .ok (.iinc 1 1, 3) := by decide +kernel
theorem dX1_init_142 : decode cX1_init 142 = .ok (.goto (-16), 3) := by decide +kernel
theorem dX1_init_145 : decode cX1_init 145 = .ok (.return_, 1) := by decide +kernel
theorem c_X1_init (l : Launch) (D : va_G) (cy : Nat → ClassId) (sh : Nat → Nat × Nat) (I : Mm) (A : Nat → Prop) (B : Nat) (hAB : ∀ q, B ≤ q → A q) (ad0 : Nat → Nat) (b : Nat) (P : Nat → Nat → Bool) (hLg : isLg sh I b) : Met l yX1_init (wU yX1_init cX1_init 2 none) rmC1 (va_Pc [.ref (ad0 (b))] (PreG D cy sh I A B ad0 (b + 1) (P))) (QG D cy sh I A B ad0 (b + 1) (b + 18) (LM P b 6 8 10)) 17 132 A := by
  refine Met.ofW (cc := cX1_init) (maxL := 2) (ret := none) (by decide) rfl ?_
  intro p e s m args below meth c s₁ B0 hml hv
  obtain ⟨hargs, p1, hK, p3, hB, p5, hEx⟩ := hv
  have hx := B0.exec
  have hb := B0.bytes
  have hr := B0.returns
  have hts := atoms_spec (ws := wU yX1_init cX1_init 2 none) B0.pre
  have hq : ∀ w ∈ gW, w.before args s = true := fun w hw => hts w (List.mem_cons_of_mem _ hw)
  have hcm : ∀ w ∈ gW, w ∈ wU yX1_init cX1_init 2 none := fun w hw => List.mem_cons_of_mem _ hw
  have hown : s.vm.findClass RX1 = some m.cls := findClass_of_methodNamed B0.named
  have hlocks := B0.notSynchronized
  have hin2 : meth.name = "<init>" := (name_of_methodNamed B0.named B0.method).1
  have hF : CallFix p m c cX1_init 2 s args (wU yX1_init cX1_init 2 none) RX1 := ⟨hx, hb, hml, hown, hts⟩
  have hA : ∀ z, s.heap.size ≤ z → A z := fun z hz => hAB z (Nat.le_trans hB hz)
  have hw : Wg D cy sh I ad0 (b + 1) A s.heap P s.heap [] := ⟨⟨p1, p3, va_S.rf⟩, p5⟩
  have hag : ∀ z, z < b + 1 → ad0 z = ad0 z := fun _ _ => rfl
  have iw1 : ∀ w ∈ u_ws RX1 TX1 11, w ∈ wU yX1_init cX1_init 2 none := fun w hw => List.mem_cons_of_mem _ (iX1 w hw)
  have iw3 : ∀ w ∈ u_ws RX3 TX3 6, w ∈ wU yX1_init cX1_init 2 none := fun w hw => List.mem_cons_of_mem _ (iX3 w hw)
  have iw0 : ∀ w ∈ u_ws RX0 TX0 9, w ∈ wU yX1_init cX1_init 2 none := fun w hw => List.mem_cons_of_mem _ (iX0 w hw)
  rw [show entryFrame m args 2 = entryFrame m ([.ref (ad0 (b))] : List Value).toArray 2 from by rw [hargs]]
  have hl := lv_entry ([.ref (ad0 (b))]) (n := 2) (Nat.le_of_ble_eq_true rfl)
  rw [lg_entry_eq]
  generalize (lg_sl ([.ref (ad0 (b))]) ++ List.replicate (2 - (lg_sl ([.ref (ad0 (b))])).length) Slot.unset).toArray = ls at hl ⊢
  have hl : lv_has ls 2 [(0, .ref (ad0 (b)))] := hl
  obtain ⟨t0, t1, t2, t3, tS, tG, jb, r0, r1, r2, rn, rS, rG, jP⟩ := hLg
  have lp3 : ∀ (d i : Nat) (ad : Nat → Nat) (H : Heap) (locs : List Loc) (ls : Array Slot), i + d = 10 → (∀ z, z < b + 1 → ad z = ad0 z) → Wg D cy sh I ad (b + 18) A s.heap (LM P b 6 8 i) H locs → lv_has ls 2 [(1, .int (nI i)), (0, .ref (ad (b)))] → W p l e rmC1 s m args below meth c H locs (17) (132) (MQ below (QG D cy sh I A B ad0 (b + 1) (b + 18) (LM P b 6 8 10)) args s 17 132 A) (F0 m 126 ls []) := by
    intro d
    induction d with
    | zero =>
      intro i ad H locs ls hi hag hw hl
      refine lv_iload_n hx hb dX1_init_126 rfl (lv_at hl 0 rfl) ?_
      refine lv_bipush (v := nI 10) hx hb dX1_init_127 (by decide) ?_
      refine lv_icmp_ge (tgt := 145) hx hb dX1_init_129 (by decide) (fun c1 => ?_) (fun c1 => absurd (nI_le (by omega) (by omega)) c1)
      have hi : i = 10 := by omega
      subst hi
      exact W.vret hx hb hr (fun t ht hW => ⟨⟨ad, rfl, hag, preG_at hEx hK hB hw ht hW⟩, hw.1.2.2.F ht⟩) hw.1.2.2.2.2 dX1_init_145 hlocks
    | succ d ih =>
      intro i ad H locs ls hi hag hw hl
      refine lv_iload_n hx hb dX1_init_126 rfl (lv_at hl 0 rfl) ?_
      refine lv_bipush (v := nI 10) hx hb dX1_init_127 (by decide) ?_
      refine lv_icmp_ge (tgt := 145) hx hb dX1_init_129 (by decide) (fun c1 => absurd c1 (nI_ge (by omega) (by omega))) (fun c1 => ?_)
      refine lv_aload_n hx hb dX1_init_132 rfl (lv_at hl 1 rfl) ?_
      refine r_getR hx hb hts iw1 hown hK hw.1 (b) 2 ⟨by omega, t0⟩ (by decide) rfl (by decide) rfl (hq _ qw187) (fun _ h9 => h9) dX1_init_133 (q := b + 3) (mkP_ref (LM_t.mpr (Or.inl (by omega))) r2) ?_
      refine lv_iload_n hx hb dX1_init_136 rfl (lv_at hl 0 rfl) ?_
      refine lv_iconst (v := (-1 : Int32)) hx hb dX1_init_137 (by decide) ?_
      refine g_iast hx hb hK hw (b + 3) i ⟨⟨by omega, by rw [t3]⟩, by rw [t3]; exact vin_nI (N := 10) (by omega) (by decide)⟩ (nI_clamp (by omega)) (jP i (by omega)).1 (nq (jP i (by omega)).2) dX1_init_138 (fun H locs hw => ?_)
      refine lv_iinc (v := nI (i + 1)) (lv' := [(1, .int (nI (i + 1))), (0, .ref (ad (b)))]) hx hb dX1_init_139 hl (k := 0) rfl (by rw [show Int32.ofInt 1 = nI 1 from by decide, nI_add]) (by decide) rfl (fun ls hl => ?_)
      refine lv_goto (tgt := 126) hx hb dX1_init_142 (by decide) ?_
      have hw : Wg D cy sh I ad (b + 18) A s.heap (LM P b 6 8 (i + 1)) H locs := Wg.mask hw (fun a k => by simp only [pU_t, pW_t, LM_t]; by_cases z : P a k = true <;> simp only [z, or_true, or_false, Bool.false_eq_true] <;> omega)
      exact ih (i + 1) ad H locs ls (by omega) hag hw hl
  have lp2 : ∀ (d i : Nat) (ad : Nat → Nat) (H : Heap) (locs : List Loc) (ls : Array Slot), i + d = 8 → (∀ z, z < b + 1 → ad z = ad0 z) → Wg D cy sh I ad (b + 10 + i) A s.heap (LM P b 6 i 0) H locs → lv_has ls 2 [(1, .int (nI i)), (0, .ref (ad (b)))] → W p l e rmC1 s m args below meth c H locs (9 + i) (60 + 9 * i) (MQ below (QG D cy sh I A B ad0 (b + 1) (b + 18) (LM P b 6 8 10)) args s 17 132 A) (F0 m 99 ls []) := by
    intro d
    induction d with
    | zero =>
      intro i ad H locs ls hi hag hw hl
      refine lv_iload_n hx hb dX1_init_99 rfl (lv_at hl 0 rfl) ?_
      refine lv_bipush (v := nI 8) hx hb dX1_init_100 (by decide) ?_
      refine lv_icmp_ge (tgt := 124) hx hb dX1_init_102 (by decide) (fun c1 => ?_) (fun c1 => absurd (nI_le (by omega) (by omega)) c1)
      have hi : i = 8 := by omega
      subst hi
      refine lv_iconst (v := (0 : Int32)) hx hb dX1_init_124 (by decide) ?_
      refine lv_istore_n (lv' := [(1, .int ((0 : Int32))), (0, .ref (ad (b)))]) hx hb dX1_init_125 rfl hl (by decide) rfl (fun ls hl => ?_)
      have hw : Wg D cy sh I ad (b + 18) A s.heap (LM P b 6 8 0) H locs := hw
      refine W.widen (k := 17) (n := 132) (by omega) (by omega) ?_
      exact lp3 10 0 ad H locs ls (by omega) hag hw hl
    | succ d ih =>
      intro i ad H locs ls hi hag hw hl
      refine lv_iload_n hx hb dX1_init_99 rfl (lv_at hl 0 rfl) ?_
      refine lv_bipush (v := nI 8) hx hb dX1_init_100 (by decide) ?_
      refine lv_icmp_ge (tgt := 124) hx hb dX1_init_102 (by decide) (fun c1 => absurd c1 (nI_ge (by omega) (by omega))) (fun c1 => ?_)
      refine lv_aload_n hx hb dX1_init_105 rfl (lv_at hl 1 rfl) ?_
      refine r_getR hx hb hts iw1 hown hK hw.1 (b) 1 ⟨by omega, t0⟩ (by decide) rfl (by decide) rfl (hq _ qw184) (fun _ h9 => h9) dX1_init_106 (q := b + 2) (mkP_ref (LM_t.mpr (Or.inl (by omega))) r1) ?_
      refine lv_iload_n hx hb dX1_init_109 rfl (lv_at hl 0 rfl) ?_
      refine g_new (ci := 0) hx hb hts iw0 tyX0 tyX0_ok hown (hq _ qw90) (hq _ qw129) (hq _ qw63) hK hw hA rfl (by decide) (tG i (by omega)).1 dfX0 (by show 9 + i + 1 ≤ 17; omega) (by show 60 + 9 * i + 9 ≤ 132; omega) dX1_init_110 (fun ad H ha hw => ?_)
      rw [← ha (b + 2) (by omega)] at ⊢
      rw [← ha (b) (by omega)] at hl
      replace hag : ∀ z, z < b + 1 → ad z = ad0 z := fun z hz => (ha z (by omega)).trans (hag z hz)
      have hw : Wg D cy sh I ad (b + 10 + i + 1) A s.heap _ _ _ := hw
      refine lv_dup hx hb dX1_init_113 rfl ?_
      refine g_callN hF (c_X0_init l D cy sh I A B hAB ad (b + 10 + i) (LM P b 6 i 0) (tG i (by omega)).1 (tG i (by omega)).2.1 (tG i (by omega)).2.2) (gW_good hcm qw132) (hq _ qw63) hEx.2.2.2.2.1 (hq _ qw131) rfl (by decide +kernel) ⟨Nat.le_of_ble_eq_true rfl, Nat.le_of_ble_eq_true rfl⟩ rfl rfl hEx hK hB hw hl.1 (Nat.le_of_ble_eq_true rfl) ⟨by show 9 + i + 1 + 0 ≤ 17; omega, by show 60 + 9 * i + 9 + 0 ≤ 132; omega⟩ dX1_init_114 (fun ad H locs ha hw => ?_)
      rw [← ha (b + 10 + i) (by omega)] at ⊢
      rw [← ha (b + 2) (by omega)] at ⊢
      rw [← ha (b) (by omega)] at hl
      replace hag : ∀ z, z < b + 1 → ad z = ad0 z := fun z hz => (ha z (by omega)).trans (hag z hz)
      have hw : Wg D cy sh I ad (b + 10 + i + 1) A s.heap _ _ _ := hw
      refine g_aast (r := (RX0, TX0, 9)) hx hb hK hw (b + 2) i 3 (b + 10 + i) 0 (by decide) rfl ⟨⟨by omega, by rw [t2]⟩, by rw [t2]; exact vin_nI (N := 8) (by omega) (by decide)⟩ (nI_clamp (by omega)) (rG i (by omega)) ⟨by omega, (tG i (by omega)).1⟩ (by decide) rfl dX1_init_117 (fun H locs hw => ?_)
      refine lv_iinc (v := nI (i + 1)) (lv' := [(1, .int (nI (i + 1))), (0, .ref (ad (b)))]) hx hb dX1_init_118 hl (k := 0) rfl (by rw [show Int32.ofInt 1 = nI 1 from by decide, nI_add]) (by decide) rfl (fun ls hl => ?_)
      refine lv_goto (tgt := 99) hx hb dX1_init_121 (by decide) ?_
      have hw : Wg D cy sh I ad (b + 10 + (i + 1)) A s.heap (LM P b 6 (i + 1) 0) H locs := Wg.mask hw (fun a k => by simp only [pU_t, pW_t, LM_t]; by_cases z : P a k = true <;> simp only [z, or_true, or_false, Bool.false_eq_true] <;> omega)
      refine W.widen (k := 9 + (i + 1)) (n := 60 + 9 * (i + 1)) (by omega) (by omega) ?_
      exact ih (i + 1) ad H locs ls (by omega) hag hw hl
  have lp1 : ∀ (d i : Nat) (ad : Nat → Nat) (H : Heap) (locs : List Loc) (ls : Array Slot), i + d = 6 → (∀ z, z < b + 1 → ad z = ad0 z) → Wg D cy sh I ad (b + 4 + i) A s.heap (LM P b i 0 0) H locs → lv_has ls 2 [(1, .int (nI i)), (0, .ref (ad (b)))] → W p l e rmC1 s m args below meth c H locs (3 + i) (24 + 6 * i) (MQ below (QG D cy sh I A B ad0 (b + 1) (b + 18) (LM P b 6 8 10)) args s 17 132 A) (F0 m 72 ls []) := by
    intro d
    induction d with
    | zero =>
      intro i ad H locs ls hi hag hw hl
      refine lv_iload_n hx hb dX1_init_72 rfl (lv_at hl 0 rfl) ?_
      refine lv_bipush (v := nI 6) hx hb dX1_init_73 (by decide) ?_
      refine lv_icmp_ge (tgt := 97) hx hb dX1_init_75 (by decide) (fun c1 => ?_) (fun c1 => absurd (nI_le (by omega) (by omega)) c1)
      have hi : i = 6 := by omega
      subst hi
      refine lv_iconst (v := (0 : Int32)) hx hb dX1_init_97 (by decide) ?_
      refine lv_istore_n (lv' := [(1, .int ((0 : Int32))), (0, .ref (ad (b)))]) hx hb dX1_init_98 rfl hl (by decide) rfl (fun ls hl => ?_)
      have hw : Wg D cy sh I ad (b + 10 + 0) A s.heap (LM P b 6 0 0) H locs := hw
      refine W.widen (k := 9 + 0) (n := 60 + 9 * 0) (by omega) (by omega) ?_
      exact lp2 8 0 ad H locs ls (by omega) hag hw hl
    | succ d ih =>
      intro i ad H locs ls hi hag hw hl
      refine lv_iload_n hx hb dX1_init_72 rfl (lv_at hl 0 rfl) ?_
      refine lv_bipush (v := nI 6) hx hb dX1_init_73 (by decide) ?_
      refine lv_icmp_ge (tgt := 97) hx hb dX1_init_75 (by decide) (fun c1 => absurd c1 (nI_ge (by omega) (by omega))) (fun c1 => ?_)
      refine lv_aload_n hx hb dX1_init_78 rfl (lv_at hl 1 rfl) ?_
      refine r_getR hx hb hts iw1 hown hK hw.1 (b) 0 ⟨by omega, t0⟩ (by decide) rfl (by decide) rfl (hq _ qw181) (fun _ h9 => h9) dX1_init_79 (q := b + 1) (mkP_ref (LM_t.mpr (Or.inl (by omega))) r0) ?_
      refine lv_iload_n hx hb dX1_init_82 rfl (lv_at hl 0 rfl) ?_
      refine g_new (ci := 3) hx hb hts iw3 tyX3 tyX3_ok hown (hq _ qw88) (hq _ qw92) (hq _ qw62) hK hw hA rfl (by decide) (tS i (by omega)).1 dfX3 (by show 3 + i + 1 ≤ 17; omega) (by show 24 + 6 * i + 6 ≤ 132; omega) dX1_init_83 (fun ad H ha hw => ?_)
      rw [← ha (b + 1) (by omega)] at ⊢
      rw [← ha (b) (by omega)] at hl
      replace hag : ∀ z, z < b + 1 → ad z = ad0 z := fun z hz => (ha z (by omega)).trans (hag z hz)
      have hw : Wg D cy sh I ad (b + 4 + i + 1) A s.heap _ _ _ := hw
      refine lv_dup hx hb dX1_init_86 rfl ?_
      refine g_callN hF (c_X3_init l D cy sh I A B hAB ad (b + 4 + i) (LM P b i 0 0) (tS i (by omega)).1 (tS i (by omega)).2.1 (tS i (by omega)).2.2) (gW_good hcm qw95) (hq _ qw62) hEx.2.2.2.1 (hq _ qw94) rfl (by decide +kernel) ⟨Nat.le_of_ble_eq_true rfl, Nat.le_of_ble_eq_true rfl⟩ rfl rfl hEx hK hB hw hl.1 (Nat.le_of_ble_eq_true rfl) ⟨by show 3 + i + 1 + 0 ≤ 17; omega, by show 24 + 6 * i + 6 + 0 ≤ 132; omega⟩ dX1_init_87 (fun ad H locs ha hw => ?_)
      rw [← ha (b + 4 + i) (by omega)] at ⊢
      rw [← ha (b + 1) (by omega)] at ⊢
      rw [← ha (b) (by omega)] at hl
      replace hag : ∀ z, z < b + 1 → ad z = ad0 z := fun z hz => (ha z (by omega)).trans (hag z hz)
      have hw : Wg D cy sh I ad (b + 4 + i + 1) A s.heap _ _ _ := hw
      refine g_aast (r := (RX3, TX3, 6)) hx hb hK hw (b + 1) i 2 (b + 4 + i) 3 (by decide) rfl ⟨⟨by omega, by rw [t1]⟩, by rw [t1]; exact vin_nI (N := 6) (by omega) (by decide)⟩ (nI_clamp (by omega)) (rS i (by omega)) ⟨by omega, (tS i (by omega)).1⟩ (by decide) rfl dX1_init_90 (fun H locs hw => ?_)
      refine lv_iinc (v := nI (i + 1)) (lv' := [(1, .int (nI (i + 1))), (0, .ref (ad (b)))]) hx hb dX1_init_91 hl (k := 0) rfl (by rw [show Int32.ofInt 1 = nI 1 from by decide, nI_add]) (by decide) rfl (fun ls hl => ?_)
      refine lv_goto (tgt := 72) hx hb dX1_init_94 (by decide) ?_
      have hw : Wg D cy sh I ad (b + 4 + (i + 1)) A s.heap (LM P b (i + 1) 0 0) H locs := Wg.mask hw (fun a k => by simp only [pU_t, pW_t, LM_t]; by_cases z : P a k = true <;> simp only [z, or_true, or_false, Bool.false_eq_true] <;> omega)
      refine W.widen (k := 3 + (i + 1)) (n := 24 + 6 * (i + 1)) (by omega) (by omega) ?_
      exact ih (i + 1) ad H locs ls (by omega) hag hw hl
  refine lv_aload_n hx hb dX1_init_0 rfl (lv_at hl 0 rfl) ?_
  refine W.objInit hx hb hown (hq _ qw87) (hq _ qw80) (hq _ qw81) rfl (by rw [hml]; exact hl.1) rfl dX1_init_1 (Nat.le_of_ble_eq_true rfl) (Nat.le_of_ble_eq_true rfl) ?_
  refine W.eq (g2 := F0 m 4 ls []) rfl ?_
  refine lv_aload_n hx hb dX1_init_4 rfl (lv_at hl 0 rfl) ?_
  refine lv_bipush (v := (6 : Int32)) hx hb dX1_init_5 (by decide) ?_
  refine g_newR hx hb hown (hq _ qw88) hEx.1 hK hw hA 2 (by decide) rfl t1 (by decide) (by decide) (Nat.le_of_ble_eq_true rfl) (Nat.le_of_ble_eq_true rfl) (Nat.le_of_ble_eq_true rfl) dX1_init_7 (fun ad H ha hw => ?_)
  rw [← ha (b) (by omega)] at hl ⊢
  replace hag : ∀ z, z < b + 1 → ad z = ad0 z := fun z hz => (ha z (by omega)).trans (hag z hz)
  have hw : Wg D cy sh I ad (b + 2) A s.heap _ _ _ := hw
  refine g_putF (ci := 1) (v := .ref (ad (b + 1))) hx hb hts iw1 tyX1 tyX1_ok nmX1 hown hK hw hin2 (b) 0 2 ⟨by omega, t0⟩ (by decide) rfl (by decide) rfl (hq _ qw181) (fun _ h9 => h9) rfl rfl (fV_r r0) (sq r0 (by omega)) rfl rfl dX1_init_10 (fun H locs hw => ?_)
  refine lv_aload_n hx hb dX1_init_13 rfl (lv_at hl 0 rfl) ?_
  refine lv_bipush (v := (8 : Int32)) hx hb dX1_init_14 (by decide) ?_
  refine g_newR hx hb hown (hq _ qw90) hEx.2.1 hK hw hA 3 (by decide) rfl t2 (by decide) (by decide) (Nat.le_of_ble_eq_true rfl) (Nat.le_of_ble_eq_true rfl) (Nat.le_of_ble_eq_true rfl) dX1_init_16 (fun ad H ha hw => ?_)
  rw [← ha (b) (by omega)] at hl ⊢
  replace hag : ∀ z, z < b + 1 → ad z = ad0 z := fun z hz => (ha z (by omega)).trans (hag z hz)
  have hw : Wg D cy sh I ad (b + 3) A s.heap _ _ _ := hw
  refine g_putF (ci := 1) (v := .ref (ad (b + 2))) hx hb hts iw1 tyX1 tyX1_ok nmX1 hown hK hw hin2 (b) 1 2 ⟨by omega, t0⟩ (by decide) rfl (by decide) rfl (hq _ qw184) (fun _ h9 => h9) rfl rfl (fV_r r1) (sq r1 (by omega)) rfl rfl dX1_init_19 (fun H locs hw => ?_)
  refine lv_aload_n hx hb dX1_init_22 rfl (lv_at hl 0 rfl) ?_
  refine lv_bipush (v := (10 : Int32)) hx hb dX1_init_23 (by decide) ?_
  refine g_newI hx hb (hq _ qa0) hK hw hA t3 (by decide) (by decide) (Nat.le_of_ble_eq_true rfl) (Nat.le_of_ble_eq_true rfl) (Nat.le_of_ble_eq_true rfl) dX1_init_25 (fun ad H ha hw => ?_)
  rw [← ha (b) (by omega)] at hl ⊢
  replace hag : ∀ z, z < b + 1 → ad z = ad0 z := fun z hz => (ha z (by omega)).trans (hag z hz)
  have hw : Wg D cy sh I ad (b + 4) A s.heap _ _ _ := hw
  refine g_putF (ci := 1) (v := .ref (ad (b + 3))) hx hb hts iw1 tyX1 tyX1_ok nmX1 hown hK hw hin2 (b) 2 2 ⟨by omega, t0⟩ (by decide) rfl (by decide) rfl (hq _ qw187) (fun _ h9 => h9) rfl rfl (fV_r r2) (sq r2 (by omega)) rfl rfl dX1_init_27 (fun H locs hw => ?_)
  refine lv_aload_n hx hb dX1_init_30 rfl (lv_at hl 0 rfl) ?_
  refine lv_iconst (v := (0 : Int32)) hx hb dX1_init_31 (by decide) ?_
  refine g_put (ci := 1) (v := .int (0 : Int32)) hx hb hts iw1 tyX1 tyX1_ok nmX1 hown hK hw (b) 3 0 ⟨by omega, t0⟩ (by decide) rfl (by decide) rfl (hq _ qw189) (fun _ h9 => h9) rfl (fV_i (jb 3 (by decide))) (nq (rn 3 (by decide) (by decide))) rfl rfl dX1_init_32 (fun H locs hw => ?_)
  refine lv_aload_n hx hb dX1_init_35 rfl (lv_at hl 0 rfl) ?_
  refine lv_iconst (v := (0 : Int32)) hx hb dX1_init_36 (by decide) ?_
  refine g_put (ci := 1) (v := .int (0 : Int32)) hx hb hts iw1 tyX1 tyX1_ok nmX1 hown hK hw (b) 4 0 ⟨by omega, t0⟩ (by decide) rfl (by decide) rfl (hq _ qw193) (fun _ h9 => h9) rfl (fV_i (jb 4 (by decide))) (nq (rn 4 (by decide) (by decide))) rfl rfl dX1_init_37 (fun H locs hw => ?_)
  refine lv_aload_n hx hb dX1_init_40 rfl (lv_at hl 0 rfl) ?_
  refine lv_iconst (v := (0 : Int32)) hx hb dX1_init_41 (by decide) ?_
  refine g_put (ci := 1) (v := .int (0 : Int32)) hx hb hts iw1 tyX1 tyX1_ok nmX1 hown hK hw (b) 5 0 ⟨by omega, t0⟩ (by decide) rfl (by decide) rfl (hq _ qw197) (fun _ h9 => h9) rfl (fV_i (jb 5 (by decide))) (nq (rn 5 (by decide) (by decide))) rfl rfl dX1_init_42 (fun H locs hw => ?_)
  refine lv_aload_n hx hb dX1_init_45 rfl (lv_at hl 0 rfl) ?_
  refine lv_iconst (v := (1 : Int32)) hx hb dX1_init_46 (by decide) ?_
  refine g_put (ci := 1) (v := .int (1 : Int32)) hx hb hts iw1 tyX1 tyX1_ok nmX1 hown hK hw (b) 6 0 ⟨by omega, t0⟩ (by decide) rfl (by decide) rfl (hq _ qw200) (fun _ h9 => h9) rfl (fV_i (jb 6 (by decide))) (nq (rn 6 (by decide) (by decide))) rfl rfl dX1_init_47 (fun H locs hw => ?_)
  refine lv_aload_n hx hb dX1_init_50 rfl (lv_at hl 0 rfl) ?_
  refine lv_iconst (v := (1 : Int32)) hx hb dX1_init_51 (by decide) ?_
  refine g_put (ci := 1) (v := .int (1 : Int32)) hx hb hts iw1 tyX1 tyX1_ok nmX1 hown hK hw (b) 7 0 ⟨by omega, t0⟩ (by decide) rfl (by decide) rfl (hq _ qw203) (fun _ h9 => h9) rfl (fV_i (jb 7 (by decide))) (nq (rn 7 (by decide) (by decide))) rfl rfl dX1_init_52 (fun H locs hw => ?_)
  refine lv_aload_n hx hb dX1_init_55 rfl (lv_at hl 0 rfl) ?_
  refine lv_iconst (v := (-1 : Int32)) hx hb dX1_init_56 (by decide) ?_
  refine g_put (ci := 1) (v := .int (-1 : Int32)) hx hb hts iw1 tyX1 tyX1_ok nmX1 hown hK hw (b) 8 0 ⟨by omega, t0⟩ (by decide) rfl (by decide) rfl (hq _ qw205) (fun _ h9 => h9) rfl (fV_i (jb 8 (by decide))) (nq (rn 8 (by decide) (by decide))) rfl rfl dX1_init_57 (fun H locs hw => ?_)
  refine lv_aload_n hx hb dX1_init_60 rfl (lv_at hl 0 rfl) ?_
  refine lv_iconst (v := (-1 : Int32)) hx hb dX1_init_61 (by decide) ?_
  refine g_put (ci := 1) (v := .int (-1 : Int32)) hx hb hts iw1 tyX1 tyX1_ok nmX1 hown hK hw (b) 9 0 ⟨by omega, t0⟩ (by decide) rfl (by decide) rfl (hq _ qw206) (fun _ h9 => h9) rfl (fV_i (jb 9 (by decide))) (nq (rn 9 (by decide) (by decide))) rfl rfl dX1_init_62 (fun H locs hw => ?_)
  refine lv_aload_n hx hb dX1_init_65 rfl (lv_at hl 0 rfl) ?_
  refine lv_iconst (v := (0 : Int32)) hx hb dX1_init_66 (by decide) ?_
  refine g_put (ci := 1) (v := .int (0 : Int32)) hx hb hts iw1 tyX1 tyX1_ok nmX1 hown hK hw (b) 10 0 ⟨by omega, t0⟩ (by decide) rfl (by decide) rfl (hq _ qw207) (fun _ h9 => h9) rfl (fV_i (jb 10 (by decide))) (nq (rn 10 (by decide) (by decide))) rfl rfl dX1_init_67 (fun H locs hw => ?_)
  refine lv_iconst (v := (0 : Int32)) hx hb dX1_init_70 (by decide) ?_
  refine lv_istore_n (lv' := [(1, .int ((0 : Int32))), (0, .ref (ad (b)))]) hx hb dX1_init_71 rfl hl (by decide) rfl (fun ls hl => ?_)
  have hw : Wg D cy sh I ad (b + 4 + 0) A s.heap (LM P b 0 0 0) H locs := Wg.mask hw (fun a k => by simp only [pU_t, pW_t, LM_t]; by_cases z : P a k = true <;> simp only [z, or_true, or_false, Bool.false_eq_true] <;> omega)
  exact lp1 6 0 ad H locs ls (by omega) hag hw hl

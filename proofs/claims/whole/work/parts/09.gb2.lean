/-! ===== constructors, by program (ctor.py) ===== -/
theorem dX6_init_0 : decode cX6_init 0 = .ok (.aload_n 0, 1) := by decide +kernel
theorem dX6_init_1 : decode cX6_init 1 = .ok (.invokespecial 1, 3) := by decide +kernel
theorem dX6_init_4 : decode cX6_init 4 = .ok (.aload_n 0, 1) := by decide +kernel
theorem dX6_init_5 : decode cX6_init 5 = .ok (.new 7, 3) := by decide +kernel
theorem dX6_init_8 : decode cX6_init 8 = .ok (.dup, 1) := by decide +kernel
theorem dX6_init_9 : decode cX6_init 9 = .ok (.invokespecial 9, 3) := by decide +kernel
theorem dX6_init_12 : decode cX6_init 12 = .ok (.putfield 10, 3) := by decide +kernel
theorem dX6_init_15 : decode cX6_init 15 = .ok (.aload_n 0, 1) := by decide +kernel
theorem dX6_init_16 : decode cX6_init 16 = .ok (.new 7, 3) := by decide +kernel
theorem dX6_init_19 : decode cX6_init 19 = .ok (.dup, 1) := by decide +kernel
theorem dX6_init_20 : decode cX6_init 20 = .ok (.invokespecial 9, 3) := by decide +kernel
theorem dX6_init_23 : decode cX6_init 23 = .ok (.putfield 16, 3) := by decide +kernel
theorem dX6_init_26 : decode cX6_init 26 = .ok (.aload_n 0, 1) := by decide +kernel
theorem dX6_init_27 : decode cX6_init 27 = .ok (.iconst 0, 1) := by decide +kernel
theorem dX6_init_28 : decode cX6_init 28 = .ok (.putfield 19, 3) := by decide +kernel
theorem dX6_init_31 : decode cX6_init 31 = .ok (.aload_n 0, 1) := by decide +kernel
theorem dX6_init_32 : decode cX6_init 32 = .ok (.new 23, 3) := by decide +kernel
theorem dX6_init_35 : decode cX6_init 35 = .ok (.dup, 1) := by decide +kernel
theorem dX6_init_36 : decode cX6_init 36 = .ok (.invokespecial 25, 3) := by decide +kernel
theorem dX6_init_39 : decode cX6_init 39 = .ok (.putfield 26, 3) := by decide +kernel
theorem dX6_init_42 : decode cX6_init 42 = .ok (.aload_n 0, 1) := by decide +kernel
theorem dX6_init_43 : decode cX6_init 43 = .ok (.aload_n 0, 1) := by decide +kernel
theorem dX6_init_44 : decode cX6_init 44 = .ok (.getfield 26, 3) := by decide +kernel
theorem dX6_init_47 : decode cX6_init 47 = .ok (.getfield 30, 3) := by decide +kernel
theorem dX6_init_50 : decode cX6_init 50 = .ok (.putfield 31, 3) := by decide +kernel
theorem dX6_init_53 : decode cX6_init 53 = .ok (.aload_n 0, 1) := by decide +kernel
theorem dX6_init_54 : decode cX6_init 54 = .ok (.new 34, 3) := by decide +kernel
theorem dX6_init_57 : decode cX6_init 57 = .ok (.dup, 1) := by decide +kernel
theorem dX6_init_58 : decode cX6_init 58 = .ok (.invokespecial 36, 3) := by decide +kernel
theorem dX6_init_61 : decode cX6_init 61 = .ok (.putfield 37, 3) := by decide +kernel
theorem dX6_init_64 : decode cX6_init 64 = .ok (.aload_n 0, 1) := by decide +kernel
theorem dX6_init_65 : decode cX6_init 65 = .ok (.iconst 4, 1) := by decide +kernel
theorem dX6_init_66 : decode cX6_init 66 = .ok (.anewarray 41, 3) := by decide +kernel
theorem dX6_init_69 : decode cX6_init 69 = .ok (.putfield 43, 3) := by decide +kernel
theorem dX6_init_72 : decode cX6_init 72 = .ok (.aload_n 0, 1) := by decide +kernel
theorem dX6_init_73 : decode cX6_init 73 = .ok (.bipush 7, 2) := by decide +kernel
theorem dX6_init_75 : decode cX6_init 75 = .ok (.newarray .int, 2) := by decide +kernel
theorem dX6_init_77 : decode cX6_init 77 = .ok (.putfield 47, 3) := by decide +kernel
theorem dX6_init_80 : decode cX6_init 80 = .ok (.iconst 0, 1) := by decide +kernel
theorem dX6_init_81 : decode cX6_init 81 = .ok (.istore_n 1, 1) := by decide +kernel
theorem dX6_init_82 : decode cX6_init 82 = .ok (.iload_n 1, 1) := by decide +kernel
theorem dX6_init_83 : decode cX6_init 83 = .ok (.iconst 4, 1) := by decide +kernel
theorem dX6_init_84 : decode cX6_init 84 = .ok (.if_icmp .ge 22, 3) := by decide +kernel
theorem dX6_init_87 : decode cX6_init 87 = .ok (.aload_n 0, 1) := by decide +kernel
theorem dX6_init_88 : decode cX6_init 88 = .ok (.getfield 43, 3) := by decide +kernel
theorem dX6_init_91 : decode cX6_init 91 = .ok (.iload_n 1, 1) := by decide +kernel
theorem dX6_init_92 : decode cX6_init 92 = .ok (.new 41, 3) := by decide +kernel
theorem dX6_init_95 : decode cX6_init 95 = .ok (.dup, 1) := by decide +kernel
theorem dX6_init_96 : decode cX6_init 96 = .ok (.invokespecial 51, 3) := by decide +kernel
theorem dX6_init_99 : decode cX6_init 99 = .ok (.aastore, 1) := by decide +kernel
theorem dX6_init_100 : decode cX6_init 100 = .ok (.iinc 1 1, 3) := by decide +kernel
theorem dX6_init_103 : decode cX6_init 103 = .ok (.goto (-21), 3) := by decide +kernel
theorem dX6_init_106 : decode cX6_init 106 = .ok (.return_, 1) := by decide +kernel
def PXe : Nat → Nat → Bool := fun _ _ => false
def PX1 : Nat → Nat → Bool := LM PXe 1 6 8 10
def PX2 : Nat → Nat → Bool := pU PX1 0 0
def PX3 : Nat → Nat → Bool := LM PX2 19 6 8 10
def PX4 : Nat → Nat → Bool := pU PX3 0 1
def PX5 : Nat → Nat → Bool := pU PX4 0 2
def PX6 : Nat → Nat → Bool := pW (LM PX5 38 6 8 10) 37 13
def PX7 : Nat → Nat → Bool := pU PX6 0 3
def PX8 : Nat → Nat → Bool := pU PX7 0 4
def PX9 : Nat → Nat → Bool := pW PX8 61 6
def PX10 : Nat → Nat → Bool := pU PX9 0 5
def PX11 : Nat → Nat → Bool := pU PX10 0 6
def PX12 : Nat → Nat → Bool := pU PX11 0 7
def PX13 : Nat → Nat → Bool := pW PX12 65 3
def PX14 : Nat → Nat → Bool := pU PX13 63 0
def PX15 : Nat → Nat → Bool := pW PX14 67 3
def PX16 : Nat → Nat → Bool := pU PX15 63 1
def PX17 : Nat → Nat → Bool := pW PX16 69 3
def PX18 : Nat → Nat → Bool := pU PX17 63 2
def PX19 : Nat → Nat → Bool := pW PX18 71 3
def PX20 : Nat → Nat → Bool := pU PX19 63 3
def PXf : Nat → Nat → Bool := PX20
theorem c_X6_init (l : Launch) (D : va_G) (cy : Nat → ClassId) (sh : Nat → Nat × Nat) (I : Mm) (A : Nat → Prop) (B : Nat) (hAB : ∀ q, B ≤ q → A q) (ad0 : Nat → Nat) (hXx : isXx sh I) : Met l yX6_init (wU yX6_init cX6_init 2 none) rmC6 (va_Pc [.ref (ad0 (0))] (PreG D cy sh I A B ad0 (1) (PXe))) (QG D cy sh I A B ad0 (1) (73) (PX20)) 72 785 A := by
  refine Met.ofW (cc := cX6_init) (maxL := 2) (ret := none) (by decide) rfl ?_
  intro p e s m args below meth c s₁ B0 hml hv
  obtain ⟨hargs, p1, hK, p3, hB, p5, hEx⟩ := hv
  have hx := B0.exec
  have hb := B0.bytes
  have hr := B0.returns
  have hts := atoms_spec (ws := wU yX6_init cX6_init 2 none) B0.pre
  have hq : ∀ w ∈ gW, w.before args s = true := fun w hw => hts w (List.mem_cons_of_mem _ hw)
  have hcm : ∀ w ∈ gW, w ∈ wU yX6_init cX6_init 2 none := fun w hw => List.mem_cons_of_mem _ hw
  have hown : s.vm.findClass RX6 = some m.cls := findClass_of_methodNamed B0.named
  have hlocks := B0.notSynchronized
  have hin2 : meth.name = "<init>" := (name_of_methodNamed B0.named B0.method).1
  have hF : CallFix p m c cX6_init 2 s args (wU yX6_init cX6_init 2 none) RX6 := ⟨hx, hb, hml, hown, hts⟩
  have hA : ∀ z, s.heap.size ≤ z → A z := fun z hz => hAB z (Nat.le_trans hB hz)
  have hw : Wg D cy sh I ad0 (1) A s.heap PXe s.heap [] := ⟨⟨p1, p3, va_S.rf⟩, p5⟩
  have hag : ∀ z, z < 1 → ad0 z = ad0 z := fun _ _ => rfl
  have iw6 : ∀ w ∈ u_ws RX6 TX6 8, w ∈ wU yX6_init cX6_init 2 none := fun w hw => List.mem_cons_of_mem _ (iX6 w hw)
  have iw5 : ∀ w ∈ u_ws RX5 TX5 13, w ∈ wU yX6_init cX6_init 2 none := fun w hw => List.mem_cons_of_mem _ (iX5 w hw)
  have iw4 : ∀ w ∈ u_ws RX4 TX4 6, w ∈ wU yX6_init cX6_init 2 none := fun w hw => List.mem_cons_of_mem _ (iX4 w hw)
  have iw2 : ∀ w ∈ u_ws RX2 TX2 3, w ∈ wU yX6_init cX6_init 2 none := fun w hw => List.mem_cons_of_mem _ (iX2 w hw)
  have iw1 : ∀ w ∈ u_ws RX1 TX1 11, w ∈ wU yX6_init cX6_init 2 none := fun w hw => List.mem_cons_of_mem _ (iX1 w hw)
  rw [show entryFrame m args 2 = entryFrame m ([.ref (ad0 (0))] : List Value).toArray 2 from by rw [hargs]]
  have hl := lv_entry ([.ref (ad0 (0))]) (n := 2) (Nat.le_of_ble_eq_true rfl)
  rw [lg_entry_eq]
  generalize (lg_sl ([.ref (ad0 (0))]) ++ List.replicate (2 - (lg_sl ([.ref (ad0 (0))])).length) Slot.unset).toArray = ls at hl ⊢
  have hl : lv_has ls 2 [(0, .ref (ad0 (0)))] := hl
  obtain ⟨t0, hL1, hL2, hWk, s61, s62, s63, s64, t5, t6, t7, hSh, r0, r1, r2, r3, r4, r5, r6, r7, j2⟩ := hXx
  refine lv_aload_n hx hb dX6_init_0 rfl (lv_at hl 0 rfl) ?_
  refine W.objInit hx hb hown (hq _ qw79) (hq _ qw80) (hq _ qw81) rfl (by rw [hml]; exact hl.1) rfl dX6_init_1 (Nat.le_of_ble_eq_true rfl) (Nat.le_of_ble_eq_true rfl) ?_
  refine W.eq (g2 := F0 m 4 ls []) rfl ?_
  refine lv_aload_n hx hb dX6_init_4 rfl (lv_at hl 0 rfl) ?_
  refine g_new (ci := 1) hx hb hts iw1 tyX1 tyX1_ok hown (hq _ qw82) (hq _ qw83) (hq _ qw61) hK hw hA rfl (by decide) hL1.1 dfX1 (Nat.le_of_ble_eq_true rfl) (Nat.le_of_ble_eq_true rfl) dX6_init_5 (fun ad H ha hw => ?_)
  rw [← ha (0) (by omega)] at hl ⊢
  replace hag : ∀ z, z < 1 → ad z = ad0 z := fun z hz => (ha z (by omega)).trans (hag z hz)
  have hw : Wg D cy sh I ad (2) A s.heap _ _ _ := hw
  refine lv_dup hx hb dX6_init_8 rfl ?_
  refine g_callI hF (c_X1_init l D cy sh I A B hAB ad 1 PXe hL1) (gW_good hcm qw86) (hq _ qw61) (hq _ qw84) (hq _ qw85) rfl (by decide +kernel) ⟨Nat.le_of_ble_eq_true rfl, Nat.le_of_ble_eq_true rfl⟩ rfl rfl hEx hK hB hw hl.1 (Nat.le_of_ble_eq_true rfl) ⟨Nat.le_of_ble_eq_true rfl, Nat.le_of_ble_eq_true rfl⟩ dX6_init_9 (fun ad H locs ha hw => ?_)
  rw [← ha (1) (by omega)] at ⊢
  rw [← ha (0) (by omega)] at hl ⊢
  replace hag : ∀ z, z < 1 → ad z = ad0 z := fun z hz => (ha z (by omega)).trans (hag z hz)
  have hw : Wg D cy sh I ad (19) A s.heap _ _ _ := hw
  have hw : Wg D cy sh I ad (19) A s.heap PX1 H locs := hw
  refine g_putF (ci := 6) (v := .ref (ad (1))) hx hb hts iw6 tyX6 tyX6_ok nmX6 hown hK hw hin2 (0) 0 2 ⟨by omega, t0⟩ (by decide) rfl (by decide) rfl (hq _ qw335) (fun _ h9 => h9) rfl rfl (fV_r r0) (sq r0 (by omega)) rfl rfl dX6_init_12 (fun H locs hw => ?_)
  have hw : Wg D cy sh I ad (19) A s.heap PX2 H locs := hw
  refine lv_aload_n hx hb dX6_init_15 rfl (lv_at hl 0 rfl) ?_
  refine g_new (ci := 1) hx hb hts iw1 tyX1 tyX1_ok hown (hq _ qw82) (hq _ qw83) (hq _ qw61) hK hw hA rfl (by decide) hL2.1 dfX1 (Nat.le_of_ble_eq_true rfl) (Nat.le_of_ble_eq_true rfl) dX6_init_16 (fun ad H ha hw => ?_)
  rw [← ha (0) (by omega)] at hl ⊢
  replace hag : ∀ z, z < 1 → ad z = ad0 z := fun z hz => (ha z (by omega)).trans (hag z hz)
  have hw : Wg D cy sh I ad (20) A s.heap _ _ _ := hw
  refine lv_dup hx hb dX6_init_19 rfl ?_
  refine g_callI hF (c_X1_init l D cy sh I A B hAB ad 19 PX2 hL2) (gW_good hcm qw86) (hq _ qw61) (hq _ qw84) (hq _ qw85) rfl (by decide +kernel) ⟨Nat.le_of_ble_eq_true rfl, Nat.le_of_ble_eq_true rfl⟩ rfl rfl hEx hK hB hw hl.1 (Nat.le_of_ble_eq_true rfl) ⟨Nat.le_of_ble_eq_true rfl, Nat.le_of_ble_eq_true rfl⟩ dX6_init_20 (fun ad H locs ha hw => ?_)
  rw [← ha (19) (by omega)] at ⊢
  rw [← ha (0) (by omega)] at hl ⊢
  replace hag : ∀ z, z < 1 → ad z = ad0 z := fun z hz => (ha z (by omega)).trans (hag z hz)
  have hw : Wg D cy sh I ad (37) A s.heap _ _ _ := hw
  have hw : Wg D cy sh I ad (37) A s.heap PX3 H locs := hw
  refine g_putF (ci := 6) (v := .ref (ad (19))) hx hb hts iw6 tyX6 tyX6_ok nmX6 hown hK hw hin2 (0) 1 2 ⟨by omega, t0⟩ (by decide) rfl (by decide) rfl (hq _ qw336) (fun _ h9 => h9) rfl rfl (fV_r r1) (sq r1 (by omega)) rfl rfl dX6_init_23 (fun H locs hw => ?_)
  have hw : Wg D cy sh I ad (37) A s.heap PX4 H locs := hw
  refine lv_aload_n hx hb dX6_init_26 rfl (lv_at hl 0 rfl) ?_
  refine lv_iconst (v := (0 : Int32)) hx hb dX6_init_27 (by decide) ?_
  refine g_put (ci := 6) (v := .int (0 : Int32)) hx hb hts iw6 tyX6 tyX6_ok nmX6 hown hK hw (0) 2 0 ⟨by omega, t0⟩ (by decide) rfl (by decide) rfl (hq _ qw337) (fun _ h9 => h9) rfl (fV_i j2) (nq r2) rfl rfl dX6_init_28 (fun H locs hw => ?_)
  have hw : Wg D cy sh I ad (37) A s.heap PX5 H locs := hw
  refine lv_aload_n hx hb dX6_init_31 rfl (lv_at hl 0 rfl) ?_
  refine g_new (ci := 5) hx hb hts iw5 tyX5 tyX5_ok hown (hq _ qw231) (hq _ qw232) (hq _ qw64) hK hw hA rfl (by decide) hWk.1 dfX5 (Nat.le_of_ble_eq_true rfl) (Nat.le_of_ble_eq_true rfl) dX6_init_32 (fun ad H ha hw => ?_)
  rw [← ha (0) (by omega)] at hl ⊢
  replace hag : ∀ z, z < 1 → ad z = ad0 z := fun z hz => (ha z (by omega)).trans (hag z hz)
  have hw : Wg D cy sh I ad (38) A s.heap _ _ _ := hw
  refine lv_dup hx hb dX6_init_35 rfl ?_
  refine g_callN hF (c_X5_init l D cy sh I A B hAB ad PX5 hWk) (gW_good hcm qw235) (hq _ qw64) hEx.2.2.2.2.2.1 (hq _ qw234) rfl (by decide +kernel) ⟨Nat.le_of_ble_eq_true rfl, Nat.le_of_ble_eq_true rfl⟩ rfl rfl hEx hK hB hw hl.1 (Nat.le_of_ble_eq_true rfl) ⟨Nat.le_of_ble_eq_true rfl, Nat.le_of_ble_eq_true rfl⟩ dX6_init_36 (fun ad H locs ha hw => ?_)
  rw [← ha (37) (by omega)] at ⊢
  rw [← ha (0) (by omega)] at hl ⊢
  replace hag : ∀ z, z < 1 → ad z = ad0 z := fun z hz => (ha z (by omega)).trans (hag z hz)
  have hw : Wg D cy sh I ad (61) A s.heap _ _ _ := hw
  have hw : Wg D cy sh I ad (61) A s.heap PX6 H locs := hw
  refine g_putF (ci := 6) (v := .ref (ad (37))) hx hb hts iw6 tyX6 tyX6_ok nmX6 hown hK hw hin2 (0) 3 2 ⟨by omega, t0⟩ (by decide) rfl (by decide) rfl (hq _ qw338) (fun _ h9 => h9) rfl rfl (fV_r r3) (sq r3 (by omega)) rfl rfl dX6_init_39 (fun H locs hw => ?_)
  have hw : Wg D cy sh I ad (61) A s.heap PX7 H locs := hw
  refine lv_aload_n hx hb dX6_init_42 rfl (lv_at hl 0 rfl) ?_
  refine lv_aload_n hx hb dX6_init_43 rfl (lv_at hl 0 rfl) ?_
  refine r_getR hx hb hts iw6 hown hK hw.1 (0) 3 ⟨by omega, t0⟩ (by decide) rfl (by decide) rfl (hq _ qw338) (fun _ h9 => h9) dX6_init_44 (q := 37) (mkP_ref (by decide +kernel) r3) ?_
  refine r_getR hx hb hts iw5 hown hK hw.1 (37) 0 ⟨by omega, hWk.1⟩ (by decide) rfl (by decide) rfl (hq _ qw240) (fun _ h9 => h9) dX6_init_47 (q := 38) (mkP_ref (by decide +kernel) hWk.2.2.2.2.2.2.2.1) ?_
  refine g_putF (ci := 6) (v := .ref (ad (38))) hx hb hts iw6 tyX6 tyX6_ok nmX6 hown hK hw hin2 (0) 4 2 ⟨by omega, t0⟩ (by decide) rfl (by decide) rfl (hq _ qw339) (fun _ h9 => h9) rfl rfl (fV_r r4) (sq r4 (by omega)) rfl rfl dX6_init_50 (fun H locs hw => ?_)
  have hw : Wg D cy sh I ad (61) A s.heap PX8 H locs := hw
  refine lv_aload_n hx hb dX6_init_53 rfl (lv_at hl 0 rfl) ?_
  refine g_new (ci := 4) hx hb hts iw4 tyX4 tyX4_ok hown (hq _ qw289) (hq _ qw290) (hq _ qw65) hK hw hA rfl (by decide) s61 dfX4 (Nat.le_of_ble_eq_true rfl) (Nat.le_of_ble_eq_true rfl) dX6_init_54 (fun ad H ha hw => ?_)
  rw [← ha (0) (by omega)] at hl ⊢
  replace hag : ∀ z, z < 1 → ad z = ad0 z := fun z hz => (ha z (by omega)).trans (hag z hz)
  have hw : Wg D cy sh I ad (62) A s.heap _ _ _ := hw
  refine lv_dup hx hb dX6_init_57 rfl ?_
  refine g_callN hF (c_X4_init l D cy sh I A B hAB ad 61 PX8 s61 s62 t5 t6 t7) (gW_good hcm qw293) (hq _ qw65) hEx.2.2.2.2.2.2.1 (hq _ qw292) rfl (by decide +kernel) ⟨Nat.le_of_ble_eq_true rfl, Nat.le_of_ble_eq_true rfl⟩ rfl rfl hEx hK hB hw hl.1 (Nat.le_of_ble_eq_true rfl) ⟨Nat.le_of_ble_eq_true rfl, Nat.le_of_ble_eq_true rfl⟩ dX6_init_58 (fun ad H locs ha hw => ?_)
  rw [← ha (61) (by omega)] at ⊢
  rw [← ha (0) (by omega)] at hl ⊢
  replace hag : ∀ z, z < 1 → ad z = ad0 z := fun z hz => (ha z (by omega)).trans (hag z hz)
  have hw : Wg D cy sh I ad (63) A s.heap _ _ _ := hw
  have hw : Wg D cy sh I ad (63) A s.heap PX9 H locs := hw
  refine g_putF (ci := 6) (v := .ref (ad (61))) hx hb hts iw6 tyX6 tyX6_ok nmX6 hown hK hw hin2 (0) 5 2 ⟨by omega, t0⟩ (by decide) rfl (by decide) rfl (hq _ qw340) (fun _ h9 => h9) rfl rfl (fV_r r5) (sq r5 (by omega)) rfl rfl dX6_init_61 (fun H locs hw => ?_)
  have hw : Wg D cy sh I ad (63) A s.heap PX10 H locs := hw
  refine lv_aload_n hx hb dX6_init_64 rfl (lv_at hl 0 rfl) ?_
  refine lv_iconst (v := (4 : Int32)) hx hb dX6_init_65 (by decide) ?_
  refine g_newR hx hb hown (hq _ qw315) hEx.2.2.1 hK hw hA 4 (by decide) rfl s63 (by decide) (by decide) (Nat.le_of_ble_eq_true rfl) (Nat.le_of_ble_eq_true rfl) (Nat.le_of_ble_eq_true rfl) dX6_init_66 (fun ad H ha hw => ?_)
  rw [← ha (0) (by omega)] at hl ⊢
  replace hag : ∀ z, z < 1 → ad z = ad0 z := fun z hz => (ha z (by omega)).trans (hag z hz)
  have hw : Wg D cy sh I ad (64) A s.heap _ _ _ := hw
  refine g_putF (ci := 6) (v := .ref (ad (63))) hx hb hts iw6 tyX6 tyX6_ok nmX6 hown hK hw hin2 (0) 6 2 ⟨by omega, t0⟩ (by decide) rfl (by decide) rfl (hq _ qw341) (fun _ h9 => h9) rfl rfl (fV_r r6) (sq r6 (by omega)) rfl rfl dX6_init_69 (fun H locs hw => ?_)
  have hw : Wg D cy sh I ad (64) A s.heap PX11 H locs := hw
  refine lv_aload_n hx hb dX6_init_72 rfl (lv_at hl 0 rfl) ?_
  refine lv_bipush (v := (7 : Int32)) hx hb dX6_init_73 (by decide) ?_
  refine g_newI hx hb (hq _ qa0) hK hw hA s64 (by decide) (by decide) (Nat.le_of_ble_eq_true rfl) (Nat.le_of_ble_eq_true rfl) (Nat.le_of_ble_eq_true rfl) dX6_init_75 (fun ad H ha hw => ?_)
  rw [← ha (0) (by omega)] at hl ⊢
  replace hag : ∀ z, z < 1 → ad z = ad0 z := fun z hz => (ha z (by omega)).trans (hag z hz)
  have hw : Wg D cy sh I ad (65) A s.heap _ _ _ := hw
  refine g_putF (ci := 6) (v := .ref (ad (64))) hx hb hts iw6 tyX6 tyX6_ok nmX6 hown hK hw hin2 (0) 7 2 ⟨by omega, t0⟩ (by decide) rfl (by decide) rfl (hq _ qw342) (fun _ h9 => h9) rfl rfl (fV_r r7) (sq r7 (by omega)) rfl rfl dX6_init_77 (fun H locs hw => ?_)
  have hw : Wg D cy sh I ad (65) A s.heap PX12 H locs := hw
  refine lv_iconst (v := (0 : Int32)) hx hb dX6_init_80 (by decide) ?_
  refine lv_istore_n (lv' := [(1, .int ((0 : Int32))), (0, .ref (ad (0)))]) hx hb dX6_init_81 rfl hl (by decide) rfl (fun ls hl => ?_)
  refine lv_iload_n hx hb dX6_init_82 rfl (lv_at hl 0 rfl) ?_
  refine lv_iconst (v := (4 : Int32)) hx hb dX6_init_83 (by decide) ?_
  refine lv_icmp_ge (tgt := 106) hx hb dX6_init_84 (by decide) (fun c1 => absurd c1 (by decide)) (fun c1 => ?_)
  refine lv_aload_n hx hb dX6_init_87 rfl (lv_at hl 1 rfl) ?_
  refine r_getR hx hb hts iw6 hown hK hw.1 (0) 6 ⟨by omega, t0⟩ (by decide) rfl (by decide) rfl (hq _ qw341) (fun _ h9 => h9) dX6_init_88 (q := 63) (mkP_ref (by decide +kernel) r6) ?_
  refine lv_iload_n hx hb dX6_init_91 rfl (lv_at hl 0 rfl) ?_
  refine g_new (ci := 2) hx hb hts iw2 tyX2 tyX2_ok hown (hq _ qw315) (hq _ qw317) (hq _ qw66) hK hw hA rfl (by decide) (hSh 0 (by omega)).1 dfX2 (Nat.le_of_ble_eq_true rfl) (Nat.le_of_ble_eq_true rfl) dX6_init_92 (fun ad H ha hw => ?_)
  rw [← ha (63) (by omega)] at ⊢
  rw [← ha (0) (by omega)] at hl
  replace hag : ∀ z, z < 1 → ad z = ad0 z := fun z hz => (ha z (by omega)).trans (hag z hz)
  have hw : Wg D cy sh I ad (66) A s.heap _ _ _ := hw
  refine lv_dup hx hb dX6_init_95 rfl ?_
  refine g_callN hF (c_X2_init l D cy sh I A B hAB ad 65 PX12 (hSh 0 (by omega)).1 (hSh 0 (by omega)).2.1 (hSh 0 (by omega)).2.2.1 (hSh 0 (by omega)).2.2.2.1 (hSh 0 (by omega)).2.2.2.2.1) (gW_good hcm qw320) (hq _ qw66) hEx.2.2.2.2.2.2.2 (hq _ qw319) rfl (by decide +kernel) ⟨Nat.le_of_ble_eq_true rfl, Nat.le_of_ble_eq_true rfl⟩ rfl rfl hEx hK hB hw hl.1 (Nat.le_of_ble_eq_true rfl) ⟨Nat.le_of_ble_eq_true rfl, Nat.le_of_ble_eq_true rfl⟩ dX6_init_96 (fun ad H locs ha hw => ?_)
  rw [← ha (65) (by omega)] at ⊢
  rw [← ha (63) (by omega)] at ⊢
  rw [← ha (0) (by omega)] at hl
  replace hag : ∀ z, z < 1 → ad z = ad0 z := fun z hz => (ha z (by omega)).trans (hag z hz)
  have hw : Wg D cy sh I ad (67) A s.heap _ _ _ := hw
  have hw : Wg D cy sh I ad (67) A s.heap PX13 H locs := hw
  refine g_aast (r := (RX2, TX2, 3)) hx hb hK hw 63 0 4 65 2 (by decide) rfl ⟨⟨by omega, by rw [s63]⟩, by rw [s63]; decide⟩ (by decide) (hSh 0 (by omega)).2.2.2.2.2 ⟨by omega, (hSh 0 (by omega)).1⟩ (by decide) rfl dX6_init_99 (fun H locs hw => ?_)
  have hw : Wg D cy sh I ad (67) A s.heap PX14 H locs := hw
  refine lv_iinc (v := (1 : Int32)) (lv' := [(1, .int ((1 : Int32))), (0, .ref (ad (0)))]) hx hb dX6_init_100 hl (k := 0) rfl (by decide) (by decide) rfl (fun ls hl => ?_)
  refine lv_goto (tgt := 82) hx hb dX6_init_103 (by decide) ?_
  refine lv_iload_n hx hb dX6_init_82 rfl (lv_at hl 0 rfl) ?_
  refine lv_iconst (v := (4 : Int32)) hx hb dX6_init_83 (by decide) ?_
  refine lv_icmp_ge (tgt := 106) hx hb dX6_init_84 (by decide) (fun c1 => absurd c1 (by decide)) (fun c1 => ?_)
  refine lv_aload_n hx hb dX6_init_87 rfl (lv_at hl 1 rfl) ?_
  refine r_getR hx hb hts iw6 hown hK hw.1 (0) 6 ⟨by omega, t0⟩ (by decide) rfl (by decide) rfl (hq _ qw341) (fun _ h9 => h9) dX6_init_88 (q := 63) (mkP_ref (by decide +kernel) r6) ?_
  refine lv_iload_n hx hb dX6_init_91 rfl (lv_at hl 0 rfl) ?_
  refine g_new (ci := 2) hx hb hts iw2 tyX2 tyX2_ok hown (hq _ qw315) (hq _ qw317) (hq _ qw66) hK hw hA rfl (by decide) (hSh 1 (by omega)).1 dfX2 (Nat.le_of_ble_eq_true rfl) (Nat.le_of_ble_eq_true rfl) dX6_init_92 (fun ad H ha hw => ?_)
  rw [← ha (63) (by omega)] at ⊢
  rw [← ha (0) (by omega)] at hl
  replace hag : ∀ z, z < 1 → ad z = ad0 z := fun z hz => (ha z (by omega)).trans (hag z hz)
  have hw : Wg D cy sh I ad (68) A s.heap _ _ _ := hw
  refine lv_dup hx hb dX6_init_95 rfl ?_
  refine g_callN hF (c_X2_init l D cy sh I A B hAB ad 67 PX14 (hSh 1 (by omega)).1 (hSh 1 (by omega)).2.1 (hSh 1 (by omega)).2.2.1 (hSh 1 (by omega)).2.2.2.1 (hSh 1 (by omega)).2.2.2.2.1) (gW_good hcm qw320) (hq _ qw66) hEx.2.2.2.2.2.2.2 (hq _ qw319) rfl (by decide +kernel) ⟨Nat.le_of_ble_eq_true rfl, Nat.le_of_ble_eq_true rfl⟩ rfl rfl hEx hK hB hw hl.1 (Nat.le_of_ble_eq_true rfl) ⟨Nat.le_of_ble_eq_true rfl, Nat.le_of_ble_eq_true rfl⟩ dX6_init_96 (fun ad H locs ha hw => ?_)
  rw [← ha (67) (by omega)] at ⊢
  rw [← ha (63) (by omega)] at ⊢
  rw [← ha (0) (by omega)] at hl
  replace hag : ∀ z, z < 1 → ad z = ad0 z := fun z hz => (ha z (by omega)).trans (hag z hz)
  have hw : Wg D cy sh I ad (69) A s.heap _ _ _ := hw
  have hw : Wg D cy sh I ad (69) A s.heap PX15 H locs := hw
  refine g_aast (r := (RX2, TX2, 3)) hx hb hK hw 63 1 4 67 2 (by decide) rfl ⟨⟨by omega, by rw [s63]⟩, by rw [s63]; decide⟩ (by decide) (hSh 1 (by omega)).2.2.2.2.2 ⟨by omega, (hSh 1 (by omega)).1⟩ (by decide) rfl dX6_init_99 (fun H locs hw => ?_)
  have hw : Wg D cy sh I ad (69) A s.heap PX16 H locs := hw
  refine lv_iinc (v := (2 : Int32)) (lv' := [(1, .int ((2 : Int32))), (0, .ref (ad (0)))]) hx hb dX6_init_100 hl (k := 0) rfl (by decide) (by decide) rfl (fun ls hl => ?_)
  refine lv_goto (tgt := 82) hx hb dX6_init_103 (by decide) ?_
  refine lv_iload_n hx hb dX6_init_82 rfl (lv_at hl 0 rfl) ?_
  refine lv_iconst (v := (4 : Int32)) hx hb dX6_init_83 (by decide) ?_
  refine lv_icmp_ge (tgt := 106) hx hb dX6_init_84 (by decide) (fun c1 => absurd c1 (by decide)) (fun c1 => ?_)
  refine lv_aload_n hx hb dX6_init_87 rfl (lv_at hl 1 rfl) ?_
  refine r_getR hx hb hts iw6 hown hK hw.1 (0) 6 ⟨by omega, t0⟩ (by decide) rfl (by decide) rfl (hq _ qw341) (fun _ h9 => h9) dX6_init_88 (q := 63) (mkP_ref (by decide +kernel) r6) ?_
  refine lv_iload_n hx hb dX6_init_91 rfl (lv_at hl 0 rfl) ?_
  refine g_new (ci := 2) hx hb hts iw2 tyX2 tyX2_ok hown (hq _ qw315) (hq _ qw317) (hq _ qw66) hK hw hA rfl (by decide) (hSh 2 (by omega)).1 dfX2 (Nat.le_of_ble_eq_true rfl) (Nat.le_of_ble_eq_true rfl) dX6_init_92 (fun ad H ha hw => ?_)
  rw [← ha (63) (by omega)] at ⊢
  rw [← ha (0) (by omega)] at hl
  replace hag : ∀ z, z < 1 → ad z = ad0 z := fun z hz => (ha z (by omega)).trans (hag z hz)
  have hw : Wg D cy sh I ad (70) A s.heap _ _ _ := hw
  refine lv_dup hx hb dX6_init_95 rfl ?_
  refine g_callN hF (c_X2_init l D cy sh I A B hAB ad 69 PX16 (hSh 2 (by omega)).1 (hSh 2 (by omega)).2.1 (hSh 2 (by omega)).2.2.1 (hSh 2 (by omega)).2.2.2.1 (hSh 2 (by omega)).2.2.2.2.1) (gW_good hcm qw320) (hq _ qw66) hEx.2.2.2.2.2.2.2 (hq _ qw319) rfl (by decide +kernel) ⟨Nat.le_of_ble_eq_true rfl, Nat.le_of_ble_eq_true rfl⟩ rfl rfl hEx hK hB hw hl.1 (Nat.le_of_ble_eq_true rfl) ⟨Nat.le_of_ble_eq_true rfl, Nat.le_of_ble_eq_true rfl⟩ dX6_init_96 (fun ad H locs ha hw => ?_)
  rw [← ha (69) (by omega)] at ⊢
  rw [← ha (63) (by omega)] at ⊢
  rw [← ha (0) (by omega)] at hl
  replace hag : ∀ z, z < 1 → ad z = ad0 z := fun z hz => (ha z (by omega)).trans (hag z hz)
  have hw : Wg D cy sh I ad (71) A s.heap _ _ _ := hw
  have hw : Wg D cy sh I ad (71) A s.heap PX17 H locs := hw
  refine g_aast (r := (RX2, TX2, 3)) hx hb hK hw 63 2 4 69 2 (by decide) rfl ⟨⟨by omega, by rw [s63]⟩, by rw [s63]; decide⟩ (by decide) (hSh 2 (by omega)).2.2.2.2.2 ⟨by omega, (hSh 2 (by omega)).1⟩ (by decide) rfl dX6_init_99 (fun H locs hw => ?_)
  have hw : Wg D cy sh I ad (71) A s.heap PX18 H locs := hw
  refine lv_iinc (v := (3 : Int32)) (lv' := [(1, .int ((3 : Int32))), (0, .ref (ad (0)))]) hx hb dX6_init_100 hl (k := 0) rfl (by decide) (by decide) rfl (fun ls hl => ?_)
  refine lv_goto (tgt := 82) hx hb dX6_init_103 (by decide) ?_
  refine lv_iload_n hx hb dX6_init_82 rfl (lv_at hl 0 rfl) ?_
  refine lv_iconst (v := (4 : Int32)) hx hb dX6_init_83 (by decide) ?_
  refine lv_icmp_ge (tgt := 106) hx hb dX6_init_84 (by decide) (fun c1 => absurd c1 (by decide)) (fun c1 => ?_)
  refine lv_aload_n hx hb dX6_init_87 rfl (lv_at hl 1 rfl) ?_
  refine r_getR hx hb hts iw6 hown hK hw.1 (0) 6 ⟨by omega, t0⟩ (by decide) rfl (by decide) rfl (hq _ qw341) (fun _ h9 => h9) dX6_init_88 (q := 63) (mkP_ref (by decide +kernel) r6) ?_
  refine lv_iload_n hx hb dX6_init_91 rfl (lv_at hl 0 rfl) ?_
  refine g_new (ci := 2) hx hb hts iw2 tyX2 tyX2_ok hown (hq _ qw315) (hq _ qw317) (hq _ qw66) hK hw hA rfl (by decide) (hSh 3 (by omega)).1 dfX2 (Nat.le_of_ble_eq_true rfl) (Nat.le_of_ble_eq_true rfl) dX6_init_92 (fun ad H ha hw => ?_)
  rw [← ha (63) (by omega)] at ⊢
  rw [← ha (0) (by omega)] at hl
  replace hag : ∀ z, z < 1 → ad z = ad0 z := fun z hz => (ha z (by omega)).trans (hag z hz)
  have hw : Wg D cy sh I ad (72) A s.heap _ _ _ := hw
  refine lv_dup hx hb dX6_init_95 rfl ?_
  refine g_callN hF (c_X2_init l D cy sh I A B hAB ad 71 PX18 (hSh 3 (by omega)).1 (hSh 3 (by omega)).2.1 (hSh 3 (by omega)).2.2.1 (hSh 3 (by omega)).2.2.2.1 (hSh 3 (by omega)).2.2.2.2.1) (gW_good hcm qw320) (hq _ qw66) hEx.2.2.2.2.2.2.2 (hq _ qw319) rfl (by decide +kernel) ⟨Nat.le_of_ble_eq_true rfl, Nat.le_of_ble_eq_true rfl⟩ rfl rfl hEx hK hB hw hl.1 (Nat.le_of_ble_eq_true rfl) ⟨Nat.le_of_ble_eq_true rfl, Nat.le_of_ble_eq_true rfl⟩ dX6_init_96 (fun ad H locs ha hw => ?_)
  rw [← ha (71) (by omega)] at ⊢
  rw [← ha (63) (by omega)] at ⊢
  rw [← ha (0) (by omega)] at hl
  replace hag : ∀ z, z < 1 → ad z = ad0 z := fun z hz => (ha z (by omega)).trans (hag z hz)
  have hw : Wg D cy sh I ad (73) A s.heap _ _ _ := hw
  have hw : Wg D cy sh I ad (73) A s.heap PX19 H locs := hw
  refine g_aast (r := (RX2, TX2, 3)) hx hb hK hw 63 3 4 71 2 (by decide) rfl ⟨⟨by omega, by rw [s63]⟩, by rw [s63]; decide⟩ (by decide) (hSh 3 (by omega)).2.2.2.2.2 ⟨by omega, (hSh 3 (by omega)).1⟩ (by decide) rfl dX6_init_99 (fun H locs hw => ?_)
  have hw : Wg D cy sh I ad (73) A s.heap PX20 H locs := hw
  refine lv_iinc (v := (4 : Int32)) (lv' := [(1, .int ((4 : Int32))), (0, .ref (ad (0)))]) hx hb dX6_init_100 hl (k := 0) rfl (by decide) (by decide) rfl (fun ls hl => ?_)
  refine lv_goto (tgt := 82) hx hb dX6_init_103 (by decide) ?_
  refine lv_iload_n hx hb dX6_init_82 rfl (lv_at hl 0 rfl) ?_
  refine lv_iconst (v := (4 : Int32)) hx hb dX6_init_83 (by decide) ?_
  refine lv_icmp_ge (tgt := 106) hx hb dX6_init_84 (by decide) (fun c1 => ?_) (fun c1 => absurd (by decide) c1)
  refine W.widen (k := 72) (n := 785) (by omega) (by omega) ?_
  exact W.vret hx hb hr (fun t ht hW => ⟨⟨ad, rfl, hag, preG_at hEx hK hB hw ht hW⟩, hw.1.2.2.F ht⟩) hw.1.2.2.2.2 dX6_init_106 hlocks

/-! ===== constructors, by program (ctor.py) ===== -/
theorem dX5_init_0 : decode cX5_init 0 = .ok (.aload_n 0, 1) := by decide +kernel
theorem dX5_init_1 : decode cX5_init 1 = .ok (.invokespecial 3, 3) := by decide +kernel
theorem dX5_init_4 : decode cX5_init 4 = .ok (.aload_n 0, 1) := by decide +kernel
theorem dX5_init_5 : decode cX5_init 5 = .ok (.new 9, 3) := by decide +kernel
theorem dX5_init_8 : decode cX5_init 8 = .ok (.dup, 1) := by decide +kernel
theorem dX5_init_9 : decode cX5_init 9 = .ok (.invokespecial 11, 3) := by decide +kernel
theorem dX5_init_12 : decode cX5_init 12 = .ok (.putfield 12, 3) := by decide +kernel
theorem dX5_init_15 : decode cX5_init 15 = .ok (.aload_n 0, 1) := by decide +kernel
theorem dX5_init_16 : decode cX5_init 16 = .ok (.bipush 6, 2) := by decide +kernel
theorem dX5_init_18 : decode cX5_init 18 = .ok (.newarray .long, 2) := by decide +kernel
theorem dX5_init_20 : decode cX5_init 20 = .ok (.putfield 18, 3) := by decide +kernel
theorem dX5_init_23 : decode cX5_init 23 = .ok (.aload_n 0, 1) := by decide +kernel
theorem dX5_init_24 : decode cX5_init 24 = .ok (.bipush 6, 2) := by decide +kernel
theorem dX5_init_26 : decode cX5_init 26 = .ok (.newarray .long, 2) := by decide +kernel
theorem dX5_init_28 : decode cX5_init 28 = .ok (.putfield 22, 3) := by decide +kernel
theorem dX5_init_31 : decode cX5_init 31 = .ok (.aload_n 0, 1) := by decide +kernel
theorem dX5_init_32 : decode cX5_init 32 = .ok (.bipush 8, 2) := by decide +kernel
theorem dX5_init_34 : decode cX5_init 34 = .ok (.newarray .long, 2) := by decide +kernel
theorem dX5_init_36 : decode cX5_init 36 = .ok (.putfield 25, 3) := by decide +kernel
theorem dX5_init_39 : decode cX5_init 39 = .ok (.aload_n 0, 1) := by decide +kernel
theorem dX5_init_40 : decode cX5_init 40 = .ok (.bipush 8, 2) := by decide +kernel
theorem dX5_init_42 : decode cX5_init 42 = .ok (.newarray .long, 2) := by decide +kernel
theorem dX5_init_44 : decode cX5_init 44 = .ok (.putfield 28, 3) := by decide +kernel
theorem dX5_init_47 : decode cX5_init 47 = .ok (.aload_n 0, 1) := by decide +kernel
theorem dX5_init_48 : decode cX5_init 48 = .ok (.bipush 6, 2) := by decide +kernel
theorem dX5_init_50 : decode cX5_init 50 = .ok (.newarray .long, 2) := by decide +kernel
theorem dX5_init_52 : decode cX5_init 52 = .ok (.putfield 31, 3) := by decide +kernel
theorem dX5_init_55 : decode cX5_init 55 = .ok (.aload_n 0, 1) := by decide +kernel
theorem dX5_init_56 : decode cX5_init 56 = .ok (.lconst 1, 1) := by decide +kernel
theorem dX5_init_57 : decode cX5_init 57 = .ok (.putfield 34, 3) := by decide +kernel
theorem dX5_init_60 : decode cX5_init 60 = .ok (.aload_n 0, 1) := by decide +kernel
theorem dX5_init_61 : decode cX5_init 61 = .ok (.iconst 0, 1) := by decide +kernel
theorem dX5_init_62 : decode cX5_init 62 = .ok (.putfield 38, 3) := by decide +kernel
theorem dX5_init_65 : decode cX5_init 65 = .ok (.aload_n 0, 1) := by decide +kernel
theorem dX5_init_66 : decode cX5_init 66 = .ok (.iconst 0, 1) := by decide +kernel
theorem dX5_init_67 : decode cX5_init 67 = .ok (.putfield 42, 3) := by decide +kernel
theorem dX5_init_70 : decode cX5_init 70 = .ok (.aload_n 0, 1) := by decide +kernel
theorem dX5_init_71 : decode cX5_init 71 = .ok (.iconst 0, 1) := by decide +kernel
theorem dX5_init_72 : decode cX5_init 72 = .ok (.putfield 45, 3) := by decide +kernel
theorem dX5_init_75 : decode cX5_init 75 = .ok (.aload_n 0, 1) := by decide +kernel
theorem dX5_init_76 : decode cX5_init 76 = .ok (.iconst 0, 1) := by decide +kernel
theorem dX5_init_77 : decode cX5_init 77 = .ok (.putfield 48, 3) := by decide +kernel
theorem dX5_init_80 : decode cX5_init 80 = .ok (.aload_n 0, 1) := by decide +kernel
theorem dX5_init_81 : decode cX5_init 81 = .ok (.lconst 0, 1) := by decide +kernel
theorem dX5_init_82 : decode cX5_init 82 = .ok (.putfield 52, 3) := by decide +kernel
theorem dX5_init_85 : decode cX5_init 85 = .ok (.aload_n 0, 1) := by decide +kernel
theorem dX5_init_86 : decode cX5_init 86 = .ok (.iconst 0, 1) := by decide +kernel
theorem dX5_init_87 : decode cX5_init 87 = .ok (.putfield 55, 3) := by decide +kernel
theorem dX5_init_90 : decode cX5_init 90 = .ok (.return_, 1) := by decide +kernel
theorem c_X5_init (l : Launch) (D : va_G) (cy : Nat → ClassId) (sh : Nat → Nat × Nat) (I : Mm) (A : Nat → Prop) (B : Nat) (hAB : ∀ q, B ≤ q → A q) (ad0 : Nat → Nat) (P : Nat → Nat → Bool) (hWk : isWk sh I) : Met l yX5_init (wU yX5_init cX5_init 1 none) rmC5 (va_Pc [.ref (ad0 (37))] (PreG D cy sh I A B ad0 (38) (P))) (QG D cy sh I A B ad0 (38) (61) (pW (LM P 38 6 8 10) 37 13)) 23 177 A := by
  refine Met.ofW (cc := cX5_init) (maxL := 1) (ret := none) (by decide) rfl ?_
  intro p e s m args below meth c s₁ B0 hml hv
  obtain ⟨hargs, p1, hK, p3, hB, p5, hEx⟩ := hv
  have hx := B0.exec
  have hb := B0.bytes
  have hr := B0.returns
  have hts := atoms_spec (ws := wU yX5_init cX5_init 1 none) B0.pre
  have hq : ∀ w ∈ gW, w.before args s = true := fun w hw => hts w (List.mem_cons_of_mem _ hw)
  have hcm : ∀ w ∈ gW, w ∈ wU yX5_init cX5_init 1 none := fun w hw => List.mem_cons_of_mem _ hw
  have hown : s.vm.findClass RX5 = some m.cls := findClass_of_methodNamed B0.named
  have hlocks := B0.notSynchronized
  have hin2 : meth.name = "<init>" := (name_of_methodNamed B0.named B0.method).1
  have hF : CallFix p m c cX5_init 1 s args (wU yX5_init cX5_init 1 none) RX5 := ⟨hx, hb, hml, hown, hts⟩
  have hA : ∀ z, s.heap.size ≤ z → A z := fun z hz => hAB z (Nat.le_trans hB hz)
  have hw : Wg D cy sh I ad0 (38) A s.heap P s.heap [] := ⟨⟨p1, p3, va_S.rf⟩, p5⟩
  have hag : ∀ z, z < 38 → ad0 z = ad0 z := fun _ _ => rfl
  have iw5 : ∀ w ∈ u_ws RX5 TX5 13, w ∈ wU yX5_init cX5_init 1 none := fun w hw => List.mem_cons_of_mem _ (iX5 w hw)
  have iw1 : ∀ w ∈ u_ws RX1 TX1 11, w ∈ wU yX5_init cX5_init 1 none := fun w hw => List.mem_cons_of_mem _ (iX1 w hw)
  rw [show entryFrame m args 1 = entryFrame m ([.ref (ad0 (37))] : List Value).toArray 1 from by rw [hargs]]
  have hl := lv_entry ([.ref (ad0 (37))]) (n := 1) (Nat.le_of_ble_eq_true rfl)
  rw [lg_entry_eq]
  generalize (lg_sl ([.ref (ad0 (37))]) ++ List.replicate (1 - (lg_sl ([.ref (ad0 (37))])).length) Slot.unset).toArray = ls at hl ⊢
  have hl : lv_has ls 1 [(0, .ref (ad0 (37)))] := hl
  obtain ⟨t0, hLg, s56, s57, s58, s59, s60, r0, r1, r2, r3, r4, r5, rn, ji, l6, l11⟩ := hWk
  refine lv_aload_n hx hb dX5_init_0 rfl (lv_at hl 0 rfl) ?_
  refine W.objInit hx hb hown (hq _ qw236) (hq _ qw80) (hq _ qw81) rfl (by rw [hml]; exact hl.1) rfl dX5_init_1 (Nat.le_of_ble_eq_true rfl) (Nat.le_of_ble_eq_true rfl) ?_
  refine W.eq (g2 := F0 m 4 ls []) rfl ?_
  refine lv_aload_n hx hb dX5_init_4 rfl (lv_at hl 0 rfl) ?_
  refine g_new (ci := 1) hx hb hts iw1 tyX1 tyX1_ok hown (hq _ qw237) (hq _ qw83) (hq _ qw61) hK hw hA rfl (by decide) hLg.1 dfX1 (Nat.le_of_ble_eq_true rfl) (Nat.le_of_ble_eq_true rfl) dX5_init_5 (fun ad H ha hw => ?_)
  rw [← ha (37) (by omega)] at hl ⊢
  replace hag : ∀ z, z < 38 → ad z = ad0 z := fun z hz => (ha z (by omega)).trans (hag z hz)
  have hw : Wg D cy sh I ad (39) A s.heap _ _ _ := hw
  refine lv_dup hx hb dX5_init_8 rfl ?_
  refine g_callI hF (c_X1_init l D cy sh I A B hAB ad 38 P hLg) (gW_good hcm qw86) (hq _ qw61) (hq _ qw238) (hq _ qw85) rfl (by decide +kernel) ⟨Nat.le_of_ble_eq_true rfl, Nat.le_of_ble_eq_true rfl⟩ rfl rfl hEx hK hB hw hl.1 (Nat.le_of_ble_eq_true rfl) ⟨Nat.le_of_ble_eq_true rfl, Nat.le_of_ble_eq_true rfl⟩ dX5_init_9 (fun ad H locs ha hw => ?_)
  rw [← ha (38) (by omega)] at ⊢
  rw [← ha (37) (by omega)] at hl ⊢
  replace hag : ∀ z, z < 38 → ad z = ad0 z := fun z hz => (ha z (by omega)).trans (hag z hz)
  have hw : Wg D cy sh I ad (56) A s.heap _ _ _ := hw
  refine g_putF (ci := 5) (v := .ref (ad (38))) hx hb hts iw5 tyX5 tyX5_ok nmX5 hown hK hw hin2 (37) 0 2 ⟨by omega, t0⟩ (by decide) rfl (by decide) rfl (hq _ qw239) (fun _ h9 => h9) rfl rfl (fV_r r0) (sq r0 (by omega)) rfl rfl dX5_init_12 (fun H locs hw => ?_)
  refine lv_aload_n hx hb dX5_init_15 rfl (lv_at hl 0 rfl) ?_
  refine lv_bipush (v := (6 : Int32)) hx hb dX5_init_16 (by decide) ?_
  refine g_newL hx hb (hq _ qa1) hK hw hA s56 (by decide) (by decide) (Nat.le_of_ble_eq_true rfl) (Nat.le_of_ble_eq_true rfl) (Nat.le_of_ble_eq_true rfl) dX5_init_18 (fun ad H ha hw => ?_)
  rw [← ha (37) (by omega)] at hl ⊢
  replace hag : ∀ z, z < 38 → ad z = ad0 z := fun z hz => (ha z (by omega)).trans (hag z hz)
  have hw : Wg D cy sh I ad (57) A s.heap _ _ _ := hw
  refine g_putF (ci := 5) (v := .ref (ad (56))) hx hb hts iw5 tyX5 tyX5_ok nmX5 hown hK hw hin2 (37) 1 2 ⟨by omega, t0⟩ (by decide) rfl (by decide) rfl (hq _ qw241) (fun _ h9 => h9) rfl rfl (fV_r r1) (sq r1 (by omega)) rfl rfl dX5_init_20 (fun H locs hw => ?_)
  refine lv_aload_n hx hb dX5_init_23 rfl (lv_at hl 0 rfl) ?_
  refine lv_bipush (v := (6 : Int32)) hx hb dX5_init_24 (by decide) ?_
  refine g_newL hx hb (hq _ qa1) hK hw hA s57 (by decide) (by decide) (Nat.le_of_ble_eq_true rfl) (Nat.le_of_ble_eq_true rfl) (Nat.le_of_ble_eq_true rfl) dX5_init_26 (fun ad H ha hw => ?_)
  rw [← ha (37) (by omega)] at hl ⊢
  replace hag : ∀ z, z < 38 → ad z = ad0 z := fun z hz => (ha z (by omega)).trans (hag z hz)
  have hw : Wg D cy sh I ad (58) A s.heap _ _ _ := hw
  refine g_putF (ci := 5) (v := .ref (ad (57))) hx hb hts iw5 tyX5 tyX5_ok nmX5 hown hK hw hin2 (37) 2 2 ⟨by omega, t0⟩ (by decide) rfl (by decide) rfl (hq _ qw243) (fun _ h9 => h9) rfl rfl (fV_r r2) (sq r2 (by omega)) rfl rfl dX5_init_28 (fun H locs hw => ?_)
  refine lv_aload_n hx hb dX5_init_31 rfl (lv_at hl 0 rfl) ?_
  refine lv_bipush (v := (8 : Int32)) hx hb dX5_init_32 (by decide) ?_
  refine g_newL hx hb (hq _ qa1) hK hw hA s58 (by decide) (by decide) (Nat.le_of_ble_eq_true rfl) (Nat.le_of_ble_eq_true rfl) (Nat.le_of_ble_eq_true rfl) dX5_init_34 (fun ad H ha hw => ?_)
  rw [← ha (37) (by omega)] at hl ⊢
  replace hag : ∀ z, z < 38 → ad z = ad0 z := fun z hz => (ha z (by omega)).trans (hag z hz)
  have hw : Wg D cy sh I ad (59) A s.heap _ _ _ := hw
  refine g_putF (ci := 5) (v := .ref (ad (58))) hx hb hts iw5 tyX5 tyX5_ok nmX5 hown hK hw hin2 (37) 3 2 ⟨by omega, t0⟩ (by decide) rfl (by decide) rfl (hq _ qw245) (fun _ h9 => h9) rfl rfl (fV_r r3) (sq r3 (by omega)) rfl rfl dX5_init_36 (fun H locs hw => ?_)
  refine lv_aload_n hx hb dX5_init_39 rfl (lv_at hl 0 rfl) ?_
  refine lv_bipush (v := (8 : Int32)) hx hb dX5_init_40 (by decide) ?_
  refine g_newL hx hb (hq _ qa1) hK hw hA s59 (by decide) (by decide) (Nat.le_of_ble_eq_true rfl) (Nat.le_of_ble_eq_true rfl) (Nat.le_of_ble_eq_true rfl) dX5_init_42 (fun ad H ha hw => ?_)
  rw [← ha (37) (by omega)] at hl ⊢
  replace hag : ∀ z, z < 38 → ad z = ad0 z := fun z hz => (ha z (by omega)).trans (hag z hz)
  have hw : Wg D cy sh I ad (60) A s.heap _ _ _ := hw
  refine g_putF (ci := 5) (v := .ref (ad (59))) hx hb hts iw5 tyX5 tyX5_ok nmX5 hown hK hw hin2 (37) 4 2 ⟨by omega, t0⟩ (by decide) rfl (by decide) rfl (hq _ qw247) (fun _ h9 => h9) rfl rfl (fV_r r4) (sq r4 (by omega)) rfl rfl dX5_init_44 (fun H locs hw => ?_)
  refine lv_aload_n hx hb dX5_init_47 rfl (lv_at hl 0 rfl) ?_
  refine lv_bipush (v := (6 : Int32)) hx hb dX5_init_48 (by decide) ?_
  refine g_newL hx hb (hq _ qa1) hK hw hA s60 (by decide) (by decide) (Nat.le_of_ble_eq_true rfl) (Nat.le_of_ble_eq_true rfl) (Nat.le_of_ble_eq_true rfl) dX5_init_50 (fun ad H ha hw => ?_)
  rw [← ha (37) (by omega)] at hl ⊢
  replace hag : ∀ z, z < 38 → ad z = ad0 z := fun z hz => (ha z (by omega)).trans (hag z hz)
  have hw : Wg D cy sh I ad (61) A s.heap _ _ _ := hw
  refine g_putF (ci := 5) (v := .ref (ad (60))) hx hb hts iw5 tyX5 tyX5_ok nmX5 hown hK hw hin2 (37) 5 2 ⟨by omega, t0⟩ (by decide) rfl (by decide) rfl (hq _ qw249) (fun _ h9 => h9) rfl rfl (fV_r r5) (sq r5 (by omega)) rfl rfl dX5_init_52 (fun H locs hw => ?_)
  refine lv_aload_n hx hb dX5_init_55 rfl (lv_at hl 0 rfl) ?_
  refine lv_lconst (v := (1 : Int64)) hx hb dX5_init_56 (by decide) ?_
  refine g_put (ci := 5) (v := .long (1 : Int64)) hx hb hts iw5 tyX5 tyX5_ok nmX5 hown hK hw (37) 6 1 ⟨by omega, t0⟩ (by decide) rfl (by decide) rfl (hq _ qw250) (fun _ h9 => h9) rfl (fV_l l6) (nq (rn 6 (by decide) (by decide))) rfl rfl dX5_init_57 (fun H locs hw => ?_)
  refine lv_aload_n hx hb dX5_init_60 rfl (lv_at hl 0 rfl) ?_
  refine lv_iconst (v := (0 : Int32)) hx hb dX5_init_61 (by decide) ?_
  refine g_put (ci := 5) (v := .int (0 : Int32)) hx hb hts iw5 tyX5 tyX5_ok nmX5 hown hK hw (37) 7 0 ⟨by omega, t0⟩ (by decide) rfl (by decide) rfl (hq _ qw252) (fun _ h9 => h9) rfl (fV_i (ji 7 (by decide))) (nq (rn 7 (by decide) (by decide))) rfl rfl dX5_init_62 (fun H locs hw => ?_)
  refine lv_aload_n hx hb dX5_init_65 rfl (lv_at hl 0 rfl) ?_
  refine lv_iconst (v := (0 : Int32)) hx hb dX5_init_66 (by decide) ?_
  refine g_put (ci := 5) (v := .int (0 : Int32)) hx hb hts iw5 tyX5 tyX5_ok nmX5 hown hK hw (37) 8 0 ⟨by omega, t0⟩ (by decide) rfl (by decide) rfl (hq _ qw254) (fun _ h9 => h9) rfl (fV_i (ji 8 (by decide))) (nq (rn 8 (by decide) (by decide))) rfl rfl dX5_init_67 (fun H locs hw => ?_)
  refine lv_aload_n hx hb dX5_init_70 rfl (lv_at hl 0 rfl) ?_
  refine lv_iconst (v := (0 : Int32)) hx hb dX5_init_71 (by decide) ?_
  refine g_put (ci := 5) (v := .int (0 : Int32)) hx hb hts iw5 tyX5 tyX5_ok nmX5 hown hK hw (37) 9 0 ⟨by omega, t0⟩ (by decide) rfl (by decide) rfl (hq _ qw255) (fun _ h9 => h9) rfl (fV_i (ji 9 (by decide))) (nq (rn 9 (by decide) (by decide))) rfl rfl dX5_init_72 (fun H locs hw => ?_)
  refine lv_aload_n hx hb dX5_init_75 rfl (lv_at hl 0 rfl) ?_
  refine lv_iconst (v := (0 : Int32)) hx hb dX5_init_76 (by decide) ?_
  refine g_put (ci := 5) (v := .int (0 : Int32)) hx hb hts iw5 tyX5 tyX5_ok nmX5 hown hK hw (37) 10 0 ⟨by omega, t0⟩ (by decide) rfl (by decide) rfl (hq _ qw256) (fun _ h9 => h9) rfl (fV_i (ji 10 (by decide))) (nq (rn 10 (by decide) (by decide))) rfl rfl dX5_init_77 (fun H locs hw => ?_)
  refine lv_aload_n hx hb dX5_init_80 rfl (lv_at hl 0 rfl) ?_
  refine lv_lconst (v := (0 : Int64)) hx hb dX5_init_81 (by decide) ?_
  refine g_put (ci := 5) (v := .long (0 : Int64)) hx hb hts iw5 tyX5 tyX5_ok nmX5 hown hK hw (37) 11 1 ⟨by omega, t0⟩ (by decide) rfl (by decide) rfl (hq _ qw257) (fun _ h9 => h9) rfl (fV_l l11) (nq (rn 11 (by decide) (by decide))) rfl rfl dX5_init_82 (fun H locs hw => ?_)
  refine lv_aload_n hx hb dX5_init_85 rfl (lv_at hl 0 rfl) ?_
  refine lv_iconst (v := (0 : Int32)) hx hb dX5_init_86 (by decide) ?_
  refine g_put (ci := 5) (v := .int (0 : Int32)) hx hb hts iw5 tyX5 tyX5_ok nmX5 hown hK hw (37) 12 0 ⟨by omega, t0⟩ (by decide) rfl (by decide) rfl (hq _ qw259) (fun _ h9 => h9) rfl (fV_i (ji 12 (by decide))) (nq (rn 12 (by decide) (by decide))) rfl rfl dX5_init_87 (fun H locs hw => ?_)
  have hw : Wg D cy sh I ad (61) A s.heap (pW (LM P 38 6 8 10) 37 13) H locs := Wg.mask hw (fun a k => by simp only [pU_t, pW_t, LM_t]; by_cases z : P a k = true <;> simp only [z, or_true, or_false, Bool.false_eq_true] <;> omega)
  refine W.widen (k := 23) (n := 177) (by omega) (by omega) ?_
  exact W.vret hx hb hr (fun t ht hW => ⟨⟨ad, rfl, hag, preG_at hEx hK hB hw ht hW⟩, hw.1.2.2.F ht⟩) hw.1.2.2.2.2 dX5_init_90 hlocks

/-! ===== constructors, by program (ctor.py) ===== -/
theorem dX7_init_0 : decode cX7_init 0 = .ok (.aload_n 0, 1) := by decide +kernel
theorem dX7_init_1 : decode cX7_init 1 = .ok (.invokespecial 1, 3) := by decide +kernel
theorem dX7_init_4 : decode cX7_init 4 = .ok (.aload_n 0, 1) := by decide +kernel
theorem dX7_init_5 : decode cX7_init 5 = .ok (.bipush 89, 2) := by decide +kernel
theorem dX7_init_7 : decode cX7_init 7 = .ok (.newarray .int, 2) := by decide +kernel
theorem dX7_init_9 : decode cX7_init 9 = .ok (.putfield 7, 3) := by decide +kernel
theorem dX7_init_12 : decode cX7_init 12 = .ok (.aload_n 0, 1) := by decide +kernel
theorem dX7_init_13 : decode cX7_init 13 = .ok (.bipush 89, 2) := by decide +kernel
theorem dX7_init_15 : decode cX7_init 15 = .ok (.newarray .int, 2) := by decide +kernel
theorem dX7_init_17 : decode cX7_init 17 = .ok (.putfield 13, 3) := by decide +kernel
theorem dX7_init_20 : decode cX7_init 20 = .ok (.aload_n 0, 1) := by decide +kernel
theorem dX7_init_21 : decode cX7_init 21 = .ok (.bipush 89, 2) := by decide +kernel
theorem dX7_init_23 : decode cX7_init 23 = .ok (.newarray .int, 2) := by decide +kernel
theorem dX7_init_25 : decode cX7_init 25 = .ok (.putfield 16, 3) := by decide +kernel
theorem dX7_init_28 : decode cX7_init 28 = .ok (.aload_n 0, 1) := by decide +kernel
theorem dX7_init_29 : decode cX7_init 29 = .ok (.bipush 7, 2) := by decide +kernel
theorem dX7_init_31 : decode cX7_init 31 = .ok (.newarray .int, 2) := by decide +kernel
theorem dX7_init_33 : decode cX7_init 33 = .ok (.putfield 19, 3) := by decide +kernel
theorem dX7_init_36 : decode cX7_init 36 = .ok (.aload_n 0, 1) := by decide +kernel
theorem dX7_init_37 : decode cX7_init 37 = .ok (.iconst (-1), 1) := by decide +kernel
theorem dX7_init_38 : decode cX7_init 38 = .ok (.putfield 22, 3) := by decide +kernel
theorem dX7_init_41 : decode cX7_init 41 = .ok (.aload_n 0, 1) := by decide +kernel
theorem dX7_init_42 : decode cX7_init 42 = .ok (.bipush 120, 2) := by decide +kernel
theorem dX7_init_44 : decode cX7_init 44 = .ok (.newarray .int, 2) := by decide +kernel
theorem dX7_init_46 : decode cX7_init 46 = .ok (.putfield 26, 3) := by decide +kernel
theorem dX7_init_49 : decode cX7_init 49 = .ok (.aload_n 0, 1) := by decide +kernel
theorem dX7_init_50 : decode cX7_init 50 = .ok (.bipush 48, 2) := by decide +kernel
theorem dX7_init_52 : decode cX7_init 52 = .ok (.newarray .long, 2) := by decide +kernel
theorem dX7_init_54 : decode cX7_init 54 = .ok (.putfield 29, 3) := by decide +kernel
theorem dX7_init_57 : decode cX7_init 57 = .ok (.aload_n 0, 1) := by decide +kernel
theorem dX7_init_58 : decode cX7_init 58 = .ok (.bipush 8, 2) := by decide +kernel
theorem dX7_init_60 : decode cX7_init 60 = .ok (.newarray .long, 2) := by decide +kernel
theorem dX7_init_62 : decode cX7_init 62 = .ok (.putfield 33, 3) := by decide +kernel
theorem dX7_init_65 : decode cX7_init 65 = .ok (.aload_n 0, 1) := by decide +kernel
theorem dX7_init_66 : decode cX7_init 66 = .ok (.bipush 6, 2) := by decide +kernel
theorem dX7_init_68 : decode cX7_init 68 = .ok (.newarray .long, 2) := by decide +kernel
theorem dX7_init_70 : decode cX7_init 70 = .ok (.putfield 36, 3) := by decide +kernel
theorem dX7_init_73 : decode cX7_init 73 = .ok (.aload_n 0, 1) := by decide +kernel
theorem dX7_init_74 : decode cX7_init 74 = .ok (.bipush 6, 2) := by decide +kernel
theorem dX7_init_76 : decode cX7_init 76 = .ok (.newarray .long, 2) := by decide +kernel
theorem dX7_init_78 : decode cX7_init 78 = .ok (.putfield 39, 3) := by decide +kernel
theorem dX7_init_81 : decode cX7_init 81 = .ok (.aload_n 0, 1) := by decide +kernel
theorem dX7_init_82 : decode cX7_init 82 = .ok (.bipush 6, 2) := by decide +kernel
theorem dX7_init_84 : decode cX7_init 84 = .ok (.newarray .int, 2) := by decide +kernel
theorem dX7_init_86 : decode cX7_init 86 = .ok (.putfield 42, 3) := by decide +kernel
theorem dX7_init_89 : decode cX7_init 89 = .ok (.aload_n 0, 1) := by decide +kernel
theorem dX7_init_90 : decode cX7_init 90 = .ok (.bipush 6, 2) := by decide +kernel
theorem dX7_init_92 : decode cX7_init 92 = .ok (.newarray .long, 2) := by decide +kernel
theorem dX7_init_94 : decode cX7_init 94 = .ok (.putfield 45, 3) := by decide +kernel
theorem dX7_init_97 : decode cX7_init 97 = .ok (.aload_n 0, 1) := by decide +kernel
theorem dX7_init_98 : decode cX7_init 98 = .ok (.iconst 4, 1) := by decide +kernel
theorem dX7_init_99 : decode cX7_init 99 = .ok (.newarray .int, 2) := by decide +kernel
theorem dX7_init_101 : decode cX7_init 101 = .ok (.putfield 48, 3) := by decide +kernel
theorem dX7_init_104 : decode cX7_init 104 = .ok (.aload_n 0, 1) := by decide +kernel
theorem dX7_init_105 : decode cX7_init 105 = .ok (.bipush 6, 2) := by decide +kernel
theorem dX7_init_107 : decode cX7_init 107 = .ok (.newarray .long, 2) := by decide +kernel
theorem dX7_init_109 : decode cX7_init 109 = .ok (.putfield 51, 3) := by decide +kernel
theorem dX7_init_112 : decode cX7_init 112 = .ok (.aload_n 0, 1) := by decide +kernel
theorem dX7_init_113 : decode cX7_init 113 = .ok (.iconst 4, 1) := by decide +kernel
theorem dX7_init_114 : decode cX7_init 114 = .ok (.newarray .int, 2) := by decide +kernel
theorem dX7_init_116 : decode cX7_init 116 = .ok (.putfield 54, 3) := by decide +kernel
theorem dX7_init_119 : decode cX7_init 119 = .ok (.aload_n 0, 1) := by decide +kernel
theorem dX7_init_120 : decode cX7_init 120 = .ok (.iconst 4, 1) := by decide +kernel
theorem dX7_init_121 : decode cX7_init 121 = .ok (.newarray .int, 2) := by decide +kernel
theorem dX7_init_123 : decode cX7_init 123 = .ok (.putfield 57, 3) := by decide +kernel
theorem dX7_init_126 : decode cX7_init 126 = .ok (.aload_n 0, 1) := by decide +kernel
theorem dX7_init_127 : decode cX7_init 127 = .ok (.sipush 160, 3) := by decide +kernel
theorem dX7_init_130 : decode cX7_init 130 = .ok (.newarray .int, 2) := by decide +kernel
theorem dX7_init_132 : decode cX7_init 132 = .ok (.putfield 60, 3) := by decide +kernel
theorem dX7_init_135 : decode cX7_init 135 = .ok (.aload_n 0, 1) := by decide +kernel
theorem dX7_init_136 : decode cX7_init 136 = .ok (.bipush 40, 2) := by decide +kernel
theorem dX7_init_138 : decode cX7_init 138 = .ok (.newarray .int, 2) := by decide +kernel
theorem dX7_init_140 : decode cX7_init 140 = .ok (.putfield 63, 3) := by decide +kernel
theorem dX7_init_143 : decode cX7_init 143 = .ok (.aload_n 0, 1) := by decide +kernel
theorem dX7_init_144 : decode cX7_init 144 = .ok (.getfield 7, 3) := by decide +kernel
theorem dX7_init_147 : decode cX7_init 147 = .ok (.iconst 3, 1) := by decide +kernel
theorem dX7_init_148 : decode cX7_init 148 = .ok (.iconst 1, 1) := by decide +kernel
theorem dX7_init_149 : decode cX7_init 149 = .ok (.iastore, 1) := by decide +kernel
theorem dX7_init_150 : decode cX7_init 150 = .ok (.aload_n 0, 1) := by decide +kernel
theorem dX7_init_151 : decode cX7_init 151 = .ok (.getfield 7, 3) := by decide +kernel
theorem dX7_init_154 : decode cX7_init 154 = .ok (.iconst 4, 1) := by decide +kernel
theorem dX7_init_155 : decode cX7_init 155 = .ok (.iconst 1, 1) := by decide +kernel
theorem dX7_init_156 : decode cX7_init 156 = .ok (.iastore, 1) := by decide +kernel
theorem dX7_init_157 : decode cX7_init 157 = .ok (.iconst 0, 1) := by decide +kernel
theorem dX7_init_158 : decode cX7_init 158 = .ok (.istore_n 1, 1) := by decide +kernel
theorem dX7_init_159 : decode cX7_init 159 = .ok (.iload_n 1, 1) := by decide +kernel
theorem dX7_init_160 : decode cX7_init 160 = .ok (.bipush 10, 2) := by decide +kernel
theorem dX7_init_162 : decode cX7_init 162 = .ok (.if_icmp .ge 19, 3) := by decide +kernel
theorem dX7_init_165 : decode cX7_init 165 = .ok (.aload_n 0, 1) := by decide +kernel
theorem dX7_init_166 : decode cX7_init 166 = .ok (.getfield 7, 3) := by decide +kernel
theorem dX7_init_169 : decode cX7_init 169 = .ok (.bipush 79, 2) := by decide +kernel
theorem dX7_init_171 : decode cX7_init 171 = .ok (.iload_n 1, 1) := by decide +kernel
theorem dX7_init_172 : decode cX7_init 172 = .ok (.iadd, 1) := by decide +kernel
theorem dX7_init_173 : decode cX7_init 173 = .ok (.iconst (-1), 1) := by decide +kernel
theorem dX7_init_174 : decode cX7_init 174 = .ok (.iastore, 1) := by decide +kernel
theorem dX7_init_175 : decode cX7_init 175 = .ok (.iinc 1 1, 3) := by decide +kernel
theorem dX7_init_178 : decode cX7_init 178 = .ok (.goto (-19), 3) := by decide +kernel
theorem dX7_init_181 : decode cX7_init 181 = .ok (.return_, 1) := by decide +kernel
def PY1 : Nat → Nat → Bool := pU PXe 0 0
def PY2 : Nat → Nat → Bool := pU PY1 0 1
def PY3 : Nat → Nat → Bool := pU PY2 0 2
def PY4 : Nat → Nat → Bool := pU PY3 0 4
def PY5 : Nat → Nat → Bool := pU PY4 0 5
def PY6 : Nat → Nat → Bool := pU PY5 0 8
def PY7 : Nat → Nat → Bool := pU PY6 0 16
def PY8 : Nat → Nat → Bool := pU PY7 0 17
def PY9 : Nat → Nat → Bool := pU PY8 0 18
def PY10 : Nat → Nat → Bool := pU PY9 0 19
def PY11 : Nat → Nat → Bool := pU PY10 0 20
def PY12 : Nat → Nat → Bool := pU PY11 0 22
def PY13 : Nat → Nat → Bool := pU PY12 0 24
def PY14 : Nat → Nat → Bool := pU PY13 0 25
def PY15 : Nat → Nat → Bool := pU PY14 0 26
def PY16 : Nat → Nat → Bool := pU PY15 0 27
def PY17 : Nat → Nat → Bool := pU PY16 0 28
def PY18 : Nat → Nat → Bool := pU PY17 0 29
def PY19 : Nat → Nat → Bool := pU PY18 1 3
def PY20 : Nat → Nat → Bool := pU PY19 1 4
def PYs : Nat → Nat → Bool := PY20
def pZ (P : Nat → Nat → Bool) (i : Nat) : Nat → Nat → Bool := fun a b => decide (a = 1 ∧ 79 ≤ b ∧ b < 79 + i) || P a b
theorem pZ_t {P : Nat → Nat → Bool} {i a b : Nat} : pZ P i a b = true ↔ (a = 1 ∧ 79 ≤ b ∧ b < 79 + i) ∨ P a b = true := by simp [pZ]
theorem pZ_0 (i : Nat) : pZ PYs i 0 0 = true := pZ_t.mpr (Or.inr (by decide +kernel))
theorem c_X7_init (l : Launch) (D : va_G) (cy : Nat → ClassId) (sh : Nat → Nat × Nat) (I : Mm) (A : Nat → Prop) (B : Nat) (hAB : ∀ q, B ≤ q → A q) (ad0 : Nat → Nat) (hMd : isMd sh I) : Met l yX7_init (wU yX7_init cX7_init 2 none) rmC7 (va_Pc [.ref (ad0 (0))] (PreG D cy sh I A B ad0 (1) (PXe))) (QG D cy sh I A B ad0 (1) (18) (pZ PYs 10)) 17 692 A := by
  refine Met.ofW (cc := cX7_init) (maxL := 2) (ret := none) (by decide) rfl ?_
  intro p e s m args below meth c s₁ B0 hml hv
  obtain ⟨hargs, p1, hK, p3, hB, p5, hEx⟩ := hv
  have hx := B0.exec
  have hb := B0.bytes
  have hr := B0.returns
  have hts := atoms_spec (ws := wU yX7_init cX7_init 2 none) B0.pre
  have hq : ∀ w ∈ gW, w.before args s = true := fun w hw => hts w (List.mem_cons_of_mem _ hw)
  have hcm : ∀ w ∈ gW, w ∈ wU yX7_init cX7_init 2 none := fun w hw => List.mem_cons_of_mem _ hw
  have hown : s.vm.findClass RX7 = some m.cls := findClass_of_methodNamed B0.named
  have hlocks := B0.notSynchronized
  have hin2 : meth.name = "<init>" := (name_of_methodNamed B0.named B0.method).1
  have hF : CallFix p m c cX7_init 2 s args (wU yX7_init cX7_init 2 none) RX7 := ⟨hx, hb, hml, hown, hts⟩
  have hA : ∀ z, s.heap.size ≤ z → A z := fun z hz => hAB z (Nat.le_trans hB hz)
  have hw : Wg D cy sh I ad0 (1) A s.heap PXe s.heap [] := ⟨⟨p1, p3, va_S.rf⟩, p5⟩
  have hag : ∀ z, z < 1 → ad0 z = ad0 z := fun _ _ => rfl
  have iw7 : ∀ w ∈ u_ws RX7 TX7 30, w ∈ wU yX7_init cX7_init 2 none := fun w hw => List.mem_cons_of_mem _ (iX7 w hw)
  rw [show entryFrame m args 2 = entryFrame m ([.ref (ad0 (0))] : List Value).toArray 2 from by rw [hargs]]
  have hl := lv_entry ([.ref (ad0 (0))]) (n := 2) (Nat.le_of_ble_eq_true rfl)
  rw [lg_entry_eq]
  generalize (lg_sl ([.ref (ad0 (0))]) ++ List.replicate (2 - (lg_sl ([.ref (ad0 (0))])).length) Slot.unset).toArray = ls at hl ⊢
  have hl : lv_has ls 2 [(0, .ref (ad0 (0)))] := hl
  obtain ⟨t0, ss, rr, j5, r5, j1_3, j1_4, jz, rs⟩ := hMd
  have lp : ∀ (d i : Nat) (ad : Nat → Nat) (H : Heap) (locs : List Loc) (ls : Array Slot), i + d = 10 → (∀ z, z < 1 → ad z = ad0 z) → Wg D cy sh I ad 18 A s.heap (pZ PYs i) H locs → lv_has ls 2 [(1, .int (nI i)), (0, .ref (ad (0)))] → W p l e rmC7 s m args below meth c H locs 17 692 (MQ below (QG D cy sh I A B ad0 1 18 (pZ PYs 10)) args s 17 692 A) (F0 m 159 ls []) := by
    intro d
    induction d with
    | zero =>
      intro i ad H locs ls hi hag hw hl
      refine lv_iload_n hx hb dX7_init_159 rfl (lv_at hl 0 rfl) ?_
      refine lv_bipush (v := nI 10) hx hb dX7_init_160 (by decide) ?_
      refine lv_icmp_ge (tgt := 181) hx hb dX7_init_162 (by decide) (fun c1 => ?_) (fun c1 => absurd (nI_le (by omega) (by omega)) c1)
      have hi : i = 10 := by omega
      subst hi
      exact W.vret hx hb hr (fun t ht hW => ⟨⟨ad, rfl, hag, preG_at hEx hK hB hw ht hW⟩, hw.1.2.2.F ht⟩) hw.1.2.2.2.2 dX7_init_181 hlocks
    | succ d ih =>
      intro i ad H locs ls hi hag hw hl
      refine lv_iload_n hx hb dX7_init_159 rfl (lv_at hl 0 rfl) ?_
      refine lv_bipush (v := nI 10) hx hb dX7_init_160 (by decide) ?_
      refine lv_icmp_ge (tgt := 181) hx hb dX7_init_162 (by decide) (fun c1 => absurd c1 (nI_ge (by omega) (by omega))) (fun c1 => ?_)
      refine lv_aload_n hx hb dX7_init_165 rfl (lv_at hl 1 rfl) ?_
      refine r_getR hx hb hts iw7 hown hK hw.1 (0) 0 ⟨by omega, t0⟩ (by decide) rfl (by decide) rfl (hq _ qw888) (fun _ h9 => h9) dX7_init_166 (q := 1) (mkP_ref (pZ_0 i) (rr 0 1 (by decide))) ?_
      refine lv_bipush (v := (79 : Int32)) hx hb dX7_init_169 (by decide) ?_
      refine lv_iload_n hx hb dX7_init_171 rfl (lv_at hl 0 rfl) ?_
      refine lv_iadd hx hb dX7_init_172 ?_
      rw [show (79 : Int32) + nI i = nI (79 + i) from nI_add 79 i]
      refine lv_iconst (v := (-1 : Int32)) hx hb dX7_init_173 (by decide) ?_
      refine g_iast hx hb hK hw 1 (79 + i) ⟨⟨by omega, by rw [ss 1 (by omega) (by omega)]; rfl⟩, by rw [ss 1 (by omega) (by omega)]; exact vin_nI (N := 89) (by omega) (by decide)⟩ (nI_clamp (by omega)) (jz i (by omega)) (nq (rs (79 + i) (by omega))) dX7_init_174 (fun H locs hw => ?_)
      refine lv_iinc (v := nI (i + 1)) (lv' := [(1, .int (nI (i + 1))), (0, .ref (ad (0)))]) hx hb dX7_init_175 hl (k := 0) rfl (by rw [show Int32.ofInt 1 = nI 1 from by decide, nI_add]) (by decide) rfl (fun ls hl => ?_)
      refine lv_goto (tgt := 159) hx hb dX7_init_178 (by decide) ?_
      have hw : Wg D cy sh I ad 18 A s.heap (pZ PYs (i + 1)) H locs := Wg.mask hw (fun a k => by simp only [pU_t, pZ_t]; by_cases z : PYs a k = true <;> simp only [z, or_true, or_false, Bool.false_eq_true] <;> omega)
      exact ih (i + 1) ad H locs ls (by omega) hag hw hl
  refine lv_aload_n hx hb dX7_init_0 rfl (lv_at hl 0 rfl) ?_
  refine W.objInit hx hb hown (hq _ qw887) (hq _ qw80) (hq _ qw81) rfl (by rw [hml]; exact hl.1) rfl dX7_init_1 (Nat.le_of_ble_eq_true rfl) (Nat.le_of_ble_eq_true rfl) ?_
  refine W.eq (g2 := F0 m 4 ls []) rfl ?_
  refine lv_aload_n hx hb dX7_init_4 rfl (lv_at hl 0 rfl) ?_
  refine lv_bipush (v := (89 : Int32)) hx hb dX7_init_5 (by decide) ?_
  refine g_newI hx hb (hq _ qa0) hK hw hA (ss 1 (by omega) (by omega)) (by decide) (by decide) (Nat.le_of_ble_eq_true rfl) (Nat.le_of_ble_eq_true rfl) (Nat.le_of_ble_eq_true rfl) dX7_init_7 (fun ad H ha hw => ?_)
  rw [← ha (0) (by omega)] at hl ⊢
  replace hag : ∀ z, z < 1 → ad z = ad0 z := fun z hz => (ha z (by omega)).trans (hag z hz)
  have hw : Wg D cy sh I ad (2) A s.heap _ _ _ := hw
  refine g_putF (ci := 7) (v := .ref (ad (1))) hx hb hts iw7 tyX7 tyX7_ok nmX7 hown hK hw hin2 (0) 0 2 ⟨by omega, t0⟩ (by decide) rfl (by decide) rfl (hq _ qw888) (fun _ h9 => h9) rfl rfl (fV_r (rr 0 1 (by decide))) (sq (rr 0 1 (by decide)) (by omega)) rfl rfl dX7_init_9 (fun H locs hw => ?_)
  have hw : Wg D cy sh I ad (2) A s.heap PY1 H locs := hw
  refine lv_aload_n hx hb dX7_init_12 rfl (lv_at hl 0 rfl) ?_
  refine lv_bipush (v := (89 : Int32)) hx hb dX7_init_13 (by decide) ?_
  refine g_newI hx hb (hq _ qa0) hK hw hA (ss 2 (by omega) (by omega)) (by decide) (by decide) (Nat.le_of_ble_eq_true rfl) (Nat.le_of_ble_eq_true rfl) (Nat.le_of_ble_eq_true rfl) dX7_init_15 (fun ad H ha hw => ?_)
  rw [← ha (0) (by omega)] at hl ⊢
  replace hag : ∀ z, z < 1 → ad z = ad0 z := fun z hz => (ha z (by omega)).trans (hag z hz)
  have hw : Wg D cy sh I ad (3) A s.heap _ _ _ := hw
  refine g_putF (ci := 7) (v := .ref (ad (2))) hx hb hts iw7 tyX7 tyX7_ok nmX7 hown hK hw hin2 (0) 1 2 ⟨by omega, t0⟩ (by decide) rfl (by decide) rfl (hq _ qw889) (fun _ h9 => h9) rfl rfl (fV_r (rr 1 2 (by decide))) (sq (rr 1 2 (by decide)) (by omega)) rfl rfl dX7_init_17 (fun H locs hw => ?_)
  have hw : Wg D cy sh I ad (3) A s.heap PY2 H locs := hw
  refine lv_aload_n hx hb dX7_init_20 rfl (lv_at hl 0 rfl) ?_
  refine lv_bipush (v := (89 : Int32)) hx hb dX7_init_21 (by decide) ?_
  refine g_newI hx hb (hq _ qa0) hK hw hA (ss 3 (by omega) (by omega)) (by decide) (by decide) (Nat.le_of_ble_eq_true rfl) (Nat.le_of_ble_eq_true rfl) (Nat.le_of_ble_eq_true rfl) dX7_init_23 (fun ad H ha hw => ?_)
  rw [← ha (0) (by omega)] at hl ⊢
  replace hag : ∀ z, z < 1 → ad z = ad0 z := fun z hz => (ha z (by omega)).trans (hag z hz)
  have hw : Wg D cy sh I ad (4) A s.heap _ _ _ := hw
  refine g_putF (ci := 7) (v := .ref (ad (3))) hx hb hts iw7 tyX7 tyX7_ok nmX7 hown hK hw hin2 (0) 2 2 ⟨by omega, t0⟩ (by decide) rfl (by decide) rfl (hq _ qw890) (fun _ h9 => h9) rfl rfl (fV_r (rr 2 3 (by decide))) (sq (rr 2 3 (by decide)) (by omega)) rfl rfl dX7_init_25 (fun H locs hw => ?_)
  have hw : Wg D cy sh I ad (4) A s.heap PY3 H locs := hw
  refine lv_aload_n hx hb dX7_init_28 rfl (lv_at hl 0 rfl) ?_
  refine lv_bipush (v := (7 : Int32)) hx hb dX7_init_29 (by decide) ?_
  refine g_newI hx hb (hq _ qa0) hK hw hA (ss 4 (by omega) (by omega)) (by decide) (by decide) (Nat.le_of_ble_eq_true rfl) (Nat.le_of_ble_eq_true rfl) (Nat.le_of_ble_eq_true rfl) dX7_init_31 (fun ad H ha hw => ?_)
  rw [← ha (0) (by omega)] at hl ⊢
  replace hag : ∀ z, z < 1 → ad z = ad0 z := fun z hz => (ha z (by omega)).trans (hag z hz)
  have hw : Wg D cy sh I ad (5) A s.heap _ _ _ := hw
  refine g_putF (ci := 7) (v := .ref (ad (4))) hx hb hts iw7 tyX7 tyX7_ok nmX7 hown hK hw hin2 (0) 4 2 ⟨by omega, t0⟩ (by decide) rfl (by decide) rfl (hq _ qw892) (fun _ h9 => h9) rfl rfl (fV_r (rr 4 4 (by decide))) (sq (rr 4 4 (by decide)) (by omega)) rfl rfl dX7_init_33 (fun H locs hw => ?_)
  have hw : Wg D cy sh I ad (5) A s.heap PY4 H locs := hw
  refine lv_aload_n hx hb dX7_init_36 rfl (lv_at hl 0 rfl) ?_
  refine lv_iconst (v := (-1 : Int32)) hx hb dX7_init_37 (by decide) ?_
  refine g_put (ci := 7) (v := .int (-1 : Int32)) hx hb hts iw7 tyX7 tyX7_ok nmX7 hown hK hw (0) 5 0 ⟨by omega, t0⟩ (by decide) rfl (by decide) rfl (hq _ qw893) (fun _ h9 => h9) rfl (fV_i j5) (nq r5) rfl rfl dX7_init_38 (fun H locs hw => ?_)
  have hw : Wg D cy sh I ad (5) A s.heap PY5 H locs := hw
  refine lv_aload_n hx hb dX7_init_41 rfl (lv_at hl 0 rfl) ?_
  refine lv_bipush (v := (120 : Int32)) hx hb dX7_init_42 (by decide) ?_
  refine g_newI hx hb (hq _ qa0) hK hw hA (ss 5 (by omega) (by omega)) (by decide) (by decide) (Nat.le_of_ble_eq_true rfl) (Nat.le_of_ble_eq_true rfl) (Nat.le_of_ble_eq_true rfl) dX7_init_44 (fun ad H ha hw => ?_)
  rw [← ha (0) (by omega)] at hl ⊢
  replace hag : ∀ z, z < 1 → ad z = ad0 z := fun z hz => (ha z (by omega)).trans (hag z hz)
  have hw : Wg D cy sh I ad (6) A s.heap _ _ _ := hw
  refine g_putF (ci := 7) (v := .ref (ad (5))) hx hb hts iw7 tyX7 tyX7_ok nmX7 hown hK hw hin2 (0) 8 2 ⟨by omega, t0⟩ (by decide) rfl (by decide) rfl (hq _ qw896) (fun _ h9 => h9) rfl rfl (fV_r (rr 8 5 (by decide))) (sq (rr 8 5 (by decide)) (by omega)) rfl rfl dX7_init_46 (fun H locs hw => ?_)
  have hw : Wg D cy sh I ad (6) A s.heap PY6 H locs := hw
  refine lv_aload_n hx hb dX7_init_49 rfl (lv_at hl 0 rfl) ?_
  refine lv_bipush (v := (48 : Int32)) hx hb dX7_init_50 (by decide) ?_
  refine g_newL hx hb (hq _ qa1) hK hw hA (ss 6 (by omega) (by omega)) (by decide) (by decide) (Nat.le_of_ble_eq_true rfl) (Nat.le_of_ble_eq_true rfl) (Nat.le_of_ble_eq_true rfl) dX7_init_52 (fun ad H ha hw => ?_)
  rw [← ha (0) (by omega)] at hl ⊢
  replace hag : ∀ z, z < 1 → ad z = ad0 z := fun z hz => (ha z (by omega)).trans (hag z hz)
  have hw : Wg D cy sh I ad (7) A s.heap _ _ _ := hw
  refine g_putF (ci := 7) (v := .ref (ad (6))) hx hb hts iw7 tyX7 tyX7_ok nmX7 hown hK hw hin2 (0) 16 2 ⟨by omega, t0⟩ (by decide) rfl (by decide) rfl (hq _ qw904) (fun _ h9 => h9) rfl rfl (fV_r (rr 16 6 (by decide))) (sq (rr 16 6 (by decide)) (by omega)) rfl rfl dX7_init_54 (fun H locs hw => ?_)
  have hw : Wg D cy sh I ad (7) A s.heap PY7 H locs := hw
  refine lv_aload_n hx hb dX7_init_57 rfl (lv_at hl 0 rfl) ?_
  refine lv_bipush (v := (8 : Int32)) hx hb dX7_init_58 (by decide) ?_
  refine g_newL hx hb (hq _ qa1) hK hw hA (ss 7 (by omega) (by omega)) (by decide) (by decide) (Nat.le_of_ble_eq_true rfl) (Nat.le_of_ble_eq_true rfl) (Nat.le_of_ble_eq_true rfl) dX7_init_60 (fun ad H ha hw => ?_)
  rw [← ha (0) (by omega)] at hl ⊢
  replace hag : ∀ z, z < 1 → ad z = ad0 z := fun z hz => (ha z (by omega)).trans (hag z hz)
  have hw : Wg D cy sh I ad (8) A s.heap _ _ _ := hw
  refine g_putF (ci := 7) (v := .ref (ad (7))) hx hb hts iw7 tyX7 tyX7_ok nmX7 hown hK hw hin2 (0) 17 2 ⟨by omega, t0⟩ (by decide) rfl (by decide) rfl (hq _ qw905) (fun _ h9 => h9) rfl rfl (fV_r (rr 17 7 (by decide))) (sq (rr 17 7 (by decide)) (by omega)) rfl rfl dX7_init_62 (fun H locs hw => ?_)
  have hw : Wg D cy sh I ad (8) A s.heap PY8 H locs := hw
  refine lv_aload_n hx hb dX7_init_65 rfl (lv_at hl 0 rfl) ?_
  refine lv_bipush (v := (6 : Int32)) hx hb dX7_init_66 (by decide) ?_
  refine g_newL hx hb (hq _ qa1) hK hw hA (ss 8 (by omega) (by omega)) (by decide) (by decide) (Nat.le_of_ble_eq_true rfl) (Nat.le_of_ble_eq_true rfl) (Nat.le_of_ble_eq_true rfl) dX7_init_68 (fun ad H ha hw => ?_)
  rw [← ha (0) (by omega)] at hl ⊢
  replace hag : ∀ z, z < 1 → ad z = ad0 z := fun z hz => (ha z (by omega)).trans (hag z hz)
  have hw : Wg D cy sh I ad (9) A s.heap _ _ _ := hw
  refine g_putF (ci := 7) (v := .ref (ad (8))) hx hb hts iw7 tyX7 tyX7_ok nmX7 hown hK hw hin2 (0) 18 2 ⟨by omega, t0⟩ (by decide) rfl (by decide) rfl (hq _ qw906) (fun _ h9 => h9) rfl rfl (fV_r (rr 18 8 (by decide))) (sq (rr 18 8 (by decide)) (by omega)) rfl rfl dX7_init_70 (fun H locs hw => ?_)
  have hw : Wg D cy sh I ad (9) A s.heap PY9 H locs := hw
  refine lv_aload_n hx hb dX7_init_73 rfl (lv_at hl 0 rfl) ?_
  refine lv_bipush (v := (6 : Int32)) hx hb dX7_init_74 (by decide) ?_
  refine g_newL hx hb (hq _ qa1) hK hw hA (ss 9 (by omega) (by omega)) (by decide) (by decide) (Nat.le_of_ble_eq_true rfl) (Nat.le_of_ble_eq_true rfl) (Nat.le_of_ble_eq_true rfl) dX7_init_76 (fun ad H ha hw => ?_)
  rw [← ha (0) (by omega)] at hl ⊢
  replace hag : ∀ z, z < 1 → ad z = ad0 z := fun z hz => (ha z (by omega)).trans (hag z hz)
  have hw : Wg D cy sh I ad (10) A s.heap _ _ _ := hw
  refine g_putF (ci := 7) (v := .ref (ad (9))) hx hb hts iw7 tyX7 tyX7_ok nmX7 hown hK hw hin2 (0) 19 2 ⟨by omega, t0⟩ (by decide) rfl (by decide) rfl (hq _ qw907) (fun _ h9 => h9) rfl rfl (fV_r (rr 19 9 (by decide))) (sq (rr 19 9 (by decide)) (by omega)) rfl rfl dX7_init_78 (fun H locs hw => ?_)
  have hw : Wg D cy sh I ad (10) A s.heap PY10 H locs := hw
  refine lv_aload_n hx hb dX7_init_81 rfl (lv_at hl 0 rfl) ?_
  refine lv_bipush (v := (6 : Int32)) hx hb dX7_init_82 (by decide) ?_
  refine g_newI hx hb (hq _ qa0) hK hw hA (ss 10 (by omega) (by omega)) (by decide) (by decide) (Nat.le_of_ble_eq_true rfl) (Nat.le_of_ble_eq_true rfl) (Nat.le_of_ble_eq_true rfl) dX7_init_84 (fun ad H ha hw => ?_)
  rw [← ha (0) (by omega)] at hl ⊢
  replace hag : ∀ z, z < 1 → ad z = ad0 z := fun z hz => (ha z (by omega)).trans (hag z hz)
  have hw : Wg D cy sh I ad (11) A s.heap _ _ _ := hw
  refine g_putF (ci := 7) (v := .ref (ad (10))) hx hb hts iw7 tyX7 tyX7_ok nmX7 hown hK hw hin2 (0) 20 2 ⟨by omega, t0⟩ (by decide) rfl (by decide) rfl (hq _ qw908) (fun _ h9 => h9) rfl rfl (fV_r (rr 20 10 (by decide))) (sq (rr 20 10 (by decide)) (by omega)) rfl rfl dX7_init_86 (fun H locs hw => ?_)
  have hw : Wg D cy sh I ad (11) A s.heap PY11 H locs := hw
  refine lv_aload_n hx hb dX7_init_89 rfl (lv_at hl 0 rfl) ?_
  refine lv_bipush (v := (6 : Int32)) hx hb dX7_init_90 (by decide) ?_
  refine g_newL hx hb (hq _ qa1) hK hw hA (ss 11 (by omega) (by omega)) (by decide) (by decide) (Nat.le_of_ble_eq_true rfl) (Nat.le_of_ble_eq_true rfl) (Nat.le_of_ble_eq_true rfl) dX7_init_92 (fun ad H ha hw => ?_)
  rw [← ha (0) (by omega)] at hl ⊢
  replace hag : ∀ z, z < 1 → ad z = ad0 z := fun z hz => (ha z (by omega)).trans (hag z hz)
  have hw : Wg D cy sh I ad (12) A s.heap _ _ _ := hw
  refine g_putF (ci := 7) (v := .ref (ad (11))) hx hb hts iw7 tyX7 tyX7_ok nmX7 hown hK hw hin2 (0) 22 2 ⟨by omega, t0⟩ (by decide) rfl (by decide) rfl (hq _ qw910) (fun _ h9 => h9) rfl rfl (fV_r (rr 22 11 (by decide))) (sq (rr 22 11 (by decide)) (by omega)) rfl rfl dX7_init_94 (fun H locs hw => ?_)
  have hw : Wg D cy sh I ad (12) A s.heap PY12 H locs := hw
  refine lv_aload_n hx hb dX7_init_97 rfl (lv_at hl 0 rfl) ?_
  refine lv_iconst (v := (4 : Int32)) hx hb dX7_init_98 (by decide) ?_
  refine g_newI hx hb (hq _ qa0) hK hw hA (ss 12 (by omega) (by omega)) (by decide) (by decide) (Nat.le_of_ble_eq_true rfl) (Nat.le_of_ble_eq_true rfl) (Nat.le_of_ble_eq_true rfl) dX7_init_99 (fun ad H ha hw => ?_)
  rw [← ha (0) (by omega)] at hl ⊢
  replace hag : ∀ z, z < 1 → ad z = ad0 z := fun z hz => (ha z (by omega)).trans (hag z hz)
  have hw : Wg D cy sh I ad (13) A s.heap _ _ _ := hw
  refine g_putF (ci := 7) (v := .ref (ad (12))) hx hb hts iw7 tyX7 tyX7_ok nmX7 hown hK hw hin2 (0) 24 2 ⟨by omega, t0⟩ (by decide) rfl (by decide) rfl (hq _ qw912) (fun _ h9 => h9) rfl rfl (fV_r (rr 24 12 (by decide))) (sq (rr 24 12 (by decide)) (by omega)) rfl rfl dX7_init_101 (fun H locs hw => ?_)
  have hw : Wg D cy sh I ad (13) A s.heap PY13 H locs := hw
  refine lv_aload_n hx hb dX7_init_104 rfl (lv_at hl 0 rfl) ?_
  refine lv_bipush (v := (6 : Int32)) hx hb dX7_init_105 (by decide) ?_
  refine g_newL hx hb (hq _ qa1) hK hw hA (ss 13 (by omega) (by omega)) (by decide) (by decide) (Nat.le_of_ble_eq_true rfl) (Nat.le_of_ble_eq_true rfl) (Nat.le_of_ble_eq_true rfl) dX7_init_107 (fun ad H ha hw => ?_)
  rw [← ha (0) (by omega)] at hl ⊢
  replace hag : ∀ z, z < 1 → ad z = ad0 z := fun z hz => (ha z (by omega)).trans (hag z hz)
  have hw : Wg D cy sh I ad (14) A s.heap _ _ _ := hw
  refine g_putF (ci := 7) (v := .ref (ad (13))) hx hb hts iw7 tyX7 tyX7_ok nmX7 hown hK hw hin2 (0) 25 2 ⟨by omega, t0⟩ (by decide) rfl (by decide) rfl (hq _ qw913) (fun _ h9 => h9) rfl rfl (fV_r (rr 25 13 (by decide))) (sq (rr 25 13 (by decide)) (by omega)) rfl rfl dX7_init_109 (fun H locs hw => ?_)
  have hw : Wg D cy sh I ad (14) A s.heap PY14 H locs := hw
  refine lv_aload_n hx hb dX7_init_112 rfl (lv_at hl 0 rfl) ?_
  refine lv_iconst (v := (4 : Int32)) hx hb dX7_init_113 (by decide) ?_
  refine g_newI hx hb (hq _ qa0) hK hw hA (ss 14 (by omega) (by omega)) (by decide) (by decide) (Nat.le_of_ble_eq_true rfl) (Nat.le_of_ble_eq_true rfl) (Nat.le_of_ble_eq_true rfl) dX7_init_114 (fun ad H ha hw => ?_)
  rw [← ha (0) (by omega)] at hl ⊢
  replace hag : ∀ z, z < 1 → ad z = ad0 z := fun z hz => (ha z (by omega)).trans (hag z hz)
  have hw : Wg D cy sh I ad (15) A s.heap _ _ _ := hw
  refine g_putF (ci := 7) (v := .ref (ad (14))) hx hb hts iw7 tyX7 tyX7_ok nmX7 hown hK hw hin2 (0) 26 2 ⟨by omega, t0⟩ (by decide) rfl (by decide) rfl (hq _ qw914) (fun _ h9 => h9) rfl rfl (fV_r (rr 26 14 (by decide))) (sq (rr 26 14 (by decide)) (by omega)) rfl rfl dX7_init_116 (fun H locs hw => ?_)
  have hw : Wg D cy sh I ad (15) A s.heap PY15 H locs := hw
  refine lv_aload_n hx hb dX7_init_119 rfl (lv_at hl 0 rfl) ?_
  refine lv_iconst (v := (4 : Int32)) hx hb dX7_init_120 (by decide) ?_
  refine g_newI hx hb (hq _ qa0) hK hw hA (ss 15 (by omega) (by omega)) (by decide) (by decide) (Nat.le_of_ble_eq_true rfl) (Nat.le_of_ble_eq_true rfl) (Nat.le_of_ble_eq_true rfl) dX7_init_121 (fun ad H ha hw => ?_)
  rw [← ha (0) (by omega)] at hl ⊢
  replace hag : ∀ z, z < 1 → ad z = ad0 z := fun z hz => (ha z (by omega)).trans (hag z hz)
  have hw : Wg D cy sh I ad (16) A s.heap _ _ _ := hw
  refine g_putF (ci := 7) (v := .ref (ad (15))) hx hb hts iw7 tyX7 tyX7_ok nmX7 hown hK hw hin2 (0) 27 2 ⟨by omega, t0⟩ (by decide) rfl (by decide) rfl (hq _ qw915) (fun _ h9 => h9) rfl rfl (fV_r (rr 27 15 (by decide))) (sq (rr 27 15 (by decide)) (by omega)) rfl rfl dX7_init_123 (fun H locs hw => ?_)
  have hw : Wg D cy sh I ad (16) A s.heap PY16 H locs := hw
  refine lv_aload_n hx hb dX7_init_126 rfl (lv_at hl 0 rfl) ?_
  refine lv_sipush (v := (160 : Int32)) hx hb dX7_init_127 (by decide) ?_
  refine g_newI hx hb (hq _ qa0) hK hw hA (ss 16 (by omega) (by omega)) (by decide) (by decide) (Nat.le_of_ble_eq_true rfl) (Nat.le_of_ble_eq_true rfl) (Nat.le_of_ble_eq_true rfl) dX7_init_130 (fun ad H ha hw => ?_)
  rw [← ha (0) (by omega)] at hl ⊢
  replace hag : ∀ z, z < 1 → ad z = ad0 z := fun z hz => (ha z (by omega)).trans (hag z hz)
  have hw : Wg D cy sh I ad (17) A s.heap _ _ _ := hw
  refine g_putF (ci := 7) (v := .ref (ad (16))) hx hb hts iw7 tyX7 tyX7_ok nmX7 hown hK hw hin2 (0) 28 2 ⟨by omega, t0⟩ (by decide) rfl (by decide) rfl (hq _ qw916) (fun _ h9 => h9) rfl rfl (fV_r (rr 28 16 (by decide))) (sq (rr 28 16 (by decide)) (by omega)) rfl rfl dX7_init_132 (fun H locs hw => ?_)
  have hw : Wg D cy sh I ad (17) A s.heap PY17 H locs := hw
  refine lv_aload_n hx hb dX7_init_135 rfl (lv_at hl 0 rfl) ?_
  refine lv_bipush (v := (40 : Int32)) hx hb dX7_init_136 (by decide) ?_
  refine g_newI hx hb (hq _ qa0) hK hw hA (ss 17 (by omega) (by omega)) (by decide) (by decide) (Nat.le_of_ble_eq_true rfl) (Nat.le_of_ble_eq_true rfl) (Nat.le_of_ble_eq_true rfl) dX7_init_138 (fun ad H ha hw => ?_)
  rw [← ha (0) (by omega)] at hl ⊢
  replace hag : ∀ z, z < 1 → ad z = ad0 z := fun z hz => (ha z (by omega)).trans (hag z hz)
  have hw : Wg D cy sh I ad (18) A s.heap _ _ _ := hw
  refine g_putF (ci := 7) (v := .ref (ad (17))) hx hb hts iw7 tyX7 tyX7_ok nmX7 hown hK hw hin2 (0) 29 2 ⟨by omega, t0⟩ (by decide) rfl (by decide) rfl (hq _ qw917) (fun _ h9 => h9) rfl rfl (fV_r (rr 29 17 (by decide))) (sq (rr 29 17 (by decide)) (by omega)) rfl rfl dX7_init_140 (fun H locs hw => ?_)
  have hw : Wg D cy sh I ad (18) A s.heap PY18 H locs := hw
  refine lv_aload_n hx hb dX7_init_143 rfl (lv_at hl 0 rfl) ?_
  refine r_getR hx hb hts iw7 hown hK hw.1 (0) 0 ⟨by omega, t0⟩ (by decide) rfl (by decide) rfl (hq _ qw888) (fun _ h9 => h9) dX7_init_144 (q := 1) (mkP_ref (by decide +kernel) (rr 0 1 (by decide))) ?_
  refine lv_iconst (v := (3 : Int32)) hx hb dX7_init_147 (by decide) ?_
  refine lv_iconst (v := (1 : Int32)) hx hb dX7_init_148 (by decide) ?_
  refine g_iast hx hb hK hw 1 3 ⟨⟨by omega, by rw [ss 1 (by omega) (by omega)]; rfl⟩, by rw [ss 1 (by omega) (by omega)]; decide⟩ (by decide) j1_3 (nq (rs 3 (by omega))) dX7_init_149 (fun H locs hw => ?_)
  have hw : Wg D cy sh I ad (18) A s.heap PY19 H locs := hw
  refine lv_aload_n hx hb dX7_init_150 rfl (lv_at hl 0 rfl) ?_
  refine r_getR hx hb hts iw7 hown hK hw.1 (0) 0 ⟨by omega, t0⟩ (by decide) rfl (by decide) rfl (hq _ qw888) (fun _ h9 => h9) dX7_init_151 (q := 1) (mkP_ref (by decide +kernel) (rr 0 1 (by decide))) ?_
  refine lv_iconst (v := (4 : Int32)) hx hb dX7_init_154 (by decide) ?_
  refine lv_iconst (v := (1 : Int32)) hx hb dX7_init_155 (by decide) ?_
  refine g_iast hx hb hK hw 1 4 ⟨⟨by omega, by rw [ss 1 (by omega) (by omega)]; rfl⟩, by rw [ss 1 (by omega) (by omega)]; decide⟩ (by decide) j1_4 (nq (rs 4 (by omega))) dX7_init_156 (fun H locs hw => ?_)
  have hw : Wg D cy sh I ad (18) A s.heap PY20 H locs := hw
  refine lv_iconst (v := (0 : Int32)) hx hb dX7_init_157 (by decide) ?_
  refine lv_istore_n (lv' := [(1, .int ((0 : Int32))), (0, .ref (ad (0)))]) hx hb dX7_init_158 rfl hl (by decide) rfl (fun ls hl => ?_)
  have hw : Wg D cy sh I ad 18 A s.heap (pZ PYs 0) H locs := Wg.mask hw (fun a k => by rw [pZ_t]; exact ⟨fun z => Or.inr z, fun z => z.elim (fun z => absurd z (by omega)) (fun z => z)⟩)
  refine W.widen (k := 17) (n := 692) (by omega) (by omega) ?_
  exact lp 10 0 ad H locs ls (by omega) hag hw hl

/-! ===== what a constructor makes ===== -/
theorem fV_i {ad : Nat → Nat} {I : Mm} {o k : Nat} {v : Int32} (h : I.1 o k = v) : fV ad I o 0 k = .int v := by simp [fV, h]
theorem fV_l {ad : Nat → Nat} {I : Mm} {o k : Nat} {v : Int64} (h : I.2.1 o k = v) : fV ad I o 1 k = .long v := by simp [fV, h]
theorem fV_r {ad : Nat → Nat} {I : Mm} {o k q : Nat} (h : I.2.2 o k = some q) : fV ad I o 2 k = .ref (ad q) := by simp [fV, h, va_rf]
theorem nq {I : Mm} {o k n : Nat} (h : I.2.2 o k = none) : ∀ q, I.2.2 o k = some q → q < n := fun q z => by
  rw [h] at z
  cases z
theorem sq {I : Mm} {o k n q0 : Nat} (h : I.2.2 o k = some q0) (hl : q0 < n) : ∀ q, I.2.2 o k = some q → q < n := fun q z => by
  rw [h] at z
  cases z
  exact hl
def SpI (I : Mm) (o : Nat) (vs : List Int32) : Prop := ∀ k, k < vs.length → I.1 o k = vs.getD k 0
def SpN (I : Mm) (o w : Nat) : Prop := ∀ k, k < w → I.2.2 o k = none
theorem Wg.mask {D : va_G} {cy : Nat → ClassId} {sh : Nat → Nat × Nat} {I : Mm} {ad : Nat → Nat} {n : Nat} {A : Nat → Prop} {H0 : Heap} {P P' : Nat → Nat → Bool} {H : Heap} {locs : List Loc} (hw : Wg D cy sh I ad n A H0 P H locs) (h : ∀ a b, P a b = true ↔ P' a b = true) : Wg D cy sh I ad n A H0 P' H locs := by
  rw [← mask_ext h]
  exact hw
/-- a league half made: its own fields, x sides, y games, w spots -/
def LM (P : Nat → Nat → Bool) (b x y w : Nat) : Nat → Nat → Bool := fun a k => decide ((a = b ∧ k < 11) ∨ (a = b + 1 ∧ k < x) ∨ (a = b + 2 ∧ k < y) ∨ (a = b + 3 ∧ k < w) ∨ (b + 4 ≤ a ∧ a < b + 4 + x ∧ k < 6) ∨ (b + 10 ≤ a ∧ a < b + 10 + y ∧ k < 9)) || P a k
theorem LM_t {P : Nat → Nat → Bool} {b x y w a k : Nat} : LM P b x y w a k = true ↔ ((a = b ∧ k < 11) ∨ (a = b + 1 ∧ k < x) ∨ (a = b + 2 ∧ k < y) ∨ (a = b + 3 ∧ k < w) ∨ (b + 4 ≤ a ∧ a < b + 4 + x ∧ k < 6) ∨ (b + 10 ≤ a ∧ a < b + 10 + y ∧ k < 9)) ∨ P a k = true := by
  unfold LM
  rw [Bool.or_eq_true, decide_eq_true_eq]
def isLg (sh : Nat → Nat × Nat) (I : Mm) (b : Nat) : Prop := (sh b).1 = 1 ∧ sh (b + 1) = (10, 6) ∧ sh (b + 2) = (11, 8) ∧ sh (b + 3) = (8, 10) ∧ (∀ i, i < 6 → (sh (b + 4 + i)).1 = 3 ∧ SpI I (b + 4 + i) [0, 1, 0, 0, 0, 0] ∧ SpN I (b + 4 + i) 6) ∧ (∀ i, i < 8 → (sh (b + 10 + i)).1 = 0 ∧ SpI I (b + 10 + i) [0, 0, 1, -1, -1, 0, 0, 0, 0] ∧ SpN I (b + 10 + i) 9) ∧ SpI I b [0, 0, 0, 0, 0, 0, 1, 1, -1, -1, 0] ∧ I.2.2 b 0 = some (b + 1) ∧ I.2.2 b 1 = some (b + 2) ∧ I.2.2 b 2 = some (b + 3) ∧ (∀ k, 3 ≤ k → k < 11 → I.2.2 b k = none) ∧ (∀ i, i < 6 → I.2.2 (b + 1) i = some (b + 4 + i)) ∧ (∀ i, i < 8 → I.2.2 (b + 2) i = some (b + 10 + i)) ∧ ∀ i, i < 10 → I.1 (b + 3) i = -1 ∧ I.2.2 (b + 3) i = none
def isWk (sh : Nat → Nat × Nat) (I : Mm) : Prop := (sh 37).1 = 5 ∧ isLg sh I 38 ∧ sh 56 = (9, 6) ∧ sh 57 = (9, 6) ∧ sh 58 = (9, 8) ∧ sh 59 = (9, 8) ∧ sh 60 = (9, 6) ∧ I.2.2 37 0 = some 38 ∧ I.2.2 37 1 = some 56 ∧ I.2.2 37 2 = some 57 ∧ I.2.2 37 3 = some 58 ∧ I.2.2 37 4 = some 59 ∧ I.2.2 37 5 = some 60 ∧ (∀ k, 6 ≤ k → k < 13 → I.2.2 37 k = none) ∧ (∀ k, k < 13 → I.1 37 k = 0) ∧ I.2.1 37 6 = 1 ∧ I.2.1 37 11 = 0
def isXx (sh : Nat → Nat × Nat) (I : Mm) : Prop := (sh 0).1 = 6 ∧ isLg sh I 1 ∧ isLg sh I 19 ∧ isWk sh I ∧ (sh 61).1 = 4 ∧ sh (61 + 1) = (8, 120) ∧ sh 63 = (12, 4) ∧ sh 64 = (8, 7) ∧ I.2.2 61 0 = some (61 + 1) ∧ (∀ k, k < 6 → I.1 61 k = 0) ∧ (∀ k, 1 ≤ k → k < 6 → I.2.2 61 k = none) ∧ (∀ i, i < 4 → (sh (65 + 2 * i)).1 = 2 ∧ sh (65 + 2 * i + 1) = (8, 40) ∧ I.2.2 (65 + 2 * i) 0 = some (65 + 2 * i + 1) ∧ (∀ k, k < 3 → I.1 (65 + 2 * i) k = 0) ∧ (∀ k, 1 ≤ k → k < 3 → I.2.2 (65 + 2 * i) k = none) ∧ I.2.2 63 i = some (65 + 2 * i)) ∧ I.2.2 0 0 = some 1 ∧ I.2.2 0 1 = some 19 ∧ I.2.2 0 2 = none ∧ I.2.2 0 3 = some 37 ∧ I.2.2 0 4 = some 38 ∧ I.2.2 0 5 = some 61 ∧ I.2.2 0 6 = some 63 ∧ I.2.2 0 7 = some 64 ∧ I.1 0 2 = 0
def rowsM : List (Nat × Nat) := [(0, 1), (1, 2), (2, 3), (4, 4), (8, 5), (16, 6), (17, 7), (18, 8), (19, 9), (20, 10), (22, 11), (24, 12), (25, 13), (26, 14), (27, 15), (28, 16), (29, 17)]
def isMd (sh : Nat → Nat × Nat) (I : Mm) : Prop := (sh 0).1 = 7 ∧ (∀ j, 1 ≤ j → j < 18 → sh j = tM.getD j (99, 0)) ∧ (∀ k j, (k, j) ∈ rowsM → I.2.2 0 k = some j) ∧ I.1 0 5 = -1 ∧ I.2.2 0 5 = none ∧ I.1 1 3 = 1 ∧ I.1 1 4 = 1 ∧ (∀ i, i < 10 → I.1 1 (79 + i) = -1) ∧ ∀ k, k < 89 → I.2.2 1 k = none
theorem qa0 : Cond.arrayClass .int ∈ gW := gW_mem (i := 128) (by decide +kernel) (by decide +kernel)
theorem qa1 : Cond.arrayClass .long ∈ gW := gW_mem (i := 288) (by decide +kernel) (by decide +kernel)
def rmC3 : Room := { frames := 1, cells := 0, slots := 0, locals := 40 }
def rmC2 : Room := { frames := 1, cells := 1, slots := 40, locals := 40 }
def rmC4 : Room := { frames := 1, cells := 1, slots := 120, locals := 40 }
def rmC1 : Room := { frames := 2, cells := 17, slots := 132, locals := 100 }
def rmC5 : Room := { frames := 3, cells := 23, slots := 177, locals := 160 }
def rmC6 : Room := { frames := 4, cells := 72, slots := 785, locals := 240 }
def rmC7 : Room := { frames := 1, cells := 17, slots := 692, locals := 40 }
theorem dfX0 : ∀ j, j < 9 → defaultValue (tyX0 j) = vp_V ((fT 0).map dV) j := fun j hj => match j, hj with | 0, _ => rfl | 1, _ => rfl | 2, _ => rfl | 3, _ => rfl | 4, _ => rfl | 5, _ => rfl | 6, _ => rfl | 7, _ => rfl | 8, _ => rfl | n + 9, h => absurd h (by omega)
theorem dfX1 : ∀ j, j < 11 → defaultValue (tyX1 j) = vp_V ((fT 1).map dV) j := fun j hj => match j, hj with | 0, _ => rfl | 1, _ => rfl | 2, _ => rfl | 3, _ => rfl | 4, _ => rfl | 5, _ => rfl | 6, _ => rfl | 7, _ => rfl | 8, _ => rfl | 9, _ => rfl | 10, _ => rfl | n + 11, h => absurd h (by omega)
theorem dfX2 : ∀ j, j < 3 → defaultValue (tyX2 j) = vp_V ((fT 2).map dV) j := fun j hj => match j, hj with | 0, _ => rfl | 1, _ => rfl | 2, _ => rfl | n + 3, h => absurd h (by omega)
theorem dfX3 : ∀ j, j < 6 → defaultValue (tyX3 j) = vp_V ((fT 3).map dV) j := fun j hj => match j, hj with | 0, _ => rfl | 1, _ => rfl | 2, _ => rfl | 3, _ => rfl | 4, _ => rfl | 5, _ => rfl | n + 6, h => absurd h (by omega)
theorem dfX4 : ∀ j, j < 6 → defaultValue (tyX4 j) = vp_V ((fT 4).map dV) j := fun j hj => match j, hj with | 0, _ => rfl | 1, _ => rfl | 2, _ => rfl | 3, _ => rfl | 4, _ => rfl | 5, _ => rfl | n + 6, h => absurd h (by omega)
theorem dfX5 : ∀ j, j < 13 → defaultValue (tyX5 j) = vp_V ((fT 5).map dV) j := fun j hj => match j, hj with | 0, _ => rfl | 1, _ => rfl | 2, _ => rfl | 3, _ => rfl | 4, _ => rfl | 5, _ => rfl | 6, _ => rfl | 7, _ => rfl | 8, _ => rfl | 9, _ => rfl | 10, _ => rfl | 11, _ => rfl | 12, _ => rfl | n + 13, h => absurd h (by omega)
theorem dfX6 : ∀ j, j < 8 → defaultValue (tyX6 j) = vp_V ((fT 6).map dV) j := fun j hj => match j, hj with | 0, _ => rfl | 1, _ => rfl | 2, _ => rfl | 3, _ => rfl | 4, _ => rfl | 5, _ => rfl | 6, _ => rfl | 7, _ => rfl | n + 8, h => absurd h (by omega)
theorem dfX7 : ∀ j, j < 30 → defaultValue (tyX7 j) = vp_V ((fT 7).map dV) j := fun j hj => match j, hj with | 0, _ => rfl | 1, _ => rfl | 2, _ => rfl | 3, _ => rfl | 4, _ => rfl | 5, _ => rfl | 6, _ => rfl | 7, _ => rfl | 8, _ => rfl | 9, _ => rfl | 10, _ => rfl | 11, _ => rfl | 12, _ => rfl | 13, _ => rfl | 14, _ => rfl | 15, _ => rfl | 16, _ => rfl | 17, _ => rfl | 18, _ => rfl | 19, _ => rfl | 20, _ => rfl | 21, _ => rfl | 22, _ => rfl | 23, _ => rfl | 24, _ => rfl | 25, _ => rfl | 26, _ => rfl | 27, _ => rfl | 28, _ => rfl | 29, _ => rfl | n + 30, h => absurd h (by omega)
theorem dX3_init_0 : decode cX3_init 0 = .ok (.aload_n 0, 1) := by decide +kernel
theorem dX3_init_1 : decode cX3_init 1 = .ok (.invokespecial 3, 3) := by decide +kernel
theorem dX3_init_4 : decode cX3_init 4 = .ok (.aload_n 0, 1) := by decide +kernel
theorem dX3_init_5 : decode cX3_init 5 = .ok (.iconst 0, 1) := by decide +kernel
theorem dX3_init_6 : decode cX3_init 6 = .ok (.putfield 9, 3) := by decide +kernel
theorem dX3_init_9 : decode cX3_init 9 = .ok (.aload_n 0, 1) := by decide +kernel
theorem dX3_init_10 : decode cX3_init 10 = .ok (.iconst 1, 1) := by decide +kernel
theorem dX3_init_11 : decode cX3_init 11 = .ok (.putfield 15, 3) := by decide +kernel
theorem dX3_init_14 : decode cX3_init 14 = .ok (.aload_n 0, 1) := by decide +kernel
theorem dX3_init_15 : decode cX3_init 15 = .ok (.iconst 0, 1) := by decide +kernel
theorem dX3_init_16 : decode cX3_init 16 = .ok (.putfield 18, 3) := by decide +kernel
theorem dX3_init_19 : decode cX3_init 19 = .ok (.aload_n 0, 1) := by decide +kernel
theorem dX3_init_20 : decode cX3_init 20 = .ok (.iconst 0, 1) := by decide +kernel
theorem dX3_init_21 : decode cX3_init 21 = .ok (.putfield 21, 3) := by decide +kernel
theorem dX3_init_24 : decode cX3_init 24 = .ok (.aload_n 0, 1) := by decide +kernel
theorem dX3_init_25 : decode cX3_init 25 = .ok (.iconst 0, 1) := by decide +kernel
theorem dX3_init_26 : decode cX3_init 26 = .ok (.putfield 24, 3) := by decide +kernel
theorem dX3_init_29 : decode cX3_init 29 = .ok (.aload_n 0, 1) := by decide +kernel
theorem dX3_init_30 : decode cX3_init 30 = .ok (.iconst 0, 1) := by decide +kernel
theorem dX3_init_31 : decode cX3_init 31 = .ok (.putfield 27, 3) := by decide +kernel
theorem dX3_init_34 : decode cX3_init 34 = .ok (.return_, 1) := by decide +kernel
theorem c_X3_init (l : Launch) (D : va_G) (cy : Nat → ClassId) (sh : Nat → Nat × Nat) (I : Mm) (A : Nat → Prop) (B : Nat) (hAB : ∀ q, B ≤ q → A q) (ad0 : Nat → Nat) (o : Nat) (P : Nat → Nat → Bool) (hs : (sh o).1 = 3) (hI : SpI I o [0, 1, 0, 0, 0, 0]) (hR : SpN I o 6) : Met l yX3_init (wU yX3_init cX3_init 1 none) rmC3 (va_Pc [.ref (ad0 (o))] (PreG D cy sh I A B ad0 (o + 1) (P))) (QG D cy sh I A B ad0 (o + 1) (o + 1) (pW P o 6)) 0 0 A := by
  refine Met.ofW (cc := cX3_init) (maxL := 1) (ret := none) (by decide) rfl ?_
  intro p e s m args below meth c s₁ B0 hml hv
  obtain ⟨hargs, p1, hK, p3, hB, p5, hEx⟩ := hv
  have hx := B0.exec
  have hb := B0.bytes
  have hr := B0.returns
  have hts := atoms_spec (ws := wU yX3_init cX3_init 1 none) B0.pre
  have hq : ∀ w ∈ gW, w.before args s = true := fun w hw => hts w (List.mem_cons_of_mem _ hw)
  have hcm : ∀ w ∈ gW, w ∈ wU yX3_init cX3_init 1 none := fun w hw => List.mem_cons_of_mem _ hw
  have hown : s.vm.findClass RX3 = some m.cls := findClass_of_methodNamed B0.named
  have hlocks := B0.notSynchronized
  have hin2 : meth.name = "<init>" := (name_of_methodNamed B0.named B0.method).1
  have hF : CallFix p m c cX3_init 1 s args (wU yX3_init cX3_init 1 none) RX3 := ⟨hx, hb, hml, hown, hts⟩
  have hA : ∀ z, s.heap.size ≤ z → A z := fun z hz => hAB z (Nat.le_trans hB hz)
  have hw : Wg D cy sh I ad0 (o + 1) A s.heap P s.heap [] := ⟨⟨p1, p3, va_S.rf⟩, p5⟩
  have hag : ∀ z, z < o + 1 → ad0 z = ad0 z := fun _ _ => rfl
  have iw3 : ∀ w ∈ u_ws RX3 TX3 6, w ∈ wU yX3_init cX3_init 1 none := fun w hw => List.mem_cons_of_mem _ (iX3 w hw)
  rw [show entryFrame m args 1 = entryFrame m ([.ref (ad0 (o))] : List Value).toArray 1 from by rw [hargs]]
  have hl := lv_entry ([.ref (ad0 (o))]) (n := 1) (Nat.le_of_ble_eq_true rfl)
  rw [lg_entry_eq]
  generalize (lg_sl ([.ref (ad0 (o))]) ++ List.replicate (1 - (lg_sl ([.ref (ad0 (o))])).length) Slot.unset).toArray = ls at hl ⊢
  have hl : lv_has ls 1 [(0, .ref (ad0 (o)))] := hl
  refine lv_aload_n hx hb dX3_init_0 rfl (lv_at hl 0 rfl) ?_
  refine W.objInit hx hb hown (hq _ qw96) (hq _ qw80) (hq _ qw81) rfl (by rw [hml]; exact hl.1) rfl dX3_init_1 (Nat.le_of_ble_eq_true rfl) (Nat.le_of_ble_eq_true rfl) ?_
  refine W.eq (g2 := F0 m 4 ls []) rfl ?_
  refine lv_aload_n hx hb dX3_init_4 rfl (lv_at hl 0 rfl) ?_
  refine lv_iconst (v := (0 : Int32)) hx hb dX3_init_5 (by decide) ?_
  refine g_put (ci := 3) (v := .int (0 : Int32)) hx hb hts iw3 tyX3 tyX3_ok nmX3 hown hK hw (o) 0 0 ⟨by omega, hs⟩ (by decide) rfl (by decide) rfl (hq _ qw97) (fun _ h9 => h9) rfl (fV_i (hI 0 (by decide))) (nq (hR 0 (by decide))) rfl rfl dX3_init_6 (fun H locs hw => ?_)
  refine lv_aload_n hx hb dX3_init_9 rfl (lv_at hl 0 rfl) ?_
  refine lv_iconst (v := (1 : Int32)) hx hb dX3_init_10 (by decide) ?_
  refine g_put (ci := 3) (v := .int (1 : Int32)) hx hb hts iw3 tyX3 tyX3_ok nmX3 hown hK hw (o) 1 0 ⟨by omega, hs⟩ (by decide) rfl (by decide) rfl (hq _ qw100) (fun _ h9 => h9) rfl (fV_i (hI 1 (by decide))) (nq (hR 1 (by decide))) rfl rfl dX3_init_11 (fun H locs hw => ?_)
  refine lv_aload_n hx hb dX3_init_14 rfl (lv_at hl 0 rfl) ?_
  refine lv_iconst (v := (0 : Int32)) hx hb dX3_init_15 (by decide) ?_
  refine g_put (ci := 3) (v := .int (0 : Int32)) hx hb hts iw3 tyX3 tyX3_ok nmX3 hown hK hw (o) 2 0 ⟨by omega, hs⟩ (by decide) rfl (by decide) rfl (hq _ qw103) (fun _ h9 => h9) rfl (fV_i (hI 2 (by decide))) (nq (hR 2 (by decide))) rfl rfl dX3_init_16 (fun H locs hw => ?_)
  refine lv_aload_n hx hb dX3_init_19 rfl (lv_at hl 0 rfl) ?_
  refine lv_iconst (v := (0 : Int32)) hx hb dX3_init_20 (by decide) ?_
  refine g_put (ci := 3) (v := .int (0 : Int32)) hx hb hts iw3 tyX3 tyX3_ok nmX3 hown hK hw (o) 3 0 ⟨by omega, hs⟩ (by decide) rfl (by decide) rfl (hq _ qw106) (fun _ h9 => h9) rfl (fV_i (hI 3 (by decide))) (nq (hR 3 (by decide))) rfl rfl dX3_init_21 (fun H locs hw => ?_)
  refine lv_aload_n hx hb dX3_init_24 rfl (lv_at hl 0 rfl) ?_
  refine lv_iconst (v := (0 : Int32)) hx hb dX3_init_25 (by decide) ?_
  refine g_put (ci := 3) (v := .int (0 : Int32)) hx hb hts iw3 tyX3 tyX3_ok nmX3 hown hK hw (o) 4 0 ⟨by omega, hs⟩ (by decide) rfl (by decide) rfl (hq _ qw110) (fun _ h9 => h9) rfl (fV_i (hI 4 (by decide))) (nq (hR 4 (by decide))) rfl rfl dX3_init_26 (fun H locs hw => ?_)
  refine lv_aload_n hx hb dX3_init_29 rfl (lv_at hl 0 rfl) ?_
  refine lv_iconst (v := (0 : Int32)) hx hb dX3_init_30 (by decide) ?_
  refine g_put (ci := 3) (v := .int (0 : Int32)) hx hb hts iw3 tyX3 tyX3_ok nmX3 hown hK hw (o) 5 0 ⟨by omega, hs⟩ (by decide) rfl (by decide) rfl (hq _ qw112) (fun _ h9 => h9) rfl (fV_i (hI 5 (by decide))) (nq (hR 5 (by decide))) rfl rfl dX3_init_31 (fun H locs hw => ?_)
  have hw : Wg D cy sh I ad0 (o + 1) A s.heap (pW P o 6) H locs := Wg.mask hw (fun a k => by simp only [pU_t, pW_t, LM_t]; by_cases z : P a k = true <;> simp only [z, or_true, or_false, Bool.false_eq_true] <;> omega)
  refine W.widen (k := 0) (n := 0) (by omega) (by omega) ?_
  exact W.vret hx hb hr (fun t ht hW => ⟨⟨ad0, rfl, hag, preG_at hEx hK hB hw ht hW⟩, hw.1.2.2.F ht⟩) hw.1.2.2.2.2 dX3_init_34 hlocks
theorem dX0_init_0 : decode cX0_init 0 = .ok (.aload_n 0, 1) := by decide +kernel
theorem dX0_init_1 : decode cX0_init 1 = .ok (.invokespecial 3, 3) := by decide +kernel
theorem dX0_init_4 : decode cX0_init 4 = .ok (.aload_n 0, 1) := by decide +kernel
theorem dX0_init_5 : decode cX0_init 5 = .ok (.iconst 0, 1) := by decide +kernel
theorem dX0_init_6 : decode cX0_init 6 = .ok (.putfield 9, 3) := by decide +kernel
theorem dX0_init_9 : decode cX0_init 9 = .ok (.aload_n 0, 1) := by decide +kernel
theorem dX0_init_10 : decode cX0_init 10 = .ok (.iconst 0, 1) := by decide +kernel
theorem dX0_init_11 : decode cX0_init 11 = .ok (.putfield 15, 3) := by decide +kernel
theorem dX0_init_14 : decode cX0_init 14 = .ok (.aload_n 0, 1) := by decide +kernel
theorem dX0_init_15 : decode cX0_init 15 = .ok (.iconst 1, 1) := by decide +kernel
theorem dX0_init_16 : decode cX0_init 16 = .ok (.putfield 18, 3) := by decide +kernel
theorem dX0_init_19 : decode cX0_init 19 = .ok (.aload_n 0, 1) := by decide +kernel
theorem dX0_init_20 : decode cX0_init 20 = .ok (.iconst (-1), 1) := by decide +kernel
theorem dX0_init_21 : decode cX0_init 21 = .ok (.putfield 21, 3) := by decide +kernel
theorem dX0_init_24 : decode cX0_init 24 = .ok (.aload_n 0, 1) := by decide +kernel
theorem dX0_init_25 : decode cX0_init 25 = .ok (.iconst (-1), 1) := by decide +kernel
theorem dX0_init_26 : decode cX0_init 26 = .ok (.putfield 24, 3) := by decide +kernel
theorem dX0_init_29 : decode cX0_init 29 = .ok (.aload_n 0, 1) := by decide +kernel
theorem dX0_init_30 : decode cX0_init 30 = .ok (.iconst 0, 1) := by decide +kernel
theorem dX0_init_31 : decode cX0_init 31 = .ok (.putfield 27, 3) := by decide +kernel
theorem dX0_init_34 : decode cX0_init 34 = .ok (.aload_n 0, 1) := by decide +kernel
theorem dX0_init_35 : decode cX0_init 35 = .ok (.iconst 0, 1) := by decide +kernel
theorem dX0_init_36 : decode cX0_init 36 = .ok (.putfield 30, 3) := by decide +kernel
theorem dX0_init_39 : decode cX0_init 39 = .ok (.aload_n 0, 1) := by decide +kernel
theorem dX0_init_40 : decode cX0_init 40 = .ok (.iconst 0, 1) := by decide +kernel
theorem dX0_init_41 : decode cX0_init 41 = .ok (.putfield 33, 3) := by decide +kernel
theorem dX0_init_44 : decode cX0_init 44 = .ok (.aload_n 0, 1) := by decide +kernel
theorem dX0_init_45 : decode cX0_init 45 = .ok (.iconst 0, 1) := by decide +kernel
theorem dX0_init_46 : decode cX0_init 46 = .ok (.putfield 37, 3) := by decide +kernel
theorem dX0_init_49 : decode cX0_init 49 = .ok (.return_, 1) := by decide +kernel
theorem c_X0_init (l : Launch) (D : va_G) (cy : Nat → ClassId) (sh : Nat → Nat × Nat) (I : Mm) (A : Nat → Prop) (B : Nat) (hAB : ∀ q, B ≤ q → A q) (ad0 : Nat → Nat) (o : Nat) (P : Nat → Nat → Bool) (hs : (sh o).1 = 0) (hI : SpI I o [0, 0, 1, -1, -1, 0, 0, 0, 0]) (hR : SpN I o 9) : Met l yX0_init (wU yX0_init cX0_init 1 none) rmC3 (va_Pc [.ref (ad0 (o))] (PreG D cy sh I A B ad0 (o + 1) (P))) (QG D cy sh I A B ad0 (o + 1) (o + 1) (pW P o 9)) 0 0 A := by
  refine Met.ofW (cc := cX0_init) (maxL := 1) (ret := none) (by decide) rfl ?_
  intro p e s m args below meth c s₁ B0 hml hv
  obtain ⟨hargs, p1, hK, p3, hB, p5, hEx⟩ := hv
  have hx := B0.exec
  have hb := B0.bytes
  have hr := B0.returns
  have hts := atoms_spec (ws := wU yX0_init cX0_init 1 none) B0.pre
  have hq : ∀ w ∈ gW, w.before args s = true := fun w hw => hts w (List.mem_cons_of_mem _ hw)
  have hcm : ∀ w ∈ gW, w ∈ wU yX0_init cX0_init 1 none := fun w hw => List.mem_cons_of_mem _ hw
  have hown : s.vm.findClass RX0 = some m.cls := findClass_of_methodNamed B0.named
  have hlocks := B0.notSynchronized
  have hin2 : meth.name = "<init>" := (name_of_methodNamed B0.named B0.method).1
  have hF : CallFix p m c cX0_init 1 s args (wU yX0_init cX0_init 1 none) RX0 := ⟨hx, hb, hml, hown, hts⟩
  have hA : ∀ z, s.heap.size ≤ z → A z := fun z hz => hAB z (Nat.le_trans hB hz)
  have hw : Wg D cy sh I ad0 (o + 1) A s.heap P s.heap [] := ⟨⟨p1, p3, va_S.rf⟩, p5⟩
  have hag : ∀ z, z < o + 1 → ad0 z = ad0 z := fun _ _ => rfl
  have iw0 : ∀ w ∈ u_ws RX0 TX0 9, w ∈ wU yX0_init cX0_init 1 none := fun w hw => List.mem_cons_of_mem _ (iX0 w hw)
  rw [show entryFrame m args 1 = entryFrame m ([.ref (ad0 (o))] : List Value).toArray 1 from by rw [hargs]]
  have hl := lv_entry ([.ref (ad0 (o))]) (n := 1) (Nat.le_of_ble_eq_true rfl)
  rw [lg_entry_eq]
  generalize (lg_sl ([.ref (ad0 (o))]) ++ List.replicate (1 - (lg_sl ([.ref (ad0 (o))])).length) Slot.unset).toArray = ls at hl ⊢
  have hl : lv_has ls 1 [(0, .ref (ad0 (o)))] := hl
  refine lv_aload_n hx hb dX0_init_0 rfl (lv_at hl 0 rfl) ?_
  refine W.objInit hx hb hown (hq _ qw133) (hq _ qw80) (hq _ qw81) rfl (by rw [hml]; exact hl.1) rfl dX0_init_1 (Nat.le_of_ble_eq_true rfl) (Nat.le_of_ble_eq_true rfl) ?_
  refine W.eq (g2 := F0 m 4 ls []) rfl ?_
  refine lv_aload_n hx hb dX0_init_4 rfl (lv_at hl 0 rfl) ?_
  refine lv_iconst (v := (0 : Int32)) hx hb dX0_init_5 (by decide) ?_
  refine g_put (ci := 0) (v := .int (0 : Int32)) hx hb hts iw0 tyX0 tyX0_ok nmX0 hown hK hw (o) 0 0 ⟨by omega, hs⟩ (by decide) rfl (by decide) rfl (hq _ qw134) (fun _ h9 => h9) rfl (fV_i (hI 0 (by decide))) (nq (hR 0 (by decide))) rfl rfl dX0_init_6 (fun H locs hw => ?_)
  refine lv_aload_n hx hb dX0_init_9 rfl (lv_at hl 0 rfl) ?_
  refine lv_iconst (v := (0 : Int32)) hx hb dX0_init_10 (by decide) ?_
  refine g_put (ci := 0) (v := .int (0 : Int32)) hx hb hts iw0 tyX0 tyX0_ok nmX0 hown hK hw (o) 1 0 ⟨by omega, hs⟩ (by decide) rfl (by decide) rfl (hq _ qw138) (fun _ h9 => h9) rfl (fV_i (hI 1 (by decide))) (nq (hR 1 (by decide))) rfl rfl dX0_init_11 (fun H locs hw => ?_)
  refine lv_aload_n hx hb dX0_init_14 rfl (lv_at hl 0 rfl) ?_
  refine lv_iconst (v := (1 : Int32)) hx hb dX0_init_15 (by decide) ?_
  refine g_put (ci := 0) (v := .int (1 : Int32)) hx hb hts iw0 tyX0 tyX0_ok nmX0 hown hK hw (o) 2 0 ⟨by omega, hs⟩ (by decide) rfl (by decide) rfl (hq _ qw142) (fun _ h9 => h9) rfl (fV_i (hI 2 (by decide))) (nq (hR 2 (by decide))) rfl rfl dX0_init_16 (fun H locs hw => ?_)
  refine lv_aload_n hx hb dX0_init_19 rfl (lv_at hl 0 rfl) ?_
  refine lv_iconst (v := (-1 : Int32)) hx hb dX0_init_20 (by decide) ?_
  refine g_put (ci := 0) (v := .int (-1 : Int32)) hx hb hts iw0 tyX0 tyX0_ok nmX0 hown hK hw (o) 3 0 ⟨by omega, hs⟩ (by decide) rfl (by decide) rfl (hq _ qw146) (fun _ h9 => h9) rfl (fV_i (hI 3 (by decide))) (nq (hR 3 (by decide))) rfl rfl dX0_init_21 (fun H locs hw => ?_)
  refine lv_aload_n hx hb dX0_init_24 rfl (lv_at hl 0 rfl) ?_
  refine lv_iconst (v := (-1 : Int32)) hx hb dX0_init_25 (by decide) ?_
  refine g_put (ci := 0) (v := .int (-1 : Int32)) hx hb hts iw0 tyX0 tyX0_ok nmX0 hown hK hw (o) 4 0 ⟨by omega, hs⟩ (by decide) rfl (by decide) rfl (hq _ qw150) (fun _ h9 => h9) rfl (fV_i (hI 4 (by decide))) (nq (hR 4 (by decide))) rfl rfl dX0_init_26 (fun H locs hw => ?_)
  refine lv_aload_n hx hb dX0_init_29 rfl (lv_at hl 0 rfl) ?_
  refine lv_iconst (v := (0 : Int32)) hx hb dX0_init_30 (by decide) ?_
  refine g_put (ci := 0) (v := .int (0 : Int32)) hx hb hts iw0 tyX0 tyX0_ok nmX0 hown hK hw (o) 5 0 ⟨by omega, hs⟩ (by decide) rfl (by decide) rfl (hq _ qw154) (fun _ h9 => h9) rfl (fV_i (hI 5 (by decide))) (nq (hR 5 (by decide))) rfl rfl dX0_init_31 (fun H locs hw => ?_)
  refine lv_aload_n hx hb dX0_init_34 rfl (lv_at hl 0 rfl) ?_
  refine lv_iconst (v := (0 : Int32)) hx hb dX0_init_35 (by decide) ?_
  refine g_put (ci := 0) (v := .int (0 : Int32)) hx hb hts iw0 tyX0 tyX0_ok nmX0 hown hK hw (o) 6 0 ⟨by omega, hs⟩ (by decide) rfl (by decide) rfl (hq _ qw156) (fun _ h9 => h9) rfl (fV_i (hI 6 (by decide))) (nq (hR 6 (by decide))) rfl rfl dX0_init_36 (fun H locs hw => ?_)
  refine lv_aload_n hx hb dX0_init_39 rfl (lv_at hl 0 rfl) ?_
  refine lv_iconst (v := (0 : Int32)) hx hb dX0_init_40 (by decide) ?_
  refine g_put (ci := 0) (v := .int (0 : Int32)) hx hb hts iw0 tyX0 tyX0_ok nmX0 hown hK hw (o) 7 0 ⟨by omega, hs⟩ (by decide) rfl (by decide) rfl (hq _ qw158) (fun _ h9 => h9) rfl (fV_i (hI 7 (by decide))) (nq (hR 7 (by decide))) rfl rfl dX0_init_41 (fun H locs hw => ?_)
  refine lv_aload_n hx hb dX0_init_44 rfl (lv_at hl 0 rfl) ?_
  refine lv_iconst (v := (0 : Int32)) hx hb dX0_init_45 (by decide) ?_
  refine g_put (ci := 0) (v := .int (0 : Int32)) hx hb hts iw0 tyX0 tyX0_ok nmX0 hown hK hw (o) 8 0 ⟨by omega, hs⟩ (by decide) rfl (by decide) rfl (hq _ qw160) (fun _ h9 => h9) rfl (fV_i (hI 8 (by decide))) (nq (hR 8 (by decide))) rfl rfl dX0_init_46 (fun H locs hw => ?_)
  have hw : Wg D cy sh I ad0 (o + 1) A s.heap (pW P o 9) H locs := Wg.mask hw (fun a k => by simp only [pU_t, pW_t, LM_t]; by_cases z : P a k = true <;> simp only [z, or_true, or_false, Bool.false_eq_true] <;> omega)
  refine W.widen (k := 0) (n := 0) (by omega) (by omega) ?_
  exact W.vret hx hb hr (fun t ht hW => ⟨⟨ad0, rfl, hag, preG_at hEx hK hB hw ht hW⟩, hw.1.2.2.F ht⟩) hw.1.2.2.2.2 dX0_init_49 hlocks
theorem dX2_init_0 : decode cX2_init 0 = .ok (.aload_n 0, 1) := by decide +kernel
theorem dX2_init_1 : decode cX2_init 1 = .ok (.invokespecial 3, 3) := by decide +kernel
theorem dX2_init_4 : decode cX2_init 4 = .ok (.aload_n 0, 1) := by decide +kernel
theorem dX2_init_5 : decode cX2_init 5 = .ok (.bipush 40, 2) := by decide +kernel
theorem dX2_init_7 : decode cX2_init 7 = .ok (.newarray .int, 2) := by decide +kernel
theorem dX2_init_9 : decode cX2_init 9 = .ok (.putfield 9, 3) := by decide +kernel
theorem dX2_init_12 : decode cX2_init 12 = .ok (.aload_n 0, 1) := by decide +kernel
theorem dX2_init_13 : decode cX2_init 13 = .ok (.iconst 0, 1) := by decide +kernel
theorem dX2_init_14 : decode cX2_init 14 = .ok (.putfield 15, 3) := by decide +kernel
theorem dX2_init_17 : decode cX2_init 17 = .ok (.aload_n 0, 1) := by decide +kernel
theorem dX2_init_18 : decode cX2_init 18 = .ok (.iconst 0, 1) := by decide +kernel
theorem dX2_init_19 : decode cX2_init 19 = .ok (.putfield 19, 3) := by decide +kernel
theorem dX2_init_22 : decode cX2_init 22 = .ok (.return_, 1) := by decide +kernel
theorem c_X2_init (l : Launch) (D : va_G) (cy : Nat → ClassId) (sh : Nat → Nat × Nat) (I : Mm) (A : Nat → Prop) (B : Nat) (hAB : ∀ q, B ≤ q → A q) (ad0 : Nat → Nat) (o : Nat) (P : Nat → Nat → Bool) (hs : (sh o).1 = 2) (hs1 : sh (o + 1) = (8, 40)) (hr0 : I.2.2 o 0 = some (o + 1)) (hI : ∀ k, k < 3 → I.1 o k = 0) (hR : ∀ k, 1 ≤ k → k < 3 → I.2.2 o k = none) : Met l yX2_init (wU yX2_init cX2_init 1 none) rmC2 (va_Pc [.ref (ad0 (o))] (PreG D cy sh I A B ad0 (o + 1) (P))) (QG D cy sh I A B ad0 (o + 1) (o + 2) (pW P o 3)) 1 40 A := by
  refine Met.ofW (cc := cX2_init) (maxL := 1) (ret := none) (by decide) rfl ?_
  intro p e s m args below meth c s₁ B0 hml hv
  obtain ⟨hargs, p1, hK, p3, hB, p5, hEx⟩ := hv
  have hx := B0.exec
  have hb := B0.bytes
  have hr := B0.returns
  have hts := atoms_spec (ws := wU yX2_init cX2_init 1 none) B0.pre
  have hq : ∀ w ∈ gW, w.before args s = true := fun w hw => hts w (List.mem_cons_of_mem _ hw)
  have hcm : ∀ w ∈ gW, w ∈ wU yX2_init cX2_init 1 none := fun w hw => List.mem_cons_of_mem _ hw
  have hown : s.vm.findClass RX2 = some m.cls := findClass_of_methodNamed B0.named
  have hlocks := B0.notSynchronized
  have hin2 : meth.name = "<init>" := (name_of_methodNamed B0.named B0.method).1
  have hF : CallFix p m c cX2_init 1 s args (wU yX2_init cX2_init 1 none) RX2 := ⟨hx, hb, hml, hown, hts⟩
  have hA : ∀ z, s.heap.size ≤ z → A z := fun z hz => hAB z (Nat.le_trans hB hz)
  have hw : Wg D cy sh I ad0 (o + 1) A s.heap P s.heap [] := ⟨⟨p1, p3, va_S.rf⟩, p5⟩
  have hag : ∀ z, z < o + 1 → ad0 z = ad0 z := fun _ _ => rfl
  have iw2 : ∀ w ∈ u_ws RX2 TX2 3, w ∈ wU yX2_init cX2_init 1 none := fun w hw => List.mem_cons_of_mem _ (iX2 w hw)
  rw [show entryFrame m args 1 = entryFrame m ([.ref (ad0 (o))] : List Value).toArray 1 from by rw [hargs]]
  have hl := lv_entry ([.ref (ad0 (o))]) (n := 1) (Nat.le_of_ble_eq_true rfl)
  rw [lg_entry_eq]
  generalize (lg_sl ([.ref (ad0 (o))]) ++ List.replicate (1 - (lg_sl ([.ref (ad0 (o))])).length) Slot.unset).toArray = ls at hl ⊢
  have hl : lv_has ls 1 [(0, .ref (ad0 (o)))] := hl
  refine lv_aload_n hx hb dX2_init_0 rfl (lv_at hl 0 rfl) ?_
  refine W.objInit hx hb hown (hq _ qw321) (hq _ qw80) (hq _ qw81) rfl (by rw [hml]; exact hl.1) rfl dX2_init_1 (Nat.le_of_ble_eq_true rfl) (Nat.le_of_ble_eq_true rfl) ?_
  refine W.eq (g2 := F0 m 4 ls []) rfl ?_
  refine lv_aload_n hx hb dX2_init_4 rfl (lv_at hl 0 rfl) ?_
  refine lv_bipush (v := (40 : Int32)) hx hb dX2_init_5 (by decide) ?_
  refine g_newI hx hb (hq _ qa0) hK hw hA hs1 (by decide) (by decide) (Nat.le_of_ble_eq_true rfl) (Nat.le_of_ble_eq_true rfl) (Nat.le_of_ble_eq_true rfl) dX2_init_7 (fun ad H ha hw => ?_)
  rw [← ha (o) (by omega)] at hl ⊢
  replace hag : ∀ z, z < o + 1 → ad z = ad0 z := fun z hz => (ha z (by omega)).trans (hag z hz)
  have hw : Wg D cy sh I ad (o + 2) A s.heap _ _ _ := hw
  refine g_putF (ci := 2) (v := .ref (ad (o + 1))) hx hb hts iw2 tyX2 tyX2_ok nmX2 hown hK hw hin2 (o) 0 2 ⟨by omega, hs⟩ (by decide) rfl (by decide) rfl (hq _ qw322) (fun _ h9 => h9) rfl rfl (fV_r hr0) (sq hr0 (by omega)) rfl rfl dX2_init_9 (fun H locs hw => ?_)
  refine lv_aload_n hx hb dX2_init_12 rfl (lv_at hl 0 rfl) ?_
  refine lv_iconst (v := (0 : Int32)) hx hb dX2_init_13 (by decide) ?_
  refine g_put (ci := 2) (v := .int (0 : Int32)) hx hb hts iw2 tyX2 tyX2_ok nmX2 hown hK hw (o) 1 0 ⟨by omega, hs⟩ (by decide) rfl (by decide) rfl (hq _ qw324) (fun _ h9 => h9) rfl (fV_i (hI 1 (by decide))) (nq (hR 1 (by decide) (by decide))) rfl rfl dX2_init_14 (fun H locs hw => ?_)
  refine lv_aload_n hx hb dX2_init_17 rfl (lv_at hl 0 rfl) ?_
  refine lv_iconst (v := (0 : Int32)) hx hb dX2_init_18 (by decide) ?_
  refine g_put (ci := 2) (v := .int (0 : Int32)) hx hb hts iw2 tyX2 tyX2_ok nmX2 hown hK hw (o) 2 0 ⟨by omega, hs⟩ (by decide) rfl (by decide) rfl (hq _ qw326) (fun _ h9 => h9) rfl (fV_i (hI 2 (by decide))) (nq (hR 2 (by decide) (by decide))) rfl rfl dX2_init_19 (fun H locs hw => ?_)
  have hw : Wg D cy sh I ad (o + 2) A s.heap (pW P o 3) H locs := Wg.mask hw (fun a k => by simp only [pU_t, pW_t, LM_t]; by_cases z : P a k = true <;> simp only [z, or_true, or_false, Bool.false_eq_true] <;> omega)
  refine W.widen (k := 1) (n := 40) (by omega) (by omega) ?_
  exact W.vret hx hb hr (fun t ht hW => ⟨⟨ad, rfl, hag, preG_at hEx hK hB hw ht hW⟩, hw.1.2.2.F ht⟩) hw.1.2.2.2.2 dX2_init_22 hlocks
theorem dX4_init_0 : decode cX4_init 0 = .ok (.aload_n 0, 1) := by decide +kernel
theorem dX4_init_1 : decode cX4_init 1 = .ok (.invokespecial 3, 3) := by decide +kernel
theorem dX4_init_4 : decode cX4_init 4 = .ok (.aload_n 0, 1) := by decide +kernel
theorem dX4_init_5 : decode cX4_init 5 = .ok (.bipush 120, 2) := by decide +kernel
theorem dX4_init_7 : decode cX4_init 7 = .ok (.newarray .int, 2) := by decide +kernel
theorem dX4_init_9 : decode cX4_init 9 = .ok (.putfield 9, 3) := by decide +kernel
theorem dX4_init_12 : decode cX4_init 12 = .ok (.aload_n 0, 1) := by decide +kernel
theorem dX4_init_13 : decode cX4_init 13 = .ok (.iconst 0, 1) := by decide +kernel
theorem dX4_init_14 : decode cX4_init 14 = .ok (.putfield 15, 3) := by decide +kernel
theorem dX4_init_17 : decode cX4_init 17 = .ok (.aload_n 0, 1) := by decide +kernel
theorem dX4_init_18 : decode cX4_init 18 = .ok (.iconst 0, 1) := by decide +kernel
theorem dX4_init_19 : decode cX4_init 19 = .ok (.putfield 19, 3) := by decide +kernel
theorem dX4_init_22 : decode cX4_init 22 = .ok (.aload_n 0, 1) := by decide +kernel
theorem dX4_init_23 : decode cX4_init 23 = .ok (.iconst 0, 1) := by decide +kernel
theorem dX4_init_24 : decode cX4_init 24 = .ok (.putfield 22, 3) := by decide +kernel
theorem dX4_init_27 : decode cX4_init 27 = .ok (.aload_n 0, 1) := by decide +kernel
theorem dX4_init_28 : decode cX4_init 28 = .ok (.iconst 0, 1) := by decide +kernel
theorem dX4_init_29 : decode cX4_init 29 = .ok (.putfield 25, 3) := by decide +kernel
theorem dX4_init_32 : decode cX4_init 32 = .ok (.aload_n 0, 1) := by decide +kernel
theorem dX4_init_33 : decode cX4_init 33 = .ok (.iconst 0, 1) := by decide +kernel
theorem dX4_init_34 : decode cX4_init 34 = .ok (.putfield 28, 3) := by decide +kernel
theorem dX4_init_37 : decode cX4_init 37 = .ok (.return_, 1) := by decide +kernel
theorem c_X4_init (l : Launch) (D : va_G) (cy : Nat → ClassId) (sh : Nat → Nat × Nat) (I : Mm) (A : Nat → Prop) (B : Nat) (hAB : ∀ q, B ≤ q → A q) (ad0 : Nat → Nat) (o : Nat) (P : Nat → Nat → Bool) (hs : (sh o).1 = 4) (hs1 : sh (o + 1) = (8, 120)) (hr0 : I.2.2 o 0 = some (o + 1)) (hI : ∀ k, k < 6 → I.1 o k = 0) (hR : ∀ k, 1 ≤ k → k < 6 → I.2.2 o k = none) : Met l yX4_init (wU yX4_init cX4_init 1 none) rmC4 (va_Pc [.ref (ad0 (o))] (PreG D cy sh I A B ad0 (o + 1) (P))) (QG D cy sh I A B ad0 (o + 1) (o + 2) (pW P o 6)) 1 120 A := by
  refine Met.ofW (cc := cX4_init) (maxL := 1) (ret := none) (by decide) rfl ?_
  intro p e s m args below meth c s₁ B0 hml hv
  obtain ⟨hargs, p1, hK, p3, hB, p5, hEx⟩ := hv
  have hx := B0.exec
  have hb := B0.bytes
  have hr := B0.returns
  have hts := atoms_spec (ws := wU yX4_init cX4_init 1 none) B0.pre
  have hq : ∀ w ∈ gW, w.before args s = true := fun w hw => hts w (List.mem_cons_of_mem _ hw)
  have hcm : ∀ w ∈ gW, w ∈ wU yX4_init cX4_init 1 none := fun w hw => List.mem_cons_of_mem _ hw
  have hown : s.vm.findClass RX4 = some m.cls := findClass_of_methodNamed B0.named
  have hlocks := B0.notSynchronized
  have hin2 : meth.name = "<init>" := (name_of_methodNamed B0.named B0.method).1
  have hF : CallFix p m c cX4_init 1 s args (wU yX4_init cX4_init 1 none) RX4 := ⟨hx, hb, hml, hown, hts⟩
  have hA : ∀ z, s.heap.size ≤ z → A z := fun z hz => hAB z (Nat.le_trans hB hz)
  have hw : Wg D cy sh I ad0 (o + 1) A s.heap P s.heap [] := ⟨⟨p1, p3, va_S.rf⟩, p5⟩
  have hag : ∀ z, z < o + 1 → ad0 z = ad0 z := fun _ _ => rfl
  have iw4 : ∀ w ∈ u_ws RX4 TX4 6, w ∈ wU yX4_init cX4_init 1 none := fun w hw => List.mem_cons_of_mem _ (iX4 w hw)
  rw [show entryFrame m args 1 = entryFrame m ([.ref (ad0 (o))] : List Value).toArray 1 from by rw [hargs]]
  have hl := lv_entry ([.ref (ad0 (o))]) (n := 1) (Nat.le_of_ble_eq_true rfl)
  rw [lg_entry_eq]
  generalize (lg_sl ([.ref (ad0 (o))]) ++ List.replicate (1 - (lg_sl ([.ref (ad0 (o))])).length) Slot.unset).toArray = ls at hl ⊢
  have hl : lv_has ls 1 [(0, .ref (ad0 (o)))] := hl
  refine lv_aload_n hx hb dX4_init_0 rfl (lv_at hl 0 rfl) ?_
  refine W.objInit hx hb hown (hq _ qw294) (hq _ qw80) (hq _ qw81) rfl (by rw [hml]; exact hl.1) rfl dX4_init_1 (Nat.le_of_ble_eq_true rfl) (Nat.le_of_ble_eq_true rfl) ?_
  refine W.eq (g2 := F0 m 4 ls []) rfl ?_
  refine lv_aload_n hx hb dX4_init_4 rfl (lv_at hl 0 rfl) ?_
  refine lv_bipush (v := (120 : Int32)) hx hb dX4_init_5 (by decide) ?_
  refine g_newI hx hb (hq _ qa0) hK hw hA hs1 (by decide) (by decide) (Nat.le_of_ble_eq_true rfl) (Nat.le_of_ble_eq_true rfl) (Nat.le_of_ble_eq_true rfl) dX4_init_7 (fun ad H ha hw => ?_)
  rw [← ha (o) (by omega)] at hl ⊢
  replace hag : ∀ z, z < o + 1 → ad z = ad0 z := fun z hz => (ha z (by omega)).trans (hag z hz)
  have hw : Wg D cy sh I ad (o + 2) A s.heap _ _ _ := hw
  refine g_putF (ci := 4) (v := .ref (ad (o + 1))) hx hb hts iw4 tyX4 tyX4_ok nmX4 hown hK hw hin2 (o) 0 2 ⟨by omega, hs⟩ (by decide) rfl (by decide) rfl (hq _ qw295) (fun _ h9 => h9) rfl rfl (fV_r hr0) (sq hr0 (by omega)) rfl rfl dX4_init_9 (fun H locs hw => ?_)
  refine lv_aload_n hx hb dX4_init_12 rfl (lv_at hl 0 rfl) ?_
  refine lv_iconst (v := (0 : Int32)) hx hb dX4_init_13 (by decide) ?_
  refine g_put (ci := 4) (v := .int (0 : Int32)) hx hb hts iw4 tyX4 tyX4_ok nmX4 hown hK hw (o) 1 0 ⟨by omega, hs⟩ (by decide) rfl (by decide) rfl (hq _ qw296) (fun _ h9 => h9) rfl (fV_i (hI 1 (by decide))) (nq (hR 1 (by decide) (by decide))) rfl rfl dX4_init_14 (fun H locs hw => ?_)
  refine lv_aload_n hx hb dX4_init_17 rfl (lv_at hl 0 rfl) ?_
  refine lv_iconst (v := (0 : Int32)) hx hb dX4_init_18 (by decide) ?_
  refine g_put (ci := 4) (v := .int (0 : Int32)) hx hb hts iw4 tyX4 tyX4_ok nmX4 hown hK hw (o) 2 0 ⟨by omega, hs⟩ (by decide) rfl (by decide) rfl (hq _ qw298) (fun _ h9 => h9) rfl (fV_i (hI 2 (by decide))) (nq (hR 2 (by decide) (by decide))) rfl rfl dX4_init_19 (fun H locs hw => ?_)
  refine lv_aload_n hx hb dX4_init_22 rfl (lv_at hl 0 rfl) ?_
  refine lv_iconst (v := (0 : Int32)) hx hb dX4_init_23 (by decide) ?_
  refine g_put (ci := 4) (v := .int (0 : Int32)) hx hb hts iw4 tyX4 tyX4_ok nmX4 hown hK hw (o) 3 0 ⟨by omega, hs⟩ (by decide) rfl (by decide) rfl (hq _ qw299) (fun _ h9 => h9) rfl (fV_i (hI 3 (by decide))) (nq (hR 3 (by decide) (by decide))) rfl rfl dX4_init_24 (fun H locs hw => ?_)
  refine lv_aload_n hx hb dX4_init_27 rfl (lv_at hl 0 rfl) ?_
  refine lv_iconst (v := (0 : Int32)) hx hb dX4_init_28 (by decide) ?_
  refine g_put (ci := 4) (v := .int (0 : Int32)) hx hb hts iw4 tyX4 tyX4_ok nmX4 hown hK hw (o) 4 0 ⟨by omega, hs⟩ (by decide) rfl (by decide) rfl (hq _ qw300) (fun _ h9 => h9) rfl (fV_i (hI 4 (by decide))) (nq (hR 4 (by decide) (by decide))) rfl rfl dX4_init_29 (fun H locs hw => ?_)
  refine lv_aload_n hx hb dX4_init_32 rfl (lv_at hl 0 rfl) ?_
  refine lv_iconst (v := (0 : Int32)) hx hb dX4_init_33 (by decide) ?_
  refine g_put (ci := 4) (v := .int (0 : Int32)) hx hb hts iw4 tyX4 tyX4_ok nmX4 hown hK hw (o) 5 0 ⟨by omega, hs⟩ (by decide) rfl (by decide) rfl (hq _ qw301) (fun _ h9 => h9) rfl (fV_i (hI 5 (by decide))) (nq (hR 5 (by decide) (by decide))) rfl rfl dX4_init_34 (fun H locs hw => ?_)
  have hw : Wg D cy sh I ad (o + 2) A s.heap (pW P o 6) H locs := Wg.mask hw (fun a k => by simp only [pU_t, pW_t, LM_t]; by_cases z : P a k = true <;> simp only [z, or_true, or_false, Bool.false_eq_true] <;> omega)
  refine W.widen (k := 1) (n := 120) (by omega) (by omega) ?_
  exact W.vret hx hb hr (fun t ht hW => ⟨⟨ad, rfl, hag, preG_at hEx hK hB hw ht hW⟩, hw.1.2.2.F ht⟩) hw.1.2.2.2.2 dX4_init_37 hlocks

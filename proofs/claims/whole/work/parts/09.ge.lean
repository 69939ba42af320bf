/-! ===== the law's start: classes, texts (by program, lawstart.py) ===== -/
theorem tq90 : Cond.arrayOver (.object RX3) ∈ lw_tbl := List.mem_of_getElem? (i := 89) (by decide +kernel)
theorem tq92 : Cond.arrayOver (.object RX0) ∈ lw_tbl := List.mem_of_getElem? (i := 91) (by decide +kernel)
theorem tq317 : Cond.arrayOver (.object RX2) ∈ lw_tbl := List.mem_of_getElem? (i := 316) (by decide +kernel)
theorem tq94 : Cond.methodLinkNest RX1 52 yX3_init "TwiceRunning" ∈ lw_tbl := List.mem_of_getElem? (i := 93) (by decide +kernel)
theorem tq131 : Cond.methodLinkNest RX1 53 yX0_init "TwiceRunning" ∈ lw_tbl := List.mem_of_getElem? (i := 130) (by decide +kernel)
theorem tq234 : Cond.methodLinkNest RX6 25 yX5_init "TwiceRunning" ∈ lw_tbl := List.mem_of_getElem? (i := 233) (by decide +kernel)
theorem tq292 : Cond.methodLinkNest RX6 36 yX4_init "TwiceRunning" ∈ lw_tbl := List.mem_of_getElem? (i := 291) (by decide +kernel)
theorem tq319 : Cond.methodLinkNest RX6 51 yX2_init "TwiceRunning" ∈ lw_tbl := List.mem_of_getElem? (i := 318) (by decide +kernel)
theorem tq513 : Cond.laysStatic "java/lang/String" "COMPACT_STRINGS" "Z" ∈ lw_tbl := List.mem_of_getElem? (i := 512) (by decide +kernel)
theorem tq529 : Cond.laysStatic "jdk/internal/util/Preconditions" "SIOOBE_FORMATTER" "Ljava/util/function/BiFunction;" ∈ lw_tbl := List.mem_of_getElem? (i := 528) (by decide +kernel)
theorem tq71 : Cond.initialized "java/lang/String" ∈ lw_tbl := List.mem_of_getElem? (i := 70) (by decide +kernel)
theorem tq73 : Cond.initialized "jdk/internal/util/Preconditions" ∈ lw_tbl := List.mem_of_getElem? (i := 72) (by decide +kernel)
theorem tw498 : Cond.stringRef RX4 97 "side" ∈ lw_tbl := List.mem_of_getElem? (i := 498) (by decide +kernel)
theorem tw551 : Cond.stringRef RX4 99 "try" ∈ lw_tbl := List.mem_of_getElem? (i := 551) (by decide +kernel)
theorem tw552 : Cond.stringRef RX4 101 "spare" ∈ lw_tbl := List.mem_of_getElem? (i := 552) (by decide +kernel)
theorem tw553 : Cond.stringRef RX4 103 "choose" ∈ lw_tbl := List.mem_of_getElem? (i := 553) (by decide +kernel)
theorem tw554 : Cond.stringRef RX4 105 "feed" ∈ lw_tbl := List.mem_of_getElem? (i := 554) (by decide +kernel)
theorem tw555 : Cond.stringRef RX4 107 "bar" ∈ lw_tbl := List.mem_of_getElem? (i := 555) (by decide +kernel)
theorem tw556 : Cond.stringRef RX4 109 "told" ∈ lw_tbl := List.mem_of_getElem? (i := 556) (by decide +kernel)
theorem tw565 : Cond.stringRef RX4 69 "tells" ∈ lw_tbl := List.mem_of_getElem? (i := 565) (by decide +kernel)
theorem tw571 : Cond.stringRef RX4 46 "game" ∈ lw_tbl := List.mem_of_getElem? (i := 571) (by decide +kernel)
theorem tw576 : Cond.stringRef RX4 82 "worth" ∈ lw_tbl := List.mem_of_getElem? (i := 576) (by decide +kernel)
theorem tw578 : Cond.stringRef RX4 55 "law" ∈ lw_tbl := List.mem_of_getElem? (i := 578) (by decide +kernel)
theorem tw1094 : Cond.stringRef RX7 189 "law" ∈ lw_tbl := List.mem_of_getElem? (i := 1094) (by decide +kernel)
theorem tw1113 : Cond.stringRef RX7 191 "game" ∈ lw_tbl := List.mem_of_getElem? (i := 1113) (by decide +kernel)
theorem tw1118 : Cond.stringRef RX7 187 "worth" ∈ lw_tbl := List.mem_of_getElem? (i := 1118) (by decide +kernel)
theorem tw1119 : Cond.stringRef RX7 197 "side" ∈ lw_tbl := List.mem_of_getElem? (i := 1119) (by decide +kernel)
theorem tw1120 : Cond.stringRef RX7 199 "try" ∈ lw_tbl := List.mem_of_getElem? (i := 1120) (by decide +kernel)
theorem tw1121 : Cond.stringRef RX7 201 "spare" ∈ lw_tbl := List.mem_of_getElem? (i := 1121) (by decide +kernel)
theorem tw1122 : Cond.stringRef RX7 203 "choose" ∈ lw_tbl := List.mem_of_getElem? (i := 1122) (by decide +kernel)
theorem tw1123 : Cond.stringRef RX7 205 "feed" ∈ lw_tbl := List.mem_of_getElem? (i := 1123) (by decide +kernel)
theorem tw1124 : Cond.stringRef RX7 207 "bar" ∈ lw_tbl := List.mem_of_getElem? (i := 1124) (by decide +kernel)
theorem tw1125 : Cond.stringRef RX7 209 "told" ∈ lw_tbl := List.mem_of_getElem? (i := 1125) (by decide +kernel)
theorem tw1130 : Cond.stringRef RX7 182 "tells" ∈ lw_tbl := List.mem_of_getElem? (i := 1130) (by decide +kernel)
theorem gW_tbl : ∀ w ∈ gW, w ∈ lw_tbl := fun w hw => (List.mem_filter.mp hw).1
section LS
variable {s : State} {args : Array Value}
theorem law_cls (hts : ∀ w ∈ lw_tbl, w.before args s = true) : ∃ D : va_G, ∀ (c : Nat) (q : vw_C), vwCl[c]? = some q → u_Kn s q.1 q.2.1 q.2.2 (D.1 c) (D.2 c) := by
  obtain ⟨c0, i0, h0⟩ := u_known (C := RX0) (T := TX0) (N := 9) (n := 9) hts (fun w hw => gW_tbl w (iX0 w hw)) (hts _ (gW_tbl _ qw129))
  obtain ⟨c1, i1, h1⟩ := u_known (C := RX1) (T := TX1) (N := 11) (n := 11) hts (fun w hw => gW_tbl w (iX1 w hw)) (hts _ (gW_tbl _ qw83))
  obtain ⟨c2, i2, h2⟩ := u_known (C := RX2) (T := TX2) (N := 3) (n := 3) hts (fun w hw => gW_tbl w (iX2 w hw)) (hts _ (gW_tbl _ qw317))
  obtain ⟨c3, i3, h3⟩ := u_known (C := RX3) (T := TX3) (N := 6) (n := 6) hts (fun w hw => gW_tbl w (iX3 w hw)) (hts _ (gW_tbl _ qw92))
  obtain ⟨c4, i4, h4⟩ := u_known (C := RX4) (T := TX4) (N := 6) (n := 6) hts (fun w hw => gW_tbl w (iX4 w hw)) (hts _ (gW_tbl _ qw290))
  obtain ⟨c5, i5, h5⟩ := u_known (C := RX5) (T := TX5) (N := 13) (n := 13) hts (fun w hw => gW_tbl w (iX5 w hw)) (hts _ (gW_tbl _ qw232))
  obtain ⟨c6, i6, h6⟩ := u_known (C := RX6) (T := TX6) (N := 8) (n := 8) hts (fun w hw => gW_tbl w (iX6 w hw)) (hts _ (gW_tbl _ qw75))
  obtain ⟨c7, i7, h7⟩ := u_known (C := RX7) (T := TX7) (N := 30) (n := 30) hts (fun w hw => gW_tbl w (iX7 w hw)) (hts _ (gW_tbl _ qw883))
  refine ⟨(fun k => match k with | 0 => c0 | 1 => c1 | 2 => c2 | 3 => c3 | 4 => c4 | 5 => c5 | 6 => c6 | _ => c7, fun k => match k with | 0 => i0 | 1 => i1 | 2 => i2 | 3 => i3 | 4 => i4 | 5 => i5 | 6 => i6 | _ => i7), fun c q hq => ?_⟩
  match c, hq with
  | 0, hq => cases hq; exact h0
  | 1, hq => cases hq; exact h1
  | 2, hq => cases hq; exact h2
  | 3, hq => cases hq; exact h3
  | 4, hq => cases hq; exact h4
  | 5, hq => cases hq; exact h5
  | 6, hq => cases hq; exact h6
  | 7, hq => cases hq; exact h7
  | c + 8, hq => simp [vwCl] at hq
theorem law_arr {ty : FieldType} (h : (Cond.arrayClass ty).before args s = true) : ∃ c, ArrOfT s c ty ∧ s.vm.findClass ("[" ++ ty.toString) = some c := by
  obtain ⟨c, k, comp, h1, h2, h3⟩ := Cond.arrayClass_spec (args := args) (first := s) (o := none) (s := s) (idx := []) h
  exact ⟨c, fun n z => ⟨fun q hq => (by cases hq), k, h2, comp, h3⟩, h1⟩
theorem law_arq {C : String} (h : (Cond.arrayOver (.object C)).before args s = true) : ∃ c, ArrOfT s c (.object C) ∧ va_RA s c (.object C) := by
  obtain ⟨comp, c, k, h1, h2, h3, h4, h5⟩ := Cond.arrayOver_spec (args := args) (first := s) (o := none) (s := s) (idx := []) h
  exact ⟨c, fun n z => ⟨fun q hq => (by cases hq), k, h3, comp, h4⟩, k, comp, h3, h4, h1, h5⟩
theorem law_K (hts : ∀ w ∈ lw_tbl, w.before args s = true) : ∃ (D : va_G) (cy : Nat → ClassId), va_K D vwCl (tyW cy) s := by
  obtain ⟨D, hD⟩ := law_cls hts
  obtain ⟨a0, p0, q0⟩ := law_arr (hts _ (gW_tbl _ qa0))
  obtain ⟨a1, p1, q1⟩ := law_arr (hts _ (gW_tbl _ qa1))
  obtain ⟨a2, p2, q2⟩ := law_arq (hts _ tq90)
  obtain ⟨a3, p3, q3⟩ := law_arq (hts _ tq92)
  obtain ⟨a4, p4, q4⟩ := law_arq (hts _ tq317)
  refine ⟨D, fun k => match k with | 0 => a0 | 1 => a1 | 2 => a2 | 3 => a3 | _ => a4, hD, fun k q hq => ?_⟩
  match k, hq with
  | 0, hq => cases hq; exact ⟨p0, q0⟩
  | 1, hq => cases hq; exact ⟨p1, q1⟩
  | 2, hq => cases hq; exact ⟨p2, q2⟩
  | 3, hq => cases hq; exact ⟨p3, q3⟩
  | 4, hq => cases hq; exact ⟨p4, q4⟩
  | k + 5, hq => simp [tyW] at hq
theorem law_Ex (hts : ∀ w ∈ lw_tbl, w.before args s = true) : Ex s :=
  ⟨va_AO.of (hts _ tq90), va_AO.of (hts _ tq92), va_AO.of (hts _ tq317), va_Nw.of rfl (hts _ tq94), va_Nw.of rfl (hts _ tq131), va_Nw.of rfl (hts _ tq234), va_Nw.of rfl (hts _ tq292), va_Nw.of rfl (hts _ tq319)⟩
def FG : List Cond := flatC (Jvm.Cond.and given_1 narrow_1)
def kS : List Nat := [97, 99, 101, 103, 105, 107, 109, 69, 46, 82, 55]
def tmS (i : Nat) : Term := .string "TwiceRunning$Tape" (kS.getD i 0)
def vaS (i : Nat) : Term := .field (tmS i) "java/lang/String" "value" "[B"
theorem fs_ex : ∀ i, i < 11 → Cond.exactly (tmS i) "java/lang/String" ∈ FG := by decide +kernel
theorem fs_co : ∀ i, i < 11 → Cond.eq (.field (tmS i) "java/lang/String" "coder" "B") (.int 0) ∈ FG := by decide +kernel
theorem fs_ar : ∀ i, i < 11 → Cond.arrayOf (vaS i) .byte ∈ FG := by decide +kernel
theorem fs_le : ∀ i, i < 11 → Cond.eq (.length (vaS i)) (.int (Int32.ofNat (lenJS.getD i 0))) ∈ FG := by decide +kernel
theorem fs_el : ∀ i, i < 11 → ∀ j, j < lenJS.getD i 0 → Cond.eq (.elem (vaS i) (.int (Int32.ofNat j))) (.int ((bytJS.getD i []).getD j 0)) ∈ FG := by decide +kernel
def ppN (i j : Nat) : Nat := (([[0, 48, 58, 70, 81, 92, 105, 120, 135, 152, 168], [0, 0, 59, 71, 82, 93, 106, 121, 136, 153, 169], [0, 0, 0, 72, 83, 94, 107, 122, 137, 154, 170], [0, 0, 0, 0, 84, 95, 108, 123, 138, 155, 171], [0, 0, 0, 0, 0, 96, 109, 124, 139, 156, 172], [0, 0, 0, 0, 0, 0, 110, 125, 140, 157, 173], [0, 0, 0, 0, 0, 0, 0, 126, 141, 158, 174], [0, 0, 0, 0, 0, 0, 0, 0, 142, 159, 175], [0, 0, 0, 0, 0, 0, 0, 0, 0, 160, 176], [0, 0, 0, 0, 0, 0, 0, 0, 0, 0, 177], [0, 0, 0, 0, 0, 0, 0, 0, 0, 0, 0]] : List (List Nat)).getD i []).getD j 0
theorem fs_ne0 : ∀ i, i < 11 → ∀ j, j < 11 → i < j → FG[ppN i j]? = some (Cond.not (Cond.eq (tmS i) (tmS j))) := by decide +kernel
theorem fs_ne (i : Nat) (hi : i < 11) (j : Nat) (hj : j < 11) (h : i ≠ j) : Cond.not (Cond.eq (tmS i) (tmS j)) ∈ FG ∨ Cond.not (Cond.eq (tmS j) (tmS i)) ∈ FG := (Nat.lt_or_gt_of_ne h).elim (fun z => Or.inl (List.mem_of_getElem? (fs_ne0 i hi j hj z))) (fun z => Or.inr (List.mem_of_getElem? (fs_ne0 j hj i hi z)))
theorem fm_e189 : Cond.eq (tmS 10) (.string "TwiceRunningModel" 189) ∈ FG := by decide +kernel
theorem fm_x189 : Cond.exactly (.string "TwiceRunningModel" 189) "java/lang/String" ∈ FG := by decide +kernel
theorem fm_e191 : Cond.eq (tmS 8) (.string "TwiceRunningModel" 191) ∈ FG := by decide +kernel
theorem fm_x191 : Cond.exactly (.string "TwiceRunningModel" 191) "java/lang/String" ∈ FG := by decide +kernel
theorem fm_e187 : Cond.eq (tmS 9) (.string "TwiceRunningModel" 187) ∈ FG := by decide +kernel
theorem fm_x187 : Cond.exactly (.string "TwiceRunningModel" 187) "java/lang/String" ∈ FG := by decide +kernel
theorem fm_e197 : Cond.eq (tmS 0) (.string "TwiceRunningModel" 197) ∈ FG := by decide +kernel
theorem fm_x197 : Cond.exactly (.string "TwiceRunningModel" 197) "java/lang/String" ∈ FG := by decide +kernel
theorem fm_e199 : Cond.eq (tmS 1) (.string "TwiceRunningModel" 199) ∈ FG := by decide +kernel
theorem fm_x199 : Cond.exactly (.string "TwiceRunningModel" 199) "java/lang/String" ∈ FG := by decide +kernel
theorem fm_e201 : Cond.eq (tmS 2) (.string "TwiceRunningModel" 201) ∈ FG := by decide +kernel
theorem fm_x201 : Cond.exactly (.string "TwiceRunningModel" 201) "java/lang/String" ∈ FG := by decide +kernel
theorem fm_e203 : Cond.eq (tmS 3) (.string "TwiceRunningModel" 203) ∈ FG := by decide +kernel
theorem fm_x203 : Cond.exactly (.string "TwiceRunningModel" 203) "java/lang/String" ∈ FG := by decide +kernel
theorem fm_e205 : Cond.eq (tmS 4) (.string "TwiceRunningModel" 205) ∈ FG := by decide +kernel
theorem fm_x205 : Cond.exactly (.string "TwiceRunningModel" 205) "java/lang/String" ∈ FG := by decide +kernel
theorem fm_e207 : Cond.eq (tmS 5) (.string "TwiceRunningModel" 207) ∈ FG := by decide +kernel
theorem fm_x207 : Cond.exactly (.string "TwiceRunningModel" 207) "java/lang/String" ∈ FG := by decide +kernel
theorem fm_e209 : Cond.eq (tmS 6) (.string "TwiceRunningModel" 209) ∈ FG := by decide +kernel
theorem fm_x209 : Cond.exactly (.string "TwiceRunningModel" 209) "java/lang/String" ∈ FG := by decide +kernel
theorem fm_e182 : Cond.eq (tmS 7) (.string "TwiceRunningModel" 182) ∈ FG := by decide +kernel
theorem fm_x182 : Cond.exactly (.string "TwiceRunningModel" 182) "java/lang/String" ∈ FG := by decide +kernel
theorem fs_cs : Cond.eq (.static "java/lang/String" "COMPACT_STRINGS" "Z") (.int 1) ∈ FG := by decide +kernel
theorem fs_pf : Cond.isRef (.static "jdk/internal/util/Preconditions" "SIOOBE_FORMATTER" "Ljava/util/function/BiFunction;") ∈ FG := by decide +kernel
theorem law_same {t u : Term} {a : Nat} (hs : ∀ c ∈ FG, c.before args s = true) (he : Cond.eq t u ∈ FG) (hx : Cond.exactly u "java/lang/String" ∈ FG) (ht : t.eval args s none [] s = some (.ref a)) : u.eval args s none [] s = some (.ref a) := by
  obtain ⟨z, c, cA, kA, q1, -⟩ := Cond.exactly_spec (args := args) (first := s) (o := none) (s := s) (idx := []) (t := u) (cls := "java/lang/String") (hs _ hx)
  have h1 := va_eqv (hs _ he) q1
  rw [ht] at h1
  rw [q1, ← h1]
theorem law_Z (hts : ∀ w ∈ lw_tbl, w.before args s = true) (hgv : (Jvm.Cond.and given_1 narrow_1).before args s = true) : ∃ adK adV : Nat → Nat, Zs adK adV (Nw s) s := by
  have hs : ∀ c ∈ FG, c.before args s = true := flat_of_before _ hgv
  have hA : ∀ a : Nat, a < s.heap.size → ¬ Nw s a := fun a h1 h2 => Nat.lt_irrefl _ (Nat.lt_of_lt_of_le h1 h2)
  obtain ⟨adK, adV, hS, hE⟩ := vk_Sof (args := args) (s := s) (N := 11) (tm := tmS) (len := lenJS) (byt := bytJS) (A := Nw s) (by decide) (fun i hi => hs _ (fs_ex i hi)) (fun i hi => hs _ (fs_co i hi)) (fun i hi => hs _ (fs_ar i hi)) (fun i hi => hs _ (fs_le i hi)) (fun i hi j hj => hs _ (fs_el i hi j hj)) (fun i j hi hj hij => (fs_ne i hi j hj hij).elim (fun z => Or.inl (hs _ z)) (fun z => Or.inr (hs _ z))) hA
  refine ⟨adK, adV, hS, fun q hq => ?_, va_Zof (hts _ tq513) (hts _ tq71) (va_eqv (hs _ fs_cs) rfl) hA, va_Zqof (hts _ tq529) (hts _ tq73) (hs _ fs_pf) hA⟩
  simp only [strs, List.mem_cons, List.not_mem_nil, or_false] at hq
  rcases hq with rfl | rfl | rfl | rfl | rfl | rfl | rfl | rfl | rfl | rfl | rfl | rfl | rfl | rfl | rfl | rfl | rfl | rfl | rfl | rfl | rfl | rfl
  · exact vk_R.of (hts _ tw498) (hE 0 (by decide))
  · exact vk_R.of (hts _ tw551) (hE 1 (by decide))
  · exact vk_R.of (hts _ tw552) (hE 2 (by decide))
  · exact vk_R.of (hts _ tw553) (hE 3 (by decide))
  · exact vk_R.of (hts _ tw554) (hE 4 (by decide))
  · exact vk_R.of (hts _ tw555) (hE 5 (by decide))
  · exact vk_R.of (hts _ tw556) (hE 6 (by decide))
  · exact vk_R.of (hts _ tw565) (hE 7 (by decide))
  · exact vk_R.of (hts _ tw571) (hE 8 (by decide))
  · exact vk_R.of (hts _ tw576) (hE 9 (by decide))
  · exact vk_R.of (hts _ tw578) (hE 10 (by decide))
  · exact vk_R.of (hts _ tw1094) (law_same hs fm_e189 fm_x189 (hE 10 (by decide)))
  · exact vk_R.of (hts _ tw1113) (law_same hs fm_e191 fm_x191 (hE 8 (by decide)))
  · exact vk_R.of (hts _ tw1118) (law_same hs fm_e187 fm_x187 (hE 9 (by decide)))
  · exact vk_R.of (hts _ tw1119) (law_same hs fm_e197 fm_x197 (hE 0 (by decide)))
  · exact vk_R.of (hts _ tw1120) (law_same hs fm_e199 fm_x199 (hE 1 (by decide)))
  · exact vk_R.of (hts _ tw1121) (law_same hs fm_e201 fm_x201 (hE 2 (by decide)))
  · exact vk_R.of (hts _ tw1122) (law_same hs fm_e203 fm_x203 (hE 3 (by decide)))
  · exact vk_R.of (hts _ tw1123) (law_same hs fm_e205 fm_x205 (hE 4 (by decide)))
  · exact vk_R.of (hts _ tw1124) (law_same hs fm_e207 fm_x207 (hE 5 (by decide)))
  · exact vk_R.of (hts _ tw1125) (law_same hs fm_e209 fm_x209 (hE 6 (by decide)))
  · exact vk_R.of (hts _ tw1130) (law_same hs fm_e182 fm_x182 (hE 7 (by decide)))
end LS

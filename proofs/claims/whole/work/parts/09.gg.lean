/-! ===== the law's loop (by program, lawend.py) ===== -/
theorem dL_0 : decode code 0 = .ok (.new 7, 3) := by decide +kernel
theorem dL_3 : decode code 3 = .ok (.dup, 1) := by decide +kernel
theorem dL_4 : decode code 4 = .ok (.invokespecial 9, 3) := by decide +kernel
theorem dL_7 : decode code 7 = .ok (.astore_n 1, 1) := by decide +kernel
theorem dL_8 : decode code 8 = .ok (.new 10, 3) := by decide +kernel
theorem dL_11 : decode code 11 = .ok (.dup, 1) := by decide +kernel
theorem dL_12 : decode code 12 = .ok (.invokespecial 12, 3) := by decide +kernel
theorem dL_15 : decode code 15 = .ok (.astore_n 2, 1) := by decide +kernel
theorem dL_16 : decode code 16 = .ok (.iconst 0, 1) := by decide +kernel
theorem dL_17 : decode code 17 = .ok (.istore_n 3, 1) := by decide +kernel
theorem dL_18 : decode code 18 = .ok (.iload_n 3, 1) := by decide +kernel
theorem dL_19 : decode code 19 = .ok (.aload_n 0, 1) := by decide +kernel
theorem dL_20 : decode code 20 = .ok (.arraylength, 1) := by decide +kernel
theorem dL_21 : decode code 21 = .ok (.bipush 6, 2) := by decide +kernel
theorem dL_23 : decode code 23 = .ok (.isub, 1) := by decide +kernel
theorem dL_24 : decode code 24 = .ok (.if_icmp .gt 1383, 3) := by decide +kernel
theorem dL_27 : decode code 27 = .ok (.aload_n 0, 1) := by decide +kernel
theorem dL_28 : decode code 28 = .ok (.iload_n 3, 1) := by decide +kernel
theorem dL_29 : decode code 29 = .ok (.iaload, 1) := by decide +kernel
theorem dL_30 : decode code 30 = .ok (.bipush 63, 2) := by decide +kernel
theorem dL_32 : decode code 32 = .ok (.iand, 1) := by decide +kernel
theorem dL_33 : decode code 33 = .ok (.tableswitch 1368 0 43 #[191, 224, 257, 300, 343, 376, 409, 432, 465, 478, 491, 514, 537, 550, 563, 576, 599, 643, 677, 711, 755, 778, 791, 825, 848, 871, 894, 917, 940, 953, 966, 999, 1022, 1055, 1088, 1131, 1174, 1237, 1260, 1283, 1296, 1309, 1322, 1345], 191) := by decide +kernel
theorem dL_1401 : decode code 1401 = .ok (.iinc 3 6, 3) := by decide +kernel
theorem dL_1404 : decode code 1404 = .ok (.goto (-1386), 3) := by decide +kernel
theorem dL_1407 : decode code 1407 = .ok (.iconst 1, 1) := by decide +kernel
theorem dL_1408 : decode code 1408 = .ok (.ireturn, 1) := by decide +kernel
section LLOOP
variable {p : Program} {l : Launch} {e : Env} {s : State} {m : MethodId} {below : List Frame} {meth : Method} {c : Code} {D : va_G}
variable {cy : Nat → ClassId} {adX adM adK adV : Nat → Nat} {b L : Nat} {xs : Nat → Int32}
theorem law_test {i L : Nat} (hi : i ≤ 384) (hL : L ≤ 384) : (nI L - nI 6 < nI i) ↔ L < i + 6 := by
  rw [Int32.lt_iff_toInt_lt, pk_sub_toInt (by omega) (by omega), nI_toInt (by omega)]
  omega
theorem law_exit (hx : p.tables.exec = Jvm.exec) (hb : c.code = code) (hr : meth.sig.returnType = ret) (hlocks : meth.locks = false) {H : Heap} {locs : List Loc} {ls : Array Slot} (hS : va_S (Nw s) s.heap H locs) : W p l e room_1 s m #[Value.ref b] below meth c H locs 600000 7302250 (lw_Z below #[Value.ref b] s) (F0 m 1407 ls []) := by
  refine va_forget (fun q hq => hS.2.2 q hq) ?_
  refine lv_iconst (v := (1 : Int32)) hx hb dL_1407 (by decide) ?_
  exact lw_ret hx hb hr hlocks dL_1408
theorem law_case (hC : CallFix p m c code 4 s #[Value.ref b] lw_tbl RL) (hF : LF D cy adX adM adK adV b s) (hX : va_X b L xs s s.heap) (hL : L ≤ 384) {i j : Nat} {MX MY : Mm} {H : Heap} {locs : List Loc} {ls : Array Slot} (hj : j < 64) (hi : i + 6 ≤ L) (hw : LW D cy adX adM b L xs s MX MY H locs) (hR : Rel MX MY) (hl : lv_has ls 4 [(0, .ref b), (1, .ref (adX 0)), (2, .ref (adM 0)), (3, .int (nI i))])
    (hn : ∀ (MX' MY' : Mm) (H1 : Heap) (locs1 : List Loc), LW D cy adX adM b L xs s MX' MY' H1 locs1 → Rel MX' MY' → W p l e room_1 s m #[Value.ref b] below meth c H1 locs1 600000 7302250 (lw_Z below #[Value.ref b] s) (F0 m 1401 ls [])) : W p l e room_1 s m #[Value.ref b] below meth c H locs 600000 7302250 (lw_Z below #[Value.ref b] s) (F0 m 33 ls [.int (nI j)]) := by
  have hx := hC.1
  have hb := hC.2.1
  have hf : 600000 ≤ room_1.cells ∧ 7302250 ≤ room_1.slots := ⟨Nat.le_of_ble_eq_true rfl, Nat.le_of_ble_eq_true rfl⟩
  rcases (show j = 0 ∨ j = 1 ∨ j = 2 ∨ j = 3 ∨ j = 4 ∨ j = 5 ∨ j = 6 ∨ j = 7 ∨ j = 8 ∨ j = 9 ∨ j = 10 ∨ j = 11 ∨ j = 12 ∨ j = 13 ∨ j = 14 ∨ j = 15 ∨ j = 16 ∨ j = 17 ∨ j = 18 ∨ j = 19 ∨ j = 20 ∨ j = 21 ∨ j = 22 ∨ j = 23 ∨ j = 24 ∨ j = 25 ∨ j = 26 ∨ j = 27 ∨ j = 28 ∨ j = 29 ∨ j = 30 ∨ j = 31 ∨ j = 32 ∨ j = 33 ∨ j = 34 ∨ j = 35 ∨ j = 36 ∨ j = 37 ∨ j = 38 ∨ j = 39 ∨ j = 40 ∨ j = 41 ∨ j = 42 ∨ j = 43 ∨ 44 ≤ j by omega) with rfl | rfl | rfl | rfl | rfl | rfl | rfl | rfl | rfl | rfl | rfl | rfl | rfl | rfl | rfl | rfl | rfl | rfl | rfl | rfl | rfl | rfl | rfl | rfl | rfl | rfl | rfl | rfl | rfl | rfl | rfl | rfl | rfl | rfl | rfl | rfl | rfl | rfl | rfl | rfl | rfl | rfl | rfl | rfl | h44
  · refine lv_tableIn (off := 191) (tgt := 224) hx hb dL_33 (by decide) (by decide) (by decide) (by decide) ?_
    exact case_side hC gW_tbl hF hw hR hl hX hi hL hf hn
  · refine lv_tableIn (off := 224) (tgt := 257) hx hb dL_33 (by decide) (by decide) (by decide) (by decide) ?_
    exact case_sideOf hC gW_tbl hF hw hR hl hX hi hL hf hn
  · refine lv_tableIn (off := 257) (tgt := 290) hx hb dL_33 (by decide) (by decide) (by decide) (by decide) ?_
    exact case_change hC gW_tbl hF hw hR hl hX hi hL hf hn
  · refine lv_tableIn (off := 300) (tgt := 333) hx hb dL_33 (by decide) (by decide) (by decide) (by decide) ?_
    exact case_game hC gW_tbl hF hw hR hl hX hi hL hf hn
  · refine lv_tableIn (off := 343) (tgt := 376) hx hb dL_33 (by decide) (by decide) (by decide) (by decide) ?_
    exact case_gameOf hC gW_tbl hF hw hR hl hX hi hL hf hn
  · refine lv_tableIn (off := 376) (tgt := 409) hx hb dL_33 (by decide) (by decide) (by decide) (by decide) ?_
    exact case_swap hC gW_tbl hF hw hR hl hX hi hL hf hn
  · refine lv_tableIn (off := 409) (tgt := 442) hx hb dL_33 (by decide) (by decide) (by decide) (by decide) ?_
    exact case_law hC gW_tbl hF hw hR hl hX hi hL hf hn
  · refine lv_tableIn (off := 432) (tgt := 465) hx hb dL_33 (by decide) (by decide) (by decide) (by decide) ?_
    exact case_feed hC gW_tbl hF hw hR hl hX hi hL hf hn
  · refine lv_tableIn (off := 465) (tgt := 498) hx hb dL_33 (by decide) (by decide) (by decide) (by decide) ?_
    exact case_wipe hC gW_tbl hF hw hR hl hf hn
  · refine lv_tableIn (off := 478) (tgt := 511) hx hb dL_33 (by decide) (by decide) (by decide) (by decide) ?_
    exact case_text hC gW_tbl hF hw hR hl hX hi hL hf hn
  · refine lv_tableIn (off := 491) (tgt := 524) hx hb dL_33 (by decide) (by decide) (by decide) (by decide) ?_
    exact case_next hC gW_tbl hF hw hR hl hX hi hL hf hn
  · refine lv_tableIn (off := 514) (tgt := 547) hx hb dL_33 (by decide) (by decide) (by decide) (by decide) ?_
    exact case_win hC gW_tbl hF hw hR hl hX hi hL hf hn
  · refine lv_tableIn (off := 537) (tgt := 570) hx hb dL_33 (by decide) (by decide) (by decide) (by decide) ?_
    exact case_play hC gW_tbl hF hw hR hl hX hi hL hf hn
  · refine lv_tableIn (off := 550) (tgt := 583) hx hb dL_33 (by decide) (by decide) (by decide) (by decide) ?_
    exact case_anew hC gW_tbl hF hw hR hl hX hi hL hf hn
  · refine lv_tableIn (off := 563) (tgt := 596) hx hb dL_33 (by decide) (by decide) (by decide) (by decide) ?_
    exact case_leads hC gW_tbl hF hw hR hl hX hi hL hf hn
  · refine lv_tableIn (off := 576) (tgt := 609) hx hb dL_33 (by decide) (by decide) (by decide) (by decide) ?_
    exact case_place hC gW_tbl hF hw hR hl hX hi hL hf hn
  · refine lv_tableIn (off := 599) (tgt := 632) hx hb dL_33 (by decide) (by decide) (by decide) (by decide) ?_
    exact case_gets hC gW_tbl hF hw hR hl hX hi hL hf hn
  · refine lv_tableIn (off := 643) (tgt := 676) hx hb dL_33 (by decide) (by decide) (by decide) (by decide) ?_
    exact case_first hC gW_tbl hF hw hR hl hX hi hL hf hn
  · refine lv_tableIn (off := 677) (tgt := 710) hx hb dL_33 (by decide) (by decide) (by decide) (by decide) ?_
    exact case_mean hC gW_tbl hF hw hR hl hX hi hL hf hn
  · refine lv_tableIn (off := 711) (tgt := 744) hx hb dL_33 (by decide) (by decide) (by decide) (by decide) ?_
    exact case_least hC gW_tbl hF hw hR hl hX hi hL hf hn
  · refine lv_tableIn (off := 755) (tgt := 788) hx hb dL_33 (by decide) (by decide) (by decide) (by decide) ?_
    exact case_most hC gW_tbl hF hw hR hl hX hi hL hf hn
  · refine lv_tableIn (off := 778) (tgt := 811) hx hb dL_33 (by decide) (by decide) (by decide) (by decide) ?_
    exact case_ways hC gW_tbl hF hw hR hl hX hi hL hf hn
  · refine lv_tableIn (off := 791) (tgt := 824) hx hb dL_33 (by decide) (by decide) (by decide) (by decide) ?_
    exact case_moved hC gW_tbl hF hw hR hl hX hi hL hf hn
  · refine lv_tableIn (off := 825) (tgt := 858) hx hb dL_33 (by decide) (by decide) (by decide) (by decide) ?_
    exact case_best hC gW_tbl hF hw hR hl hX hi hL hf hn
  · refine lv_tableIn (off := 848) (tgt := 881) hx hb dL_33 (by decide) (by decide) (by decide) (by decide) ?_
    exact case_kindFor hC gW_tbl hF hw hR hl hX hi hL hf hn
  · refine lv_tableIn (off := 871) (tgt := 904) hx hb dL_33 (by decide) (by decide) (by decide) (by decide) ?_
    exact case_tellsFor hC gW_tbl hF hw hR hl hX hi hL hf hn
  · refine lv_tableIn (off := 894) (tgt := 927) hx hb dL_33 (by decide) (by decide) (by decide) (by decide) ?_
    exact case_order hC gW_tbl hF hw hR hl hX hi hL hf hn
  · refine lv_tableIn (off := 917) (tgt := 950) hx hb dL_33 (by decide) (by decide) (by decide) (by decide) ?_
    exact case_lawFor hC gW_tbl hF hw hR hl hX hi hL hf hn
  · refine lv_tableIn (off := 940) (tgt := 973) hx hb dL_33 (by decide) (by decide) (by decide) (by decide) ?_
    exact case_gains hC gW_tbl hF hw hR hl hX hi hL hf hn
  · refine lv_tableIn (off := 953) (tgt := 986) hx hb dL_33 (by decide) (by decide) (by decide) (by decide) ?_
    exact case_wronged hC gW_tbl hF hw hR hl hX hi hL hf hn
  · refine lv_tableIn (off := 966) (tgt := 999) hx hb dL_33 (by decide) (by decide) (by decide) (by decide) ?_
    exact case_tries hC gW_tbl hF hw hR hl hX hi hL hf hn
  · refine lv_tableIn (off := 999) (tgt := 1032) hx hb dL_33 (by decide) (by decide) (by decide) (by decide) ?_
    exact case_seed hC gW_tbl hF hw hR hl hX hi hL hf hn
  · refine lv_tableIn (off := 1022) (tgt := 1055) hx hb dL_33 (by decide) (by decide) (by decide) (by decide) ?_
    exact case_hold hC gW_tbl hF hw hR hl hX hi hL hf hn
  · refine lv_tableIn (off := 1055) (tgt := 1088) hx hb dL_33 (by decide) (by decide) (by decide) (by decide) ?_
    exact case_as hC gW_tbl hF hw hR hl hX hi hL hf hn
  · refine lv_tableIn (off := 1088) (tgt := 1121) hx hb dL_33 (by decide) (by decide) (by decide) (by decide) ?_
    exact case_sheet hC gW_tbl hF hw hR hl hX hi hL hf hn
  · refine lv_tableIn (off := 1131) (tgt := 1164) hx hb dL_33 (by decide) (by decide) (by decide) (by decide) ?_
    exact case_write hC gW_tbl hF hw hR hl hX hi hL hf hn
  · refine lv_tableIn (off := 1174) (tgt := 1207) hx hb dL_33 (by decide) (by decide) (by decide) (by decide) ?_
    exact case_copy hC gW_tbl hF hw hR hl hX hi hL hf hn
  · refine lv_tableIn (off := 1237) (tgt := 1270) hx hb dL_33 (by decide) (by decide) (by decide) (by decide) ?_
    exact case_load hC gW_tbl hF hw hR hl hX hi hL hf hn
  · refine lv_tableIn (off := 1260) (tgt := 1293) hx hb dL_33 (by decide) (by decide) (by decide) (by decide) ?_
    exact case_judge hC gW_tbl hF hw hR hl hX hi hL hf hn
  · refine lv_tableIn (off := 1283) (tgt := 1316) hx hb dL_33 (by decide) (by decide) (by decide) (by decide) ?_
    exact case_image hC gW_tbl hF hw hR hl hX hi hL hf hn
  · refine lv_tableIn (off := 1296) (tgt := 1329) hx hb dL_33 (by decide) (by decide) (by decide) (by decide) ?_
    exact case_undo hC gW_tbl hF hw hR hl hX hi hL hf hn
  · refine lv_tableIn (off := 1309) (tgt := 1342) hx hb dL_33 (by decide) (by decide) (by decide) (by decide) ?_
    exact case_tear hC gW_tbl hF hw hR hl hX hi hL hf hn
  · refine lv_tableIn (off := 1322) (tgt := 1355) hx hb dL_33 (by decide) (by decide) (by decide) (by decide) ?_
    exact case_count hC gW_tbl hF hw hR hl hX hi hL hf hn
  · refine lv_tableIn (off := 1345) (tgt := 1378) hx hb dL_33 (by decide) (by decide) (by decide) (by decide) ?_
    exact case_status hC gW_tbl hF hw hR hl hX hi hL hf hn
  · refine lv_tableOut (tgt := 1401) hx hb dL_33 (Or.inr (by rw [nI_toInt (by omega)]; omega)) (by decide) ?_
    exact hn MX MY H locs hw hR
theorem law_loop (hC : CallFix p m c code 4 s #[Value.ref b] lw_tbl RL) (hr : meth.sig.returnType = ret) (hlocks : meth.locks = false) (hF : LF D cy adX adM adK adV b s) (hX : va_X b L xs s s.heap) (hL : L ≤ 384) : ∀ (d i : Nat) (MX MY : Mm) (H : Heap) (locs : List Loc) (ls : Array Slot), L < i + 6 * d → i ≤ 384 → LW D cy adX adM b L xs s MX MY H locs → Rel MX MY → lv_has ls 4 [(0, .ref b), (1, .ref (adX 0)), (2, .ref (adM 0)), (3, .int (nI i))] → W p l e room_1 s m #[Value.ref b] below meth c H locs 600000 7302250 (lw_Z below #[Value.ref b] s) (F0 m 18 ls []) := by
  have hx := hC.1
  have hb := hC.2.1
  have hbl := hF.2.2.2.2.2.1
  intro d
  induction d with
  | zero =>
    intro i MX MY H locs ls hd hi hw hR hl
    refine lv_iload_n hx hb dL_18 rfl (lv_at hl 3 rfl) ?_
    refine lv_aload_n hx hb dL_19 rfl (lv_at hl 0 rfl) ?_
    refine va_slen hx hb hX hbl (fun z => Nat.lt_irrefl _ (Nat.lt_of_lt_of_le hbl z)) hw.2.2.2 dL_20 ?_
    refine lv_bipush (v := nI 6) hx hb dL_21 (by decide) ?_
    refine lv_isub hx hb dL_23 ?_
    refine lv_icmp_gt (tgt := 1407) hx hb dL_24 (by decide) (fun c1 => ?_) (fun c1 => absurd ((law_test hi hL).mpr (by omega)) c1)
    exact law_exit hx hb hr hlocks hw.2.2.2
  | succ d ih =>
    intro i MX MY H locs ls hd hi hw hR hl
    refine lv_iload_n hx hb dL_18 rfl (lv_at hl 3 rfl) ?_
    refine lv_aload_n hx hb dL_19 rfl (lv_at hl 0 rfl) ?_
    refine va_slen hx hb hX hbl (fun z => Nat.lt_irrefl _ (Nat.lt_of_lt_of_le hbl z)) hw.2.2.2 dL_20 ?_
    refine lv_bipush (v := nI 6) hx hb dL_21 (by decide) ?_
    refine lv_isub hx hb dL_23 ?_
    refine lv_icmp_gt (tgt := 1407) hx hb dL_24 (by decide) (fun c1 => ?_) (fun c1 => ?_)
    · exact law_exit hx hb hr hlocks hw.2.2.2
    · have hi6 : i + 6 ≤ L := Nat.not_lt.mp (fun z => c1 ((law_test hi hL).mpr z))
      refine l_arg0 hx hb hl hX hbl hw.2.2.2 (by omega) hL dL_27 dL_28 dL_29 ?_
      refine lv_bipush (v := (63 : Int32)) hx hb dL_30 (by decide) ?_
      refine lv_iand hx hb dL_32 ?_
      obtain ⟨j, hj, ej⟩ := pk_andE (xs i) (m := 63) 6 (by decide)
      rw [ej]
      refine law_case hC hF hX hL (by omega) hi6 hw hR hl (fun MX' MY' H1 locs1 hw1 hR1 => ?_)
      refine lv_iinc (v := nI (i + 6)) (lv' := [(3, .int (nI (i + 6))), (0, .ref b), (1, .ref (adX 0)), (2, .ref (adM 0))]) hx hb dL_1401 hl (k := 3) rfl (by rw [show Int32.ofInt 6 = nI 6 from by decide, nI_add]) (by decide) rfl (fun ls hl => ?_)
      refine lv_goto (tgt := 18) hx hb dL_1404 (by decide) ?_
      exact ih (i + 6) MX' MY' H1 locs1 ls (by omega) (by omega) hw1 hR1 (lv_sub hl [1, 2, 3, 0] rfl)
end LLOOP

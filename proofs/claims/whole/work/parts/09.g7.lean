/-! ===== the law's cases that answer a long: by program (gen6.py) ===== -/
theorem lcmp_self (r : Int64) : lg_cmp r r = 0 := by
  unfold lg_cmp
  simp
section LC
variable {p : Program} {l : Launch} {e : Env} {s : State} {m : MethodId} {args : Array Value} {below : List Frame} {meth : Method} {c : Code} {H : Heap} {locs : List Loc} {cells slots : Nat} {Q : State → Prop}
variable {ls : Array Slot} {D : va_G} {Ts : List Cond}
variable {cy : Nat → ClassId} {adX adM adK adV : Nat → Nat} {b L i : Nat} {xs : Nat → Int32} {MX MY : Mm} {tl : List (Nat × Value)}
theorem case_gets (hC : CallFix p m c code 4 s args Ts RL) (hg : ∀ w ∈ gW, w ∈ Ts) (hF : LF D cy adX adM adK adV b s) (hw : LW D cy adX adM b L xs s MX MY H locs) (hr : Rel MX MY) (hl : lv_has ls 4 ((0, .ref b) :: (1, .ref (adX 0)) :: (2, .ref (adM 0)) :: (3, .int (nI i)) :: tl)) (hX : va_X b L xs s s.heap) (hi : i + 6 ≤ L) (hL : L ≤ 384) (hf : cells ≤ room_1.cells ∧ slots ≤ room_1.slots)
    (kk : ∀ (MX' MY' : Mm) (H1 : Heap) (locs1 : List Loc), LW D cy adX adM b L xs s MX' MY' H1 locs1 → Rel MX' MY' → W p l e room_1 s m args below meth c H1 locs1 cells slots Q (F0 m 1401 ls [])) : W p l e room_1 s m args below meth c H locs cells slots Q (F0 m 632 ls []) := by
  have hx := hC.1
  have hb := hC.2.1
  have hbl := hF.2.2.2.2.2.1
  obtain ⟨X', Y', r, e1, e2, e3⟩ := B_gets hr (xs (i + 1)) (xs (i + 2)) (xs (i + 3))
  refine lv_aload_n hx hb dL_632 rfl (lv_at hl 1 rfl) ?_
  refine l_arg (k := 1) hx hb hl hX hbl hw.2.2.2 (by decide) (by omega) hL dL_633 dL_634 dL_635 dL_636 dL_637 ?_
  refine l_arg (k := 2) hx hb hl hX hbl hw.2.2.2 (by decide) (by omega) hL dL_638 dL_639 dL_640 dL_641 dL_642 ?_
  refine l_arg (k := 3) hx hb hl hX hbl hw.2.2.2 (by decide) (by omega) hL dL_643 dL_644 dL_645 dL_646 dL_647 ?_
  refine l_callXl (As := [.int (xs (i + 1)), .int (xs (i + 2)), .int (xs (i + 3))]) (rest := []) hC hF hw (c_X6_gets l D cy adX adK adV MX 0 (xs (i + 1)) (xs (i + 2)) (xs (i + 3)) (X', r) e1) (gW_goodV hg qw669 qw666 qw667 qw668 qw60) hdX6_gets rfl ⟨Nat.le_of_ble_eq_true rfl, Nat.le_of_ble_eq_true rfl⟩ rfl rfl rfl rfl hl.1 rfl (Nat.le_of_ble_eq_true rfl) hf dL_648 (fun H1 locs1 hw1 => ?_)
  refine lv_aload_n hx hb dL_651 rfl (lv_at hl 2 rfl) ?_
  refine l_arg (k := 1) hx hb hl hX hbl hw1.2.2.2 (by decide) (by omega) hL dL_652 dL_653 dL_654 dL_655 dL_656 ?_
  refine l_arg (k := 2) hx hb hl hX hbl hw1.2.2.2 (by decide) (by omega) hL dL_657 dL_658 dL_659 dL_660 dL_661 ?_
  refine l_arg (k := 3) hx hb hl hX hbl hw1.2.2.2 (by decide) (by omega) hL dL_662 dL_663 dL_664 dL_665 dL_666 ?_
  refine l_callMl (As := [.int (xs (i + 1)), .int (xs (i + 2)), .int (xs (i + 3))]) (rest := [.long r]) hC hF hw1 (c_X7_gets l D cy adM adK adV MY 0 (xs (i + 1)) (xs (i + 2)) (xs (i + 3)) (Y', r) e2) (gW_goodV hg qw1203 qw1200 qw1201 qw1202 qw67) hdX7_gets rfl ⟨Nat.le_of_ble_eq_true rfl, Nat.le_of_ble_eq_true rfl⟩ rfl rfl rfl rfl hl.1 rfl (Nat.le_of_ble_eq_true rfl) hf dL_667 (fun H2 locs2 hw2 => ?_)
  refine W.lcmp hx hb dL_670 ?_
  exact lv_if_eq (tgt := 1401) hx hb dL_671 (by decide) (fun _ => kk X' Y' H2 locs2 hw2 e3) (fun z => absurd (lcmp_self r) z)
theorem case_first (hC : CallFix p m c code 4 s args Ts RL) (hg : ∀ w ∈ gW, w ∈ Ts) (hF : LF D cy adX adM adK adV b s) (hw : LW D cy adX adM b L xs s MX MY H locs) (hr : Rel MX MY) (hl : lv_has ls 4 ((0, .ref b) :: (1, .ref (adX 0)) :: (2, .ref (adM 0)) :: (3, .int (nI i)) :: tl)) (hX : va_X b L xs s s.heap) (hi : i + 6 ≤ L) (hL : L ≤ 384) (hf : cells ≤ room_1.cells ∧ slots ≤ room_1.slots)
    (kk : ∀ (MX' MY' : Mm) (H1 : Heap) (locs1 : List Loc), LW D cy adX adM b L xs s MX' MY' H1 locs1 → Rel MX' MY' → W p l e room_1 s m args below meth c H1 locs1 cells slots Q (F0 m 1401 ls [])) : W p l e room_1 s m args below meth c H locs cells slots Q (F0 m 676 ls []) := by
  have hx := hC.1
  have hb := hC.2.1
  have hbl := hF.2.2.2.2.2.1
  obtain ⟨X', Y', r, e1, e2, e3⟩ := B_first hr (xs (i + 1)) (xs (i + 2))
  refine lv_aload_n hx hb dL_676 rfl (lv_at hl 1 rfl) ?_
  refine l_arg (k := 1) hx hb hl hX hbl hw.2.2.2 (by decide) (by omega) hL dL_677 dL_678 dL_679 dL_680 dL_681 ?_
  refine l_arg (k := 2) hx hb hl hX hbl hw.2.2.2 (by decide) (by omega) hL dL_682 dL_683 dL_684 dL_685 dL_686 ?_
  refine l_callXl (As := [.int (xs (i + 1)), .int (xs (i + 2))]) (rest := []) hC hF hw (c_X6_first l D cy adX adK adV MX 0 (xs (i + 1)) (xs (i + 2)) (X', r) e1) (gW_goodV hg qw709 qw706 qw707 qw708 qw60) hdX6_first rfl ⟨Nat.le_of_ble_eq_true rfl, Nat.le_of_ble_eq_true rfl⟩ rfl rfl rfl rfl hl.1 rfl (Nat.le_of_ble_eq_true rfl) hf dL_687 (fun H1 locs1 hw1 => ?_)
  refine lv_aload_n hx hb dL_690 rfl (lv_at hl 2 rfl) ?_
  refine l_arg (k := 1) hx hb hl hX hbl hw1.2.2.2 (by decide) (by omega) hL dL_691 dL_692 dL_693 dL_694 dL_695 ?_
  refine l_arg (k := 2) hx hb hl hX hbl hw1.2.2.2 (by decide) (by omega) hL dL_696 dL_697 dL_698 dL_699 dL_700 ?_
  refine l_callMl (As := [.int (xs (i + 1)), .int (xs (i + 2))]) (rest := [.long r]) hC hF hw1 (c_X7_first l D cy adM adK adV MY 0 (xs (i + 1)) (xs (i + 2)) (Y', r) e2) (gW_goodV hg qw1226 qw1223 qw1224 qw1225 qw67) hdX7_first rfl ⟨Nat.le_of_ble_eq_true rfl, Nat.le_of_ble_eq_true rfl⟩ rfl rfl rfl rfl hl.1 rfl (Nat.le_of_ble_eq_true rfl) hf dL_701 (fun H2 locs2 hw2 => ?_)
  refine W.lcmp hx hb dL_704 ?_
  exact lv_if_eq (tgt := 1401) hx hb dL_705 (by decide) (fun _ => kk X' Y' H2 locs2 hw2 e3) (fun z => absurd (lcmp_self r) z)
theorem case_mean (hC : CallFix p m c code 4 s args Ts RL) (hg : ∀ w ∈ gW, w ∈ Ts) (hF : LF D cy adX adM adK adV b s) (hw : LW D cy adX adM b L xs s MX MY H locs) (hr : Rel MX MY) (hl : lv_has ls 4 ((0, .ref b) :: (1, .ref (adX 0)) :: (2, .ref (adM 0)) :: (3, .int (nI i)) :: tl)) (hX : va_X b L xs s s.heap) (hi : i + 6 ≤ L) (hL : L ≤ 384) (hf : cells ≤ room_1.cells ∧ slots ≤ room_1.slots)
    (kk : ∀ (MX' MY' : Mm) (H1 : Heap) (locs1 : List Loc), LW D cy adX adM b L xs s MX' MY' H1 locs1 → Rel MX' MY' → W p l e room_1 s m args below meth c H1 locs1 cells slots Q (F0 m 1401 ls [])) : W p l e room_1 s m args below meth c H locs cells slots Q (F0 m 710 ls []) := by
  have hx := hC.1
  have hb := hC.2.1
  have hbl := hF.2.2.2.2.2.1
  obtain ⟨X', Y', r, e1, e2, e3⟩ := B_mean hr (xs (i + 1)) (xs (i + 2))
  refine lv_aload_n hx hb dL_710 rfl (lv_at hl 1 rfl) ?_
  refine l_arg (k := 1) hx hb hl hX hbl hw.2.2.2 (by decide) (by omega) hL dL_711 dL_712 dL_713 dL_714 dL_715 ?_
  refine l_arg (k := 2) hx hb hl hX hbl hw.2.2.2 (by decide) (by omega) hL dL_716 dL_717 dL_718 dL_719 dL_720 ?_
  refine l_callXl (As := [.int (xs (i + 1)), .int (xs (i + 2))]) (rest := []) hC hF hw (c_X6_mean l D cy adX adK adV MX 0 (xs (i + 1)) (xs (i + 2)) (X', r) e1) (gW_goodV hg qw713 qw710 qw711 qw712 qw60) hdX6_mean rfl ⟨Nat.le_of_ble_eq_true rfl, Nat.le_of_ble_eq_true rfl⟩ rfl rfl rfl rfl hl.1 rfl (Nat.le_of_ble_eq_true rfl) hf dL_721 (fun H1 locs1 hw1 => ?_)
  refine lv_aload_n hx hb dL_724 rfl (lv_at hl 2 rfl) ?_
  refine l_arg (k := 1) hx hb hl hX hbl hw1.2.2.2 (by decide) (by omega) hL dL_725 dL_726 dL_727 dL_728 dL_729 ?_
  refine l_arg (k := 2) hx hb hl hX hbl hw1.2.2.2 (by decide) (by omega) hL dL_730 dL_731 dL_732 dL_733 dL_734 ?_
  refine l_callMl (As := [.int (xs (i + 1)), .int (xs (i + 2))]) (rest := [.long r]) hC hF hw1 (c_X7_mean l D cy adM adK adV MY 0 (xs (i + 1)) (xs (i + 2)) (Y', r) e2) (gW_goodV hg qw1230 qw1227 qw1228 qw1229 qw67) hdX7_mean rfl ⟨Nat.le_of_ble_eq_true rfl, Nat.le_of_ble_eq_true rfl⟩ rfl rfl rfl rfl hl.1 rfl (Nat.le_of_ble_eq_true rfl) hf dL_735 (fun H2 locs2 hw2 => ?_)
  refine W.lcmp hx hb dL_738 ?_
  exact lv_if_eq (tgt := 1401) hx hb dL_739 (by decide) (fun _ => kk X' Y' H2 locs2 hw2 e3) (fun z => absurd (lcmp_self r) z)
theorem case_least (hC : CallFix p m c code 4 s args Ts RL) (hg : ∀ w ∈ gW, w ∈ Ts) (hF : LF D cy adX adM adK adV b s) (hw : LW D cy adX adM b L xs s MX MY H locs) (hr : Rel MX MY) (hl : lv_has ls 4 ((0, .ref b) :: (1, .ref (adX 0)) :: (2, .ref (adM 0)) :: (3, .int (nI i)) :: tl)) (hX : va_X b L xs s s.heap) (hi : i + 6 ≤ L) (hL : L ≤ 384) (hf : cells ≤ room_1.cells ∧ slots ≤ room_1.slots)
    (kk : ∀ (MX' MY' : Mm) (H1 : Heap) (locs1 : List Loc), LW D cy adX adM b L xs s MX' MY' H1 locs1 → Rel MX' MY' → W p l e room_1 s m args below meth c H1 locs1 cells slots Q (F0 m 1401 ls [])) : W p l e room_1 s m args below meth c H locs cells slots Q (F0 m 744 ls []) := by
  have hx := hC.1
  have hb := hC.2.1
  have hbl := hF.2.2.2.2.2.1
  obtain ⟨X', Y', r, e1, e2, e3⟩ := B_least hr (xs (i + 1)) (xs (i + 2)) (xs (i + 3))
  refine lv_aload_n hx hb dL_744 rfl (lv_at hl 1 rfl) ?_
  refine l_arg (k := 1) hx hb hl hX hbl hw.2.2.2 (by decide) (by omega) hL dL_745 dL_746 dL_747 dL_748 dL_749 ?_
  refine l_arg (k := 2) hx hb hl hX hbl hw.2.2.2 (by decide) (by omega) hL dL_750 dL_751 dL_752 dL_753 dL_754 ?_
  refine l_arg (k := 3) hx hb hl hX hbl hw.2.2.2 (by decide) (by omega) hL dL_755 dL_756 dL_757 dL_758 dL_759 ?_
  refine l_callXl (As := [.int (xs (i + 1)), .int (xs (i + 2)), .int (xs (i + 3))]) (rest := []) hC hF hw (c_X6_least l D cy adX adK adV MX 0 (xs (i + 1)) (xs (i + 2)) (xs (i + 3)) (X', r) e1) (gW_goodV hg qw717 qw714 qw715 qw716 qw60) hdX6_least rfl ⟨Nat.le_of_ble_eq_true rfl, Nat.le_of_ble_eq_true rfl⟩ rfl rfl rfl rfl hl.1 rfl (Nat.le_of_ble_eq_true rfl) hf dL_760 (fun H1 locs1 hw1 => ?_)
  refine lv_aload_n hx hb dL_763 rfl (lv_at hl 2 rfl) ?_
  refine l_arg (k := 1) hx hb hl hX hbl hw1.2.2.2 (by decide) (by omega) hL dL_764 dL_765 dL_766 dL_767 dL_768 ?_
  refine l_arg (k := 2) hx hb hl hX hbl hw1.2.2.2 (by decide) (by omega) hL dL_769 dL_770 dL_771 dL_772 dL_773 ?_
  refine l_arg (k := 3) hx hb hl hX hbl hw1.2.2.2 (by decide) (by omega) hL dL_774 dL_775 dL_776 dL_777 dL_778 ?_
  refine l_callMl (As := [.int (xs (i + 1)), .int (xs (i + 2)), .int (xs (i + 3))]) (rest := [.long r]) hC hF hw1 (c_X7_least l D cy adM adK adV MY 0 (xs (i + 1)) (xs (i + 2)) (xs (i + 3)) (Y', r) e2) (gW_goodV hg qw1234 qw1231 qw1232 qw1233 qw67) hdX7_least rfl ⟨Nat.le_of_ble_eq_true rfl, Nat.le_of_ble_eq_true rfl⟩ rfl rfl rfl rfl hl.1 rfl (Nat.le_of_ble_eq_true rfl) hf dL_779 (fun H2 locs2 hw2 => ?_)
  refine W.lcmp hx hb dL_782 ?_
  exact lv_if_eq (tgt := 1401) hx hb dL_783 (by decide) (fun _ => kk X' Y' H2 locs2 hw2 e3) (fun z => absurd (lcmp_self r) z)
theorem case_moved (hC : CallFix p m c code 4 s args Ts RL) (hg : ∀ w ∈ gW, w ∈ Ts) (hF : LF D cy adX adM adK adV b s) (hw : LW D cy adX adM b L xs s MX MY H locs) (hr : Rel MX MY) (hl : lv_has ls 4 ((0, .ref b) :: (1, .ref (adX 0)) :: (2, .ref (adM 0)) :: (3, .int (nI i)) :: tl)) (hX : va_X b L xs s s.heap) (hi : i + 6 ≤ L) (hL : L ≤ 384) (hf : cells ≤ room_1.cells ∧ slots ≤ room_1.slots)
    (kk : ∀ (MX' MY' : Mm) (H1 : Heap) (locs1 : List Loc), LW D cy adX adM b L xs s MX' MY' H1 locs1 → Rel MX' MY' → W p l e room_1 s m args below meth c H1 locs1 cells slots Q (F0 m 1401 ls [])) : W p l e room_1 s m args below meth c H locs cells slots Q (F0 m 824 ls []) := by
  have hx := hC.1
  have hb := hC.2.1
  have hbl := hF.2.2.2.2.2.1
  obtain ⟨X', Y', r, e1, e2, e3⟩ := B_moved hr (xs (i + 1)) (xs (i + 2))
  refine lv_aload_n hx hb dL_824 rfl (lv_at hl 1 rfl) ?_
  refine l_arg (k := 1) hx hb hl hX hbl hw.2.2.2 (by decide) (by omega) hL dL_825 dL_826 dL_827 dL_828 dL_829 ?_
  refine l_arg (k := 2) hx hb hl hX hbl hw.2.2.2 (by decide) (by omega) hL dL_830 dL_831 dL_832 dL_833 dL_834 ?_
  refine l_callXl (As := [.int (xs (i + 1)), .int (xs (i + 2))]) (rest := []) hC hF hw (c_X6_moved l D cy adX adK adV MX 0 (xs (i + 1)) (xs (i + 2)) (X', r) e1) (gW_goodV hg qw729 qw726 qw727 qw728 qw60) hdX6_moved rfl ⟨Nat.le_of_ble_eq_true rfl, Nat.le_of_ble_eq_true rfl⟩ rfl rfl rfl rfl hl.1 rfl (Nat.le_of_ble_eq_true rfl) hf dL_835 (fun H1 locs1 hw1 => ?_)
  refine lv_aload_n hx hb dL_838 rfl (lv_at hl 2 rfl) ?_
  refine l_arg (k := 1) hx hb hl hX hbl hw1.2.2.2 (by decide) (by omega) hL dL_839 dL_840 dL_841 dL_842 dL_843 ?_
  refine l_arg (k := 2) hx hb hl hX hbl hw1.2.2.2 (by decide) (by omega) hL dL_844 dL_845 dL_846 dL_847 dL_848 ?_
  refine l_callMl (As := [.int (xs (i + 1)), .int (xs (i + 2))]) (rest := [.long r]) hC hF hw1 (c_X7_moved l D cy adM adK adV MY 0 (xs (i + 1)) (xs (i + 2)) (Y', r) e2) (gW_goodV hg qw1246 qw1243 qw1244 qw1245 qw67) hdX7_moved rfl ⟨Nat.le_of_ble_eq_true rfl, Nat.le_of_ble_eq_true rfl⟩ rfl rfl rfl rfl hl.1 rfl (Nat.le_of_ble_eq_true rfl) hf dL_849 (fun H2 locs2 hw2 => ?_)
  refine W.lcmp hx hb dL_852 ?_
  exact lv_if_eq (tgt := 1401) hx hb dL_853 (by decide) (fun _ => kk X' Y' H2 locs2 hw2 e3) (fun z => absurd (lcmp_self r) z)
end LC

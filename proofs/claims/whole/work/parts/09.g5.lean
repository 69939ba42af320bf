/-! ===== the law's cases: the form, at wipe ===== -/
theorem dL_498 : decode code 498 = .ok (.aload_n 1, 1) := by decide +kernel
theorem dL_499 : decode code 499 = .ok (.invokevirtual 48, 3) := by decide +kernel
theorem dL_502 : decode code 502 = .ok (.aload_n 2, 1) := by decide +kernel
theorem dL_503 : decode code 503 = .ok (.invokevirtual 52, 3) := by decide +kernel
theorem dL_506 : decode code 506 = .ok (.if_icmp .eq 895, 3) := by decide +kernel
section LC
variable {p : Program} {l : Launch} {e : Env} {s : State} {m : MethodId} {args : Array Value} {below : List Frame} {meth : Method} {c : Code} {H : Heap} {locs : List Loc} {cells slots : Nat} {Q : State → Prop}
variable {ls : Array Slot} {D : va_G} {Ts : List Cond}
variable {cy : Nat → ClassId} {adX adM adK adV : Nat → Nat} {b L i : Nat} {xs : Nat → Int32} {MX MY : Mm} {tl : List (Nat × Value)}
theorem case_wipe (hC : CallFix p m c code 4 s args Ts RL) (hg : ∀ w ∈ gW, w ∈ Ts) (hF : LF D cy adX adM adK adV b s) (hw : LW D cy adX adM b L xs s MX MY H locs) (hr : Rel MX MY) (hl : lv_has ls 4 ((0, .ref b) :: (1, .ref (adX 0)) :: (2, .ref (adM 0)) :: (3, .int (nI i)) :: tl)) (hf : cells ≤ room_1.cells ∧ slots ≤ room_1.slots)
    (kk : ∀ (MX' MY' : Mm) (H1 : Heap) (locs1 : List Loc), LW D cy adX adM b L xs s MX' MY' H1 locs1 → Rel MX' MY' → W p l e room_1 s m args below meth c H1 locs1 cells slots Q (F0 m 1401 ls [])) : W p l e room_1 s m args below meth c H locs cells slots Q (F0 m 498 ls []) := by
  have hx := hC.1
  have hb := hC.2.1
  obtain ⟨X', Y', r, e1, e2, e3⟩ := B_wipe hr
  refine lv_aload_n hx hb dL_498 rfl (lv_at hl 1 rfl) ?_
  refine l_callXi (As := []) (rest := []) hC hF hw (c_X6_wipe l D cy adX adK adV MX 0 (X', r) e1) (gW_goodV hg qw449 qw446 qw447 qw448 qw60) hdX6_wipe rfl ⟨Nat.le_of_ble_eq_true rfl, Nat.le_of_ble_eq_true rfl⟩ rfl rfl rfl rfl hl.1 rfl (Nat.le_of_ble_eq_true rfl) hf dL_499 (fun H1 locs1 hw1 => ?_)
  refine lv_aload_n hx hb dL_502 rfl (lv_at hl 2 rfl) ?_
  refine l_callMi (As := []) (rest := [.int r]) hC hF hw1 (c_X7_wipe l D cy adM adK adV MY 0 (Y', r) e2) (gW_goodV hg qw1070 qw1067 qw1068 qw1069 qw67) hdX7_wipe rfl ⟨Nat.le_of_ble_eq_true rfl, Nat.le_of_ble_eq_true rfl⟩ rfl rfl rfl rfl hl.1 rfl (Nat.le_of_ble_eq_true rfl) hf dL_503 (fun H2 locs2 hw2 => ?_)
  exact lv_icmp_eq (tgt := 1401) hx hb dL_506 (by decide) (fun _ => kk X' Y' H2 locs2 hw2 e3) (fun z => absurd rfl z)
end LC

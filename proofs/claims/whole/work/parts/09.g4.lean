/-! ===== the law reads its script ===== -/
theorem ofInt_nat {k : Nat} (hk : k < 6) : Int32.ofInt (k : Int) = nI k := by
  match k, hk with
  | 0, _ => rfl
  | 1, _ => rfl
  | 2, _ => rfl
  | 3, _ => rfl
  | 4, _ => rfl
  | 5, _ => rfl
section LR
variable {p : Program} {l : Launch} {e : Env} {R : Room} {s : State} {m : MethodId} {args : Array Value} {below : List Frame} {meth : Method} {c : Code} {H : Heap} {locs : List Loc} {cells slots : Nat} {Q : State → Prop}
variable {cc : ByteArray} {pc : Nat} {ls : Array Slot} {rest : List Value} {D : va_G}
variable {cy : Nat → ClassId} {adX adM : Nat → Nat} {b L i nL : Nat} {xs : Nat → Int32} {MX MY : Mm} {tl : List (Nat × Value)}
/-- script[i] -/
theorem l_arg0 (hx : p.tables.exec = Jvm.exec) (hb : c.code = cc) {u1 u2 : Value} (hl : lv_has ls nL ((0, .ref b) :: (1, u1) :: (2, u2) :: (3, .int (nI i)) :: tl)) (hX : va_X b L xs s s.heap) (hbl : b < s.heap.size) (hS : va_S (Nw s) s.heap H locs) (hi : i < L) (hL : L ≤ 384) (d0 : decode cc pc = .ok (.aload_n 0, 1)) (d1 : decode cc (pc + 1) = .ok (.iload_n 3, 1)) (d2 : decode cc (pc + 1 + 1) = .ok (.iaload, 1))
    (kk : W p l e R s m args below meth c H locs cells slots Q (F0 m (pc + 1 + 1 + 1) ls (.int (xs i) :: rest))) : W p l e R s m args below meth c H locs cells slots Q (F0 m pc ls rest) := by
  refine lv_aload_n hx hb d0 rfl (lv_at hl 0 rfl) ?_
  refine lv_iload_n hx hb d1 rfl (lv_at hl 3 rfl) ?_
  refine va_sld hx hb hX hbl (fun z => Nat.lt_irrefl _ (Nat.lt_of_lt_of_le hbl z)) hS (show vin (nI i) L from vin_nI hi (by omega)) d2 ?_
  rw [nI_clamp (by omega)]
  exact kk
/-- script[i + k] -/
theorem l_arg (hx : p.tables.exec = Jvm.exec) (hb : c.code = cc) {u1 u2 : Value} (hl : lv_has ls nL ((0, .ref b) :: (1, u1) :: (2, u2) :: (3, .int (nI i)) :: tl)) (hX : va_X b L xs s s.heap) (hbl : b < s.heap.size) (hS : va_S (Nw s) s.heap H locs) {k : Nat} (hk : k < 6) (hi : i + k < L) (hL : L ≤ 384) (d0 : decode cc pc = .ok (.aload_n 0, 1)) (d1 : decode cc (pc + 1) = .ok (.iload_n 3, 1)) (d2 : decode cc (pc + 1 + 1) = .ok (.iconst (k : Int), 1)) (d3 : decode cc (pc + 1 + 1 + 1) = .ok (.iadd, 1)) (d4 : decode cc (pc + 1 + 1 + 1 + 1) = .ok (.iaload, 1))
    (kk : W p l e R s m args below meth c H locs cells slots Q (F0 m (pc + 1 + 1 + 1 + 1 + 1) ls (.int (xs (i + k)) :: rest))) : W p l e R s m args below meth c H locs cells slots Q (F0 m pc ls rest) := by
  refine lv_aload_n hx hb d0 rfl (lv_at hl 0 rfl) ?_
  refine lv_iload_n hx hb d1 rfl (lv_at hl 3 rfl) ?_
  refine lv_iconst (v := nI k) hx hb d2 (ofInt_nat hk) ?_
  refine lv_iadd hx hb d3 ?_
  rw [nI_add]
  refine va_sld hx hb hX hbl (fun z => Nat.lt_irrefl _ (Nat.lt_of_lt_of_le hbl z)) hS (show vin (nI (i + k)) L from vin_nI hi (by omega)) d4 ?_
  rw [nI_clamp (by omega)]
  exact kk
end LR

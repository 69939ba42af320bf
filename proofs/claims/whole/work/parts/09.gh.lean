/-! ===== the law from its entry ===== -/
section GK
variable {p : Program} {l : Launch} {e : Env} {R : Room} {s U : State} {m : MethodId} {args : Array Value} {below : List Frame} {meth : Method} {c : Code} {H : Heap} {locs : List Loc} {cells slots : Nat} {Q : State → Prop}
variable {cc : ByteArray} {pc : Nat} {ls : Array Slot} {rest : List Value} {D : va_G} {A A0 : Nat → Prop}
variable {cy : Nat → ClassId} {sh : Nat → Nat × Nat} {ad : Nat → Nat} {n n' o B mc ms : Nat} {I : Mm} {P P' : Nat → Nat → Bool}
variable {y : MethodName} {bytes : ByteArray} {maxL nL index : Nat} {rm : Room} {Ts : List Cond} {own : String}
theorem g_callK (hF : CallFix p m c cc nL s args Ts own) (hM : Met l y (wU y bytes maxL none) rm (va_Pc [.ref (ad o)] (PreG D cy sh I A B ad n P)) (QG D cy sh I A B ad n n' P') mc ms A) (hG : GoodIn Ts (wU y bytes maxL none)) (hini : (Cond.initialized y.cls).before args s = true) (hl : (Cond.methodLink own index y).before args s = true) (hin : (Cond.instanceMethod y).before args s = true) (hy1 : y.name = "<init>") (hd : y.cls ≠ "java/lang/invoke/MethodHandle" ∧ y.cls ≠ "java/lang/invoke/VarHandle" ∧ (parseMethodDescriptor y.desc).map (fun d => d.parameters.length) = some 0) (hR : rm.frames + 1 ≤ R.frames ∧ 8 + (maxL + 11) + rm.locals ≤ R.locals) (hrc : rm.cells = mc) (hrs : rm.slots = ms) (hEx : Ex s) (hK : va_K D vwCl (tyW cy) s) (hB : B ≤ H.size) (hP : va_P D vwCl (cW cy sh ad n (mkP I P)) H) (hD : va_D A (cW cy sh ad n (mkP I P))) (hg : GBo I P n) (hS : va_S A0 s.heap H locs) (hAA : ∀ q, A q → A0 q) {x : Nat} (hx : x = ad o) (hsize : ls.size = nL) (hrm : (rest.map fun v => v.category).sum ≤ 8) (hf : cells + mc ≤ R.cells ∧ slots + ms ≤ R.slots) (hdg : decode cc pc = .ok (.invokespecial index, 3))
    (kk : ∀ (ad' : Nat → Nat) (H1 : Heap) (locs1 : List Loc), (∀ q, q < n → ad' q = ad q) → va_P D vwCl (cW cy sh ad' n' (mkP I P')) H1 → va_D A (cW cy sh ad' n' (mkP I P')) → (∀ q : Nat, q < H.size → ¬ A q → H1[q]? = H[q]?) → va_S A0 s.heap H1 locs1 → W p l e R s m args below meth c H1 locs1 (cells + mc) (slots + ms) Q (F0 m (pc + 3) ls rest)) : W p l e R s m args below meth c H locs cells slots Q (F0 m pc ls (.ref x :: rest)) := by
  subst hx
  refine va_callv (va_runI (As := []) (rest := rest) hF hM (cwI 0 hF.2.2.2.2 hG rfl hrc hrs hini hl hin hy1 hd hR) ⟨preG_blind, fun U hU hW => ⟨rfl, by rw [hU]; exact hP, va_K.moved hW.alike hK, hD, by rw [hU]; exact hB, hg, hEx.warm hW⟩⟩ rfl rfl hsize rfl (lv_room hrm) hdg hf) hS (fun q _ h => hAA q h) hAA (fun u t H1 locs1 ht hvm hp hBt hz1 hk1 hS1 => ?_)
  exact kk u H1 locs1 hp (by rw [← ht]; exact hBt.1) hBt.2.2.1 hk1 hS1
end GK
theorem whole_start {p : Program} {e : Env} {s : State} {m : MethodId} {below : List Frame} {meth : Method} {c : Code} (l : Launch) (hflags : l.flags = flags0) {b L : Nat} {xs : Nat → Int32} (hL : L ≤ 384) (C0 : lw_At p s m meth c b L xs) : W p l e room_1 s m #[Value.ref b] below meth c s.heap [] 0 0 (lw_Z below #[Value.ref b] s) (entryFrame m ([Value.ref b] : List Value).toArray 4) := by
  obtain ⟨hx, hb, hr, hml, hown, hts, hX, hbl, hlocks, hgv⟩ := id C0
  have hq : ∀ w ∈ gW, w.before #[Value.ref b] s = true := fun w hw => hts w (gW_tbl w hw)
  have hC : CallFix p m c code 4 s #[Value.ref b] lw_tbl RL := ⟨hx, hb, hml, hown, hts⟩
  obtain ⟨D, cy, hK⟩ := law_K hts
  have hEx := law_Ex hts
  obtain ⟨adK, adV, hZ⟩ := law_Z hts hgv
  have hA : ∀ q : Nat, s.heap.size ≤ q → Nw s q := fun _ h => h
  have hbN : ¬ Nw s b := Nat.not_le.mpr hbl
  have hw : Wg D cy shX iX (fun _ => 0) 0 (Nw s) s.heap PXe s.heap [] := ⟨⟨wP_iff.mpr (fun o ho => absurd ho (Nat.not_lt_zero o)), wD_iff.mpr ⟨fun o q ho => absurd ho (Nat.not_lt_zero o), fun o ho => absurd ho (Nat.not_lt_zero o)⟩, va_S.rf⟩, GBo_0 iX⟩
  have hl := lv_entry ([.ref b]) (n := 4) (Nat.le_of_ble_eq_true rfl)
  rw [lg_entry_eq]
  generalize (lg_sl ([.ref b]) ++ List.replicate (4 - (lg_sl ([.ref b])).length) Slot.unset).toArray = ls at hl ⊢
  have hl : lv_has ls 4 [(0, .ref b)] := hl
  refine g_new (ci := 6) hx hb hts (fun w hw => gW_tbl w (iX6 w hw)) tyX6 tyX6_ok hown (hq _ qw74) (hq _ qw75) (hq _ qw60) hK hw hA rfl (by decide) rfl dfX6 (Nat.le_of_ble_eq_true rfl) (Nat.le_of_ble_eq_true rfl) dL_0 (fun adX H ha hw => ?_)
  have hw : Wg D cy shX iX adX 1 (Nw s) s.heap PXe H [] := hw
  refine lv_dup hx hb dL_3 rfl ?_
  refine g_callI (o := 0) hC (c_X6_init l D cy shX iX (Nw s) s.heap.size (fun _ h => h) adX isXx_X) (gW_good gW_tbl qw78) (hq _ qw60) (hq _ qw76) (hq _ qw77) rfl (by decide +kernel) ⟨Nat.le_of_ble_eq_true rfl, Nat.le_of_ble_eq_true rfl⟩ rfl rfl hEx hK (Nat.le_refl _) hw hl.1 (Nat.le_of_ble_eq_true rfl) ⟨Nat.le_of_ble_eq_true rfl, Nat.le_of_ble_eq_true rfl⟩ dL_4 (fun adX H locs ha hw => ?_)
  rw [← ha 0 (by decide)]
  have hw : Wg D cy shX iX adX 73 (Nw s) s.heap PXf H locs := hw
  refine lv_astore_n (lv' := [(1, .ref (adX 0)), (0, .ref b)]) hx hb dL_7 rfl hl (by decide) rfl (fun ls hl => ?_)
  have hPX : va_P D vwCl (cW cy shX adX nX iX) H := wP_same mkX hw.1.1
  have hDX : va_D (Nw s) (cW cy shX adX nX iX) := wD_same hw.1.2.1
  have hS := hw.1.2.2
  refine va_new (ci := 7) (fs := (fT 7).map dV) hx hb hts (fun w hw => gW_tbl w (iX7 w hw)) tyX7 tyX7_ok hown (hq _ qw882) (hq _ qw883) (hq _ qw67) hK hPX hDX hS hA rfl dfX7 (Nat.le_of_ble_eq_true rfl) (Nat.le_of_ble_eq_true rfl) dL_8 (fun q H1 hP1 hD1 hS1 => ?_)
  have hlen : (cW cy shX adX nX iX).length = 73 := by
    unfold cW
    rw [List.length_map, List.length_range]
  have hq1 : (cW cy shX adX nX iX ++ [(q, (.inr (7, (fT 7).map dV) : va_E))])[73]? = some (q, .inr (7, (fT 7).map dV)) := by
    rw [List.getElem?_append_right (by rw [hlen]; exact Nat.le_refl _), hlen]
    rfl
  have hXat : ∀ o, o < 73 → (cW cy shX adX nX iX ++ [(q, (.inr (7, (fT 7).map dV) : va_E))])[o]? = some (adX o, cE cy shX adX iX o) := fun o ho => by
    rw [List.getElem?_append_left (by rw [hlen]; exact ho)]
    exact cW_at ho
  have hqN : Nw s q := hD1.2 73 _ hq1
  have hqX : ∀ o, o < 73 → adX o ≠ q := fun o ho z => by
    have := hD1.1 o 73 _ _ (hXat o ho) hq1 z
    omega
  have hXlt : ∀ o, o < 73 → adX o < H1.size := fun o ho => (hP1 o _ (hXat o ho)).lt
  have hqlt : q < H1.size := (hP1 73 _ hq1).lt
  have hPX1 : va_P D vwCl (cW cy shX adX nX iX) H1 := wP_iff.mpr (fun o ho => hP1 o _ (hXat o ho))
  have eM : cW cy shM (fun _ => q) 1 (mkP iY PXe) = [(q, .inr (7, (fT 7).map dV))] := by
    have e0 : cE cy shM (fun _ => q) (mkP iY PXe) 0 = .inr (7, (fT 7).map dV) := by
      rw [cE_obj (show (shM 0).1 = 7 from rfl) (by decide), flds_zero rfl rfl rfl]
    show [(q, cE cy shM (fun _ => q) (mkP iY PXe) 0)] = _
    rw [e0]
  have hPM : va_P D vwCl (cW cy shM (fun _ => q) 1 (mkP iY PXe)) H1 := by
    rw [eM]
    intro k x hk
    have hz : k < 1 := (List.getElem?_eq_some_iff.mp hk).1
    rw [show k = 0 by omega] at hk
    cases hk
    exact hP1 73 _ hq1
  have hDM : va_D (fun z => z = q ∨ H1.size ≤ z) (cW cy shM (fun _ => q) 1 (mkP iY PXe)) := wD_iff.mpr ⟨fun o r ho hr _ => by omega, fun _ _ => Or.inl rfl⟩
  refine lv_dup hx hb dL_11 rfl ?_
  refine g_callK (A0 := Nw s) (o := 0) hC (c_X7_init l D cy shM iY (fun z => z = q ∨ H1.size ≤ z) H1.size (fun _ h => Or.inr h) (fun _ => q) isMd_M) (gW_good gW_tbl qw886) (hq _ qw67) (hq _ qw884) (hq _ qw885) rfl (by decide +kernel) ⟨Nat.le_of_ble_eq_true rfl, Nat.le_of_ble_eq_true rfl⟩ rfl rfl hEx hK (Nat.le_refl _) hPM hDM (GBo_0 iY).up hS1 (fun z hz => hz.elim (fun h => by rw [h]; exact hqN) (fun h => Nat.le_trans hS1.1 h)) rfl hl.1 (Nat.le_of_ble_eq_true rfl) ⟨Nat.le_of_ble_eq_true rfl, Nat.le_of_ble_eq_true rfl⟩ dL_12 (fun adM H2 locs hM hPM hDM hk2 hS2 => ?_)
  have e0 : adM 0 = q := hM 0 (by decide)
  rw [← e0]
  refine lv_astore_n (lv' := [(2, .ref (adM 0)), (1, .ref (adX 0)), (0, .ref b)]) hx hb dL_15 rfl hl (by decide) rfl (fun ls hl => ?_)
  refine lv_iconst (v := (0 : Int32)) hx hb dL_16 (by decide) ?_
  refine lv_istore_n (lv' := [(3, .int (0 : Int32)), (2, .ref (adM 0)), (1, .ref (adX 0)), (0, .ref b)]) hx hb dL_17 rfl hl (by decide) rfl (fun ls hl => ?_)
  have hPX2 : va_P D vwCl (cW cy shX adX nX iX) H2 := hPX1.kept (fun k x hx => by
    obtain ⟨o, ho, rfl⟩ := cW_mem.mp (List.mem_of_getElem? hx)
    exact hk2 _ (hXlt o ho) (fun z => z.elim (hqX o ho) (fun z => absurd (hXlt o ho) (Nat.not_lt.mpr z))))
  have hPM2 : va_P D vwCl (cW cy shM adM nM iY) H2 := wP_same mkM hPM
  have hAM : ∀ o, o < 18 → adM o = q ∨ H1.size ≤ adM o := (wD_iff.mp hDM).2
  have hLF : LF D cy adX adM adK adV b s := by
    refine ⟨(wD_iff.mp hDX).1, (wD_iff.mp hDM).1, fun o r ho hr z => ?_, (wD_iff.mp hDX).2, fun o ho => ?_, hbl, hK, hZ⟩
    · rcases hAM r hr with h | h
      · exact hqX o ho (z.trans h)
      · have := hXlt o ho
        omega
    · rcases hAM o ho with h | h
      · rw [h]
        exact hqN
      · exact Nat.le_trans hS1.1 h
  have hLW : LW D cy adX adM b L xs s iX iY H2 locs := ⟨hPX2, hPM2, hX.kept (hS2.2.1 b hbl hbN), hS2⟩
  refine W.widen (k := 600000) (n := 7302250) (Nat.le_of_ble_eq_true rfl) (Nat.le_of_ble_eq_true rfl) ?_
  exact law_loop hC hr hlocks hLF hX hL 65 0 iX iY H2 locs ls (by omega) (Nat.zero_le _) hLW rel0 (lv_sub hl [3, 2, 1, 0] rfl)

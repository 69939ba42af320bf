/-! ===== the first of several by which a mean is greatest ===== -/
def stp (m : Nat → Nat) (o : Option Nat) (v : Nat) : Option Nat := match o with
  | none => some v
  | some b => if m b < m v then some v else some b
def fol (m : Nat → Nat) (o : Option Nat) (v : Nat) : Nat → Option Nat
  | 0 => o
  | d + 1 => fol m (stp m o v) (v + 1) d
def gX (m : Nat → Nat) (lo : Nat) (o : Option Nat) : Int32 × Int64 := match o with
  | none => (nI lo, -1)
  | some b => (nI b, lN (m b))
def gY (m : Nat → Nat) (o : Option Nat) : Int32 × Int64 := match o with
  | none => (-1, 0)
  | some b => (nI b, lN (m b))
theorem stp_some (m : Nat → Nat) (o : Option Nat) (v : Nat) : ∃ b, stp m o v = some b := by
  unfold stp
  split
  · exact ⟨_, rfl⟩
  · split <;> exact ⟨_, rfl⟩
theorem fol_some (m : Nat → Nat) : ∀ (d : Nat) (o : Option Nat) (v : Nat), 0 < d → ∃ b, fol m o v d = some b := by
  intro d
  induction d with
  | zero => intro o v h; exact absurd h (Nat.lt_irrefl 0)
  | succ d ih =>
    intro o v _
    simp only [fol]
    by_cases c : d = 0
    · subst c
      exact stp_some m o v
    · exact ih _ _ (by omega)
theorem gX_step {m : Nat → Nat} {lo v : Nat} (hm : ∀ v, m v < 2 ^ 40) (o : Option Nat) : (if lg_cmp (lN (m v)) (gX m lo o).2 ≤ 0 then gX m lo o else (nI v, lN (m v))) = gX m lo (stp m o v) := by
  cases o with
  | none =>
    unfold gX stp
    dsimp only
    rw [if_neg (fun z => by
      have h1 := (lg_cmp_le _ _).mp z
      have h2 : lN 0 ≤ lN (m v) := (pk_lLE (by decide) (by have := hm v; omega)).mpr (Nat.zero_le _)
      exact absurd (Int64.le_trans h2 h1) (by decide))]
  | some b =>
    unfold gX stp
    have h := pk_lLE (a := m v) (b := m b) (by have := hm v; omega) (by have := hm b; omega)
    dsimp only
    by_cases c : m b < m v
    · rw [if_neg (fun z => by have := h.mp ((lg_cmp_le _ _).mp z); omega), if_pos c]
    · rw [if_pos ((lg_cmp_le _ _).mpr (h.mpr (by omega))), if_neg c]
theorem gY_step {m : Nat → Nat} {v : Nat} (hm : ∀ v, m v < 2 ^ 40) (o : Option Nat) (ho : ∀ b, o = some b → b < 100) : (if (gY m o).1 < 0 then (nI v, lN (m v)) else if lg_cmp (lN (m v)) (gY m o).2 ≤ 0 then gY m o else (nI v, lN (m v))) = gY m (stp m o v) := by
  cases o with
  | none =>
    unfold gY stp
    dsimp only
    rw [if_pos (by decide)]
  | some b =>
    unfold gY stp
    have h := pk_lLE (a := m v) (b := m b) (by have := hm v; omega) (by have := hm b; omega)
    have hb := ho b rfl
    dsimp only
    rw [if_neg (nI_pos (by omega))]
    by_cases c : m b < m v
    · rw [if_neg (fun z => by have := h.mp ((lg_cmp_le _ _).mp z); omega), if_pos c]
    · rw [if_pos ((lg_cmp_le _ _).mpr (h.mpr (by omega))), if_neg c]
theorem stp_lt {m : Nat → Nat} {o : Option Nat} {v N : Nat} (ho : ∀ b, o = some b → b < N) (hv : v < N) : ∀ b, stp m o v = some b → b < N := by
  intro b hb
  unfold stp at hb
  split at hb
  · cases hb
    exact hv
  · split at hb
    · cases hb
      exact hv
    · cases hb
      exact ho _ rfl
/-- the class's search; S tells what rows may stand in the trial league -/
theorem gm_loop {i what lo hi : Nat} {wh : Int32} {R : Nat → Rw} {T : Nat → Trp} {m : Nat → Nat} {S : Rw → Trp → Prop} (hi6 : i < 6) (hm : ∀ v, m v < 2 ^ 40)
    (hR : ∀ v, lo ≤ v → v ≤ hi → Inv (R v) ∧ TOk (T v) ∧ i < nS (R v) ∧ EA (T v) (fP i) (nG (R v) - nP (R v)) (R v) = m v ∧ S (R v) (T v))
    (hsup : ∀ v, lo ≤ v → v ≤ hi → ∀ (X : Mm) s' T', XF X → LG X 38 s' T' → S s' T' → ∃ X1, f_X6_suppose X 0 (nI i) wh (nI v) = some (X1, ()) ∧ FR 38 X X1 ∧ LG X1 38 (R v) (T v)) : ∀ (d v n : Nat) (X : Mm) (s' : Rw) (T' : Trp) (o : Option Nat), v + d = hi + 1 → lo ≤ v → d < n → hi < 100 → XF X → LG X 38 s' T' → S s' T' →
    ∃ X', f_X6_greatestMean_b22 n X 0 (nI i) wh (nI hi) (gX m lo o).1 (gX m lo o).2 (nI v) = some (X', (gX m lo (fol m o v d)).1) ∧ X'.2.2 = X.2.2 ∧ (∀ q, (q < 37 ∨ 60 < q) → X'.1 q = X.1 q) ∧ GB X' 38 := by
  intro d
  induction d with
  | zero =>
    intro v n X s' T' o h1 h0 h2 h3 hF hL hS
    obtain ⟨n, rfl⟩ : ∃ z, n = z + 1 := ⟨n - 1, by omega⟩
    refine ⟨X, ?_, rfl, fun _ _ => rfl, hL.2.2.2.2.2.2.2⟩
    simp only [f_X6_greatestMean_b22]
    rw [if_pos (nI_lt (by omega) (by omega))]
    rfl
  | succ d ih =>
    intro v n X s' T' o h1 h0 h2 h3 hF hL hS
    obtain ⟨n, rfl⟩ : ∃ z, n = z + 1 := ⟨n - 1, by omega⟩
    obtain ⟨rI, rT, rS, rm, rR⟩ := hR v h0 (by omega)
    obtain ⟨X1, a1, a2, a3⟩ := hsup v h0 (by omega) X s' T' hF hL hS
    have hF1 := hF.at a2.out
    obtain ⟨X2, b1, b2⟩ := X5_over hF1 a3 rI rT hi6 (u := 0) (Or.inl rfl) 0
    have hF2 := hF1.at b2.1
    have x3 := hF1.1.1.2.2.1
    have x3' := hF2.1.1.2.2.1
    have p2 := hF2.1.2.1.2.1
    have ei : (nI i).toNatClampNeg = i := nI_clamp (by omega)
    have hv := b2.2.2.2.2.1 i rS
    rw [rm] at hv
    obtain ⟨X', c1, c2, c3, c4⟩ := ih (v + 1) n X2 (R v) (T v) (stp m o v) (by omega) (by omega) (by omega) h3 hF2 b2.2.1 rR
    refine ⟨X', ?_, c2.trans (b2.1.trans a2.out), fun q hq => by rw [c3 q hq, b2.2.2.1 q (by omega), a2.2 q (by omega)], c4⟩
    simp only [f_X6_greatestMean_b22]
    simp only [if_neg (nI_nlt (show v ≤ hi by omega) (show hi < 2 ^ 31 by omega)), gd_t gX0, a1, Option.bind_some, x3, gd_t gX37, b1, x3', p2, gd_t (hL6 hi6), ei, hv]
    unfold f_X6_greatestMean_b77
    have hst := gX_step (lo := lo) (v := v) hm o
    rw [nI_1]
    simp only [fol]
    rw [← c1, ← hst]
    by_cases c : lg_cmp (lN (m v)) (gX m lo o).2 ≤ 0
    · rw [if_pos c, if_pos c]
    · rw [if_neg c, if_neg c]
theorem upd_upd {f : Rw} {k : Nat} {a b : Int32} : upd (upd f k a) k b = upd f k b := by
  funext j
  by_cases c : j = k
  · subst c
    rw [pk_us, pk_us]
  · rw [pk_un c, pk_un c, pk_un c]
theorem upd_self {f : Rw} {k : Nat} : upd f k (f k) = f := by
  funext j
  by_cases c : j = k
  · subst c
    rw [pk_us]
  · rw [pk_un c]
theorem Sim.updS {s s' : Rw} (h : Sim s s') {p : Nat} (hp : p < 23) (h2 : p ≠ 2) (v : Int32) : Sim (upd s p v) (upd s' p v) := by
  refine ⟨fun k hk => ?_, fun j hj => ?_, fun g hg j hj hc => ?_⟩
  · by_cases c : k = p
    · subst c
      rw [pk_us, pk_us]
    · rw [pk_un c, pk_un c, h.1 k hk]
  · rw [pk_un (by omega), pk_un (by omega), h.2.1 j hj]
  · rw [nP_upd (by omega)] at hc
    rw [gO_upd (by omega), gO_upd (by omega), h.2.2 g hg j hj hc]
/-- what a search of the reference leaves as it was -/
def SF (Y Y' : Mm) : Prop := Y'.2.2 = Y.2.2 ∧ (∀ o, o ≠ 0 → o ≠ 1 → o ≠ 10 → Y'.1 o = Y.1 o) ∧ (∀ f, f ≠ 23 → f ≠ 7 → Y'.1 0 f = Y.1 0 f)
theorem SF.tr {Y Y1 Y2 : Mm} (h : SF Y Y1) (h2 : SF Y1 Y2) : SF Y Y2 := ⟨h2.1.trans h.1, fun o a b c => (h2.2.1 o a b c).trans (h.2.1 o a b c), fun f a b => (h2.2.2 f a b).trans (h.2.2 f a b)⟩
theorem meanOf_go {s : Rw} {Y : Mm} (hI : Inv s) (hM : RM Y) (hs : Y.1 1 = s) (hT : TOk (told Y)) {i : Nat} (hi : i < nS s) : ∃ Y', f_X7_meanOf Y 0 (nI i) = some (Y', lN (EA (told Y) (fP i) (nG s - nP s) s)) ∧ SF Y Y' ∧ (∀ f, f ≠ 23 → Y'.1 0 f = Y.1 0 f) ∧ Sim s (Y'.1 1) := by
  have h6 := hI.1.2
  obtain ⟨Y', a1, a2⟩ := X7_findWays hI hM hs hT
  refine ⟨Y', ?_, ⟨a2.1, a2.2.2.1, fun f h1 _ => a2.2.2.2.1 f h1⟩, a2.2.2.2.1, a2.2.1⟩
  unfold f_X7_meanOf
  rw [gd_t gM0, a1, Option.bind_some]
  dsimp only
  rw [show Y'.2.2 0 19 = some 9 by rw [a2.1]; exact hM.at 19 rfl, Option.bind_some, gd_t (gL9 (by omega)), nI_clamp (by omega), a2.2.2.2.2.2.2.2.2.1 i hi]
/-- the reference's search, laid in a place -/
theorem laid_loop {s : Rw} {i p lo hi : Nat} {m : Nat → Nat} (hp : p < 23) (hp2 : p ≠ 2) (hI : Inv s) (hi6 : i < nS s) (hm : ∀ v, m v < 2 ^ 40)
    (hR : ∀ v, lo ≤ v → v ≤ hi → Inv (upd s p (nI v)) ∧ i < nS (upd s p (nI v)) ∧ EA T0 (fP i) (nG (upd s p (nI v)) - nP (upd s p (nI v))) (upd s p (nI v)) = m v) : ∀ (d v n : Nat) (Y : Mm) (x : Int32) (o : Option Nat), v + d = hi + 1 → lo ≤ v → d < n → hi < 100 → (∀ b, o = some b → b < 100) → RM Y → (told Y).1 = -1 → Sim (upd s p x) (Y.1 1) →
    ∃ Y', f_X7_bestLaid_b17 n Y 0 (nI p) (nI hi) (nI i) (s p) (gY m o).1 (gY m o).2 (nI v) = some (Y', (gY m (fol m o v d)).1) ∧ SF Y Y' ∧ Sim s (Y'.1 1) := by
  have ep : (nI p).toNatClampNeg = p := nI_clamp (by omega)
  intro d
  induction d with
  | zero =>
    intro v n Y x o h1 h0 h2 h3 ho hM hT hS
    obtain ⟨n, rfl⟩ : ∃ z, n = z + 1 := ⟨n - 1, by omega⟩
    refine ⟨sI Y 1 p (s p), ?_, ⟨rfl, fun q h1 h2 _ => sI_obj h2, fun f _ _ => by rw [sI_obj (by decide)]⟩, ?_⟩
    · simp only [f_X7_bestLaid_b17]
      rw [if_pos (nI_lt (by omega) (by omega)), gd_t gM0, hM.at 0 rfl, Option.bind_some, gd_t (gA (by omega)), ep]
      rfl
    · rw [sI_fun]
      have := hS.updS hp hp2 (s p)
      rw [upd_upd, upd_self] at this
      exact this
  | succ d ih =>
    intro v n Y x o h1 h0 h2 h3 ho hM hT hS
    obtain ⟨n, rfl⟩ : ∃ z, n = z + 1 := ⟨n - 1, by omega⟩
    obtain ⟨rI, rS, rm⟩ := hR v h0 (by omega)
    have hS1 := hS.updS hp hp2 (nI v)
    rw [upd_upd] at hS1
    have hd : nP (upd s p (nI v)) + (nG (upd s p (nI v)) - nP (upd s p (nI v))) = nG (upd s p (nI v)) := by have := rI.2.2.1.2; omega
    obtain ⟨Y2, b1, b2, b3, b4⟩ := meanOf_go (Y := sA Y 1 (upd (Y.1 1) p (nI v))) (hS1.inv rI) hM.sA sA_at (Or.inl hT) (i := i) (by rw [hS1.eS]; exact rS)
    rw [hS1.eG, hS1.eP, EA_sim (fP_ro i) _ _ _ rI hS1 hd, show told (sA Y 1 (upd (Y.1 1) p (nI v))) = told Y from rfl, EA_T (T' := T0) hT rfl _ _ rI hd, rm] at b1
    have hM2 : RM Y2 := by unfold RM; rw [b2.1]; exact hM
    have hT2 : (told Y2).1 = -1 := (b3 5 (by decide)).trans ((show (sA Y 1 (upd (Y.1 1) p (nI v))).1 0 5 = Y.1 0 5 from rfl).trans hT)
    obtain ⟨Y', c1, c2, c3⟩ := ih (v + 1) n Y2 (nI v) (stp m o v) (by omega) (by omega) (by omega) h3 (stp_lt ho (by omega)) hM2 hT2 (hS1.tr b4)
    refine ⟨Y', ?_, SF.tr (Y1 := sA Y 1 (upd (Y.1 1) p (nI v))) ⟨rfl, fun q _ h2 _ => sA_ne h2, fun f _ _ => rfl⟩ (b2.tr c2), c3⟩
    simp only [f_X7_bestLaid_b17]
    rw [if_neg (nI_nlt (by omega) (by omega)), gd_t gM0, hM.at 0 rfl, Option.bind_some, gd_t (gA (by omega)), ep]
    simp only [lt]
    rw [sI_sA, b1, Option.bind_some]
    dsimp only
    unfold f_X7_bestLaid_b52 f_X7_bestLaid_b60
    have hst := gY_step (v := v) hm o ho
    rw [nI_1]
    simp only [fol]
    rw [← c1, ← hst]
    by_cases c : (gY m o).1 < 0
    · rw [if_pos c, if_pos c]
    · rw [if_neg c, if_neg c]
      by_cases c' : lg_cmp (lN (m v)) (gY m o).2 ≤ 0
      · rw [if_pos c', if_pos c']
      · rw [if_neg c', if_neg c']
section MM
variable {X Y : Mm}
theorem become_gm (h : Rel X Y) {i what lo hi : Nat} {wh : Int32} {R : Nat → Rw} {T : Nat → Trp} {m : Nat → Nat} {S : Rw → Trp → Prop} (hi6 : i < 6) (hm : ∀ v, m v < 2 ^ 40) (hlh : lo ≤ hi) (hh : hi < 100) (hS : S (Y.1 1) T0)
    (hR : ∀ v, lo ≤ v → v ≤ hi → Inv (R v) ∧ TOk (T v) ∧ i < nS (R v) ∧ EA (T v) (fP i) (nG (R v) - nP (R v)) (R v) = m v ∧ S (R v) (T v))
    (hsup : ∀ v, lo ≤ v → v ≤ hi → ∀ (X : Mm) s' T', XF X → LG X 38 s' T' → S s' T' → ∃ X1, f_X6_suppose X 0 (nI i) wh (nI v) = some (X1, ()) ∧ FR 38 X X1 ∧ LG X1 38 (R v) (T v)) :
    ∃ X', f_X6_greatestMean X 0 (nI i) wh (nI lo) (nI hi) = some (X', (gX m lo (fol m none lo (hi + 1 - lo))).1) ∧ X'.2.2 = X.2.2 ∧ (∀ q, (q < 37 ∨ 60 < q) → X'.1 q = X.1 q) ∧ GB X' 38 := by
  obtain ⟨X1, a1, a2, a3⟩ := become38 h
  obtain ⟨X', b1, b2, b3, b4⟩ := gm_loop (what := what) (lo := lo) hi6 hm hR hsup (hi + 1 - lo) lo 1000 X1 (Y.1 1) T0 none (by omega) (Nat.le_refl _) (by omega) hh (h.1.at a3.out) a2 hS
  refine ⟨X', ?_, b2.trans a3.out, fun q hq => by rw [b3 q hq, a3.2 q (by omega)], b4⟩
  unfold f_X6_greatestMean
  rw [gd_t gX0, h.xq.1.2.2.2.1, Option.bind_some, h.xq.1.1, Option.bind_some, gd_t gX38, a1, Option.bind_some]
  exact b1
theorem gXY (m : Nat → Nat) (lo : Nat) {d v : Nat} (hd : 0 < d) : (gX m lo (fol m none v d)).1 = (gY m (fol m none v d)).1 := by
  obtain ⟨b, e⟩ := fol_some m d none v hd
  rw [e]
  rfl
theorem SF.rel {Y' : Mm} (h : Rel X Y) (hF : SF Y Y') (hS : Sim (Y.1 1) (Y'.1 1)) {X' : Mm} (x1 : X'.2.2 = X.2.2) (x2 : ∀ q, (q < 37 ∨ 60 < q) → X'.1 q = X.1 q) (x3 : GB X' 38) : Rel X' Y' :=
  h.aside x1 x2 x3 hF.1 (hS.inv h.inv) (h.2.2.2.1.sim h.inv hS) (fun o ho => hF.2.1 o (by omega) (by omega) (by omega)) (hF.2.2 3 (by decide) (by decide)) (hF.2.2 9 (by decide) (by decide)) ((hF.2.2 5 (by decide) (by decide)).trans h.told1)
theorem mean_lt {s : Rw} {T : Trp} (hI : Inv s) (hT : TOk T) (i : Nat) : EA T (fP i) (nG s - nP s) s < 2 ^ 40 := EA_lt hI hT (fun s' hI' => (pN_ok hI' i).2)
/-- a number that is laid in a place of the row: both searches -/
theorem laid_both (h : Rel X Y) {i p lo hi : Nat} {wh : Int32} (hi6 : i < nS (Y.1 1)) (hp : p < 23) (hp3 : 3 ≤ p) (hlh : lo ≤ hi) (hh : hi < 100)
    (hIv : ∀ v, lo ≤ v → v ≤ hi → ∀ s, Inv s → i < nS s → Inv (upd s p (nI v)))
    (hsup : ∀ v, lo ≤ v → v ≤ hi → ∀ (X : Mm) s', XF X → LG X 38 s' T0 → Inv s' → i < nS s' → ∃ X1, f_X6_suppose X 0 (nI i) wh (nI v) = some (X1, ()) ∧ FR 38 X X1 ∧ LG X1 38 (upd s' p (nI v)) T0) : Both (f_X6_greatestMean X 0 (nI i) wh (nI lo) (nI hi)) (f_X7_bestLaid Y 0 (nI p) (nI lo) (nI hi) (nI i)) := by
  have hI := h.inv
  have h6 := hI.1.2
  have hm : ∀ v, (if lo ≤ v ∧ v ≤ hi then EA T0 (fP i) (nG (upd (Y.1 1) p (nI v)) - nP (upd (Y.1 1) p (nI v))) (upd (Y.1 1) p (nI v)) else 0) < 2 ^ 40 := by
    intro v
    split
    · rename_i c
      exact mean_lt (hIv v c.1 c.2 _ hI hi6) (Or.inl rfl) i
    · decide
  have hS0 : nS (upd (Y.1 1) p (Y.1 1 p)) = nS (Y.1 1) := nS_upd (by omega)
  obtain ⟨X', a1, a2, a3, a4⟩ := become_gm h (what := 0) (lo := lo) (hi := hi) (wh := wh) (R := fun v => upd (Y.1 1) p (nI v)) (T := fun _ => T0) (m := fun v => if lo ≤ v ∧ v ≤ hi then EA T0 (fP i) (nG (upd (Y.1 1) p (nI v)) - nP (upd (Y.1 1) p (nI v))) (upd (Y.1 1) p (nI v)) else 0) (S := fun r T => T = T0 ∧ Inv r ∧ ∃ x, r = upd (Y.1 1) p x) (i := i) (by omega) hm hlh hh ⟨rfl, hI, _, upd_self.symm⟩
    (fun v h1 h2 => ⟨hIv v h1 h2 _ hI hi6, Or.inl rfl, by rw [nS_upd (by omega)]; exact hi6, by rw [if_pos ⟨h1, h2⟩], rfl, hIv v h1 h2 _ hI hi6, _, rfl⟩)
    (fun v h1 h2 X s' T' hF hL hS => by
      obtain ⟨e1, e2, x, e3⟩ := hS
      subst e1
      obtain ⟨X1, q1, q2, q3⟩ := hsup v h1 h2 X s' hF hL e2 (by rw [e3, nS_upd (by omega)]; exact hi6)
      rw [e3, upd_upd] at q3
      exact ⟨X1, q1, q2, q3⟩)
  obtain ⟨Y', b1, b2, b3⟩ := laid_loop (s := Y.1 1) (i := i) (p := p) (lo := lo) (hi := hi) (m := fun v => if lo ≤ v ∧ v ≤ hi then EA T0 (fP i) (nG (upd (Y.1 1) p (nI v)) - nP (upd (Y.1 1) p (nI v))) (upd (Y.1 1) p (nI v)) else 0) hp (by omega) hI hi6 hm
    (fun v h1 h2 => ⟨hIv v h1 h2 _ hI hi6, by rw [nS_upd (by omega)]; exact hi6, by rw [if_pos ⟨h1, h2⟩]⟩) (hi + 1 - lo) lo 1000 Y (Y.1 1 p) none (by omega) (Nat.le_refl _) (by omega) hh (fun b z => by cases z) h.rm h.told1 (by rw [upd_self]; exact Sim.rf)
  refine ⟨X', Y', _, a1, ?_, SF.rel h b2 b3 a2 a3 a4⟩
  unfold f_X7_bestLaid
  rw [gd_t gM0, h.m0, Option.bind_some, gd_t (gA (by omega)), nI_clamp (by omega), gXY _ _ (by omega)]
  exact b1
end MM

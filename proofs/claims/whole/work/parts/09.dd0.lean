/-! ===== seasons drawn and taken back ===== -/
def Pst (s0 s : Nat → Int32) : Prop := (∀ k, k < 23 → k ≠ 2 → k ≠ 4 → s k = s0 k) ∧ (∀ j, j < 10 → s (79 + j) = s0 (79 + j)) ∧ ∀ g, g < 8 → ∀ j, j < 7 → (g < nP s0 ∨ j < 3) → gO s g j = gO s0 g j
theorem Pst.rf {s : Nat → Int32} : Pst s s := ⟨fun _ _ _ _ => rfl, fun _ _ => rfl, fun _ _ _ _ _ => rfl⟩
theorem Pst.tr {s0 s1 s2 : Nat → Int32} (h : Pst s0 s1) (h2 : Pst s1 s2) (hp : nP s0 ≤ nP s1) : Pst s0 s2 := ⟨fun k a b c => (h2.1 k a b c).trans (h.1 k a b c), fun j hj => (h2.2.1 j hj).trans (h.2.1 j hj), fun g hg j hj hc => (h2.2.2 g hg j hj (hc.imp (fun z => by omega) id)).trans (h.2.2 g hg j hj hc)⟩
theorem Pst.drw {s : Nat → Int32} (T : Int32 × Int32 × Int32) (h8 : nP s < 8) : Pst s (drwA s T) := by
  have nP' : nP (upd s 4 (zA s)) = nP s := nP_upd (by decide)
  refine ⟨fun k h1 h2 h3 => ?_, fun j hj => ?_, fun g hg j hj hc => ?_⟩
  · unfold drwA
    rw [winA_ne h2 (by omega), pk_un h3]
  · unfold drwA
    rw [winA_ne (by omega) (by omega), pk_un (by omega)]
  · unfold drwA
    by_cases c : j < 3
    · rw [winA_lo c, gO_upd (by omega)]
    · rw [winA_old (by omega) hj, gO_upd (by omega)]
theorem Pst.bk {s : Nat → Int32} {v : Int32} (s0 : Nat → Int32) (h : Pst s0 s) : Pst s0 (upd s 2 v) := ⟨fun k a b c => by rw [pk_un b]; exact h.1 k a b c, fun j hj => by rw [pk_un (by omega)]; exact h.2.1 j hj, fun g hg j hj hc => by rw [gO_upd (by omega)]; exact h.2.2 g hg j hj hc⟩
theorem Pst.sim {s0 s : Nat → Int32} (h : Pst s0 s) (h2 : s 2 = s0 2) : Sim (upd s0 4 (s 4)) s := by
  refine ⟨fun k hk => ?_, fun j hj => ?_, fun g hg j hj hc => ?_⟩
  · by_cases c : k = 4
    · rw [c, pk_us]
    · rw [pk_un c]
      by_cases c2 : k = 2
      · rw [c2, h2]
      · exact h.1 k hk c2 c
  · rw [pk_un (by omega)]
    exact h.2.1 j hj
  · rw [nP_upd (by decide)] at hc
    rw [gO_upd (by omega)]
    exact h.2.2 g hg j hj hc
theorem sA_self {M : Mm} {o : Nat} {f : Nat → Int32} (h : M.1 o = f) : sA M o f = M := by
  subst h
  unfold sA
  refine Prod.ext ?_ rfl
  funext a
  dsimp only
  by_cases c : a = o
  · rw [if_pos c, c]
  · rw [if_neg c]
theorem drwA_nP {s : Nat → Int32} (hI : Inv s) (T : Int32 × Int32 × Int32) : nP (drwA s T) = nP s + 1 := by
  unfold drwA
  rw [winA_nP (hI.z _), nP_upd (by decide)]
theorem drwA_nG {s : Nat → Int32} (T : Int32 × Int32 × Int32) : nG (drwA s T) = nG s := by
  unfold drwA
  rw [winA_nG, nG_upd (by decide)]
theorem drwA_nS {s : Nat → Int32} (T : Int32 × Int32 × Int32) : nS (drwA s T) = nS s := by
  unfold drwA
  rw [winA_nS, nS_upd (by decide)]
theorem tries_draw {G : Nat} (kx : Mm → Nat → Int32 → Int32 → Int32 → Int32 → Option (Mm × Int32)) (ky : Mm → Nat → Int32 → Int32 → Int32 → Int32 → Int32 → Option (Mm × Int32)) (a b c p q : Int32) : ∀ (d g n n' : Nat) (X Y : Mm) (s : Nat → Int32), g + d = G → d < n → d < n' → TR X Y s → nG s = G → nP s = g → X.1 1 4 = nI G →
    ∃ X' s', f_X6_tries_b59 kx n X 0 a b c q (nI g) = Option.bind (f_X1_leader X' 38) (fun r16 => if r16.2 = a then f_X6_tries_b99 kx r16.1 0 a b (c + (1 : Int32)) q else f_X6_tries_b99 kx r16.1 0 a b c q) ∧ f_X7_tries_b43 ky n' Y 0 a b p c q = Option.bind (f_X7_leader (sA Y 1 s') 0) (fun r8 => if r8.2 = a then f_X7_tries_b72 ky r8.1 0 a b p q c (1 : Int32) else f_X7_tries_b72 ky r8.1 0 a b p q c (0 : Int32)) ∧ TR X' (sA Y 1 s') s' ∧ FR 38 X X' ∧ Pst s s' ∧ nP s' = G ∧ nG s' = G ∧ nS s' = nS s := by
  intro d
  induction d with
  | zero =>
    intro g n n' X Y s h1 h2 h3 h hG hP hx
    obtain ⟨n, rfl⟩ : ∃ z, n = z + 1 := ⟨n - 1, by omega⟩
    obtain ⟨n', rfl⟩ : ∃ z, n' = z + 1 := ⟨n' - 1, by omega⟩
    obtain ⟨t1, t2, t3, t4, t5, t6⟩ := id h
    have e := sA_self (M := Y) (o := 1) t5
    have h8 := t3.2.1.2
    have hov := X7_isOver t4 (by rw [t5]; exact t3)
    rw [t5] at hov
    refine ⟨X, s, ?_, ?_, by rw [e]; exact h, fr_rf, Pst.rf, by omega, hG, rfl⟩
    · simp only [f_X6_tries_b59]
      rw [gd_t gX0, t1.1.1.1, Option.bind_some, gd_t gX1, hx, if_pos (nI_le (by omega) (by omega)), t1.1.1.2.2.2.1, Option.bind_some, gd_t gX38]
    · simp only [f_X7_tries_b43]
      rw [gd_t gM0, hov, Option.bind_some, e]
      simp only [iteN]
      rw [if_neg (by omega)]
  | succ d ih =>
    intro g n n' X Y s h1 h2 h3 h hG hP hx
    obtain ⟨n, rfl⟩ : ∃ z, n = z + 1 := ⟨n - 1, by omega⟩
    obtain ⟨n', rfl⟩ : ∃ z, n' = z + 1 := ⟨n' - 1, by omega⟩
    obtain ⟨t1, t2, t3, t4, t5, t6⟩ := id h
    have h8 := t3.2.1.2
    have hpg : nP s < nG s := by omega
    have hov := X7_isOver t4 (by rw [t5]; exact t3)
    have hdr := X7_drawsNext t4 (by rw [t5]; exact t3) (by rw [t5]; exact hpg)
    rw [t5] at hov hdr
    rw [drwA_T (s := s) (T := told Y) (T' := T0) t6 rfl (by omega)] at hdr
    obtain ⟨X1, e1, e2, e3⟩ := X1_playDrawn t2 t3 hpg
    have t' := h.step e3 e2 (drwA_inv t3 hpg T0)
    obtain ⟨X', s', f1, f2, f3, f4, f5, f6, f7, f8⟩ := ih (g + 1) n n' X1 (sA Y 1 (drwA s T0)) (drwA s T0) (by omega) (by omega) (by omega) t' (by rw [drwA_nG]; exact hG) (by rw [drwA_nP t3]; omega) (by rw [e3.2 1 (by decide)]; exact hx)
    rw [sA_sA] at f2 f3
    refine ⟨X', s', ?_, ?_, f3, fr_tr e3 f4, (Pst.drw T0 (by omega)).tr f5 (by rw [drwA_nP t3]; omega), f6, f7, by rw [f8, drwA_nS]⟩
    · simp only [f_X6_tries_b59]
      rw [gd_t gX0, t1.1.1.1, Option.bind_some, gd_t gX1, hx, if_neg (nI_ge (by omega) (by omega)), t1.1.1.2.2.2.1, Option.bind_some, gd_t gX38, e1, Option.bind_some, nI_1]
      exact f1
    · simp only [f_X7_tries_b43]
      rw [gd_t gM0, hov, Option.bind_some]
      simp only [iteN]
      rw [if_pos hpg, hdr, Option.bind_some]
      exact f2
theorem tries_back {G P : Nat} (hG8 : G ≤ 8) (kx : Mm → Nat → Int32 → Int32 → Int32 → Int32 → Option (Mm × Int32)) (a b c q : Int32) : ∀ (d g n : Nat) (X : Mm) (s : Nat → Int32), g + d = G → d < n → XF X → LG X 38 s T0 → Inv s → nP s = P + d → X.1 1 4 = nI G →
    ∃ X', f_X6_tries_b108 kx n X 0 a b c q (nI g) = kx X' 0 a b c (q + 1) ∧ LG X' 38 (upd s 2 (nI P)) T0 ∧ FR 38 X X' ∧ Inv (upd s 2 (nI P)) := by
  intro d
  induction d with
  | zero =>
    intro g n X s h1 h2 t1 t2 t3 hP hx
    obtain ⟨n, rfl⟩ : ∃ z, n = z + 1 := ⟨n - 1, by omega⟩
    have e : upd s 2 (nI P) = s := by
      funext k
      by_cases ck : k = 2
      · rw [ck, pk_us, t3.2.2.1.1, hP]
        rfl
      · rw [pk_un ck]
    refine ⟨X, ?_, by rw [e]; exact t2, fr_rf, by rw [e]; exact t3⟩
    simp only [f_X6_tries_b108]
    rw [gd_t gX0, t1.1.1.1, Option.bind_some, gd_t gX1, hx, if_pos (nI_le (by omega) (by omega))]
  | succ d ih =>
    intro g n X s h1 h2 t1 t2 t3 hP hx
    obtain ⟨n, rfl⟩ : ∃ z, n = z + 1 := ⟨n - 1, by omega⟩
    obtain ⟨X1, e1, e2, e3⟩ := X1_takeBack t2 t3 (p := P + d) (by omega)
    have eu : upd (bkA s) 2 (nI P) = upd s 2 (nI P) := by
      funext k
      by_cases ck : k = 2
      · rw [ck, pk_us, pk_us]
      · rw [pk_un ck, pk_un ck, bkA_ne ck]
    obtain ⟨X', f1, f2, f3, f4⟩ := ih (g + 1) n X1 (bkA s) (by omega) (by omega) (t1.at e3.out) e2 t3.bk (by rw [bkA_nP t3]; omega) (by rw [e3.2 1 (by decide)]; exact hx)
    rw [eu] at f2 f4
    refine ⟨X', ?_, f2, fr_tr e3 f3, f4⟩
    simp only [f_X6_tries_b108]
    rw [gd_t gX0, t1.1.1.1, Option.bind_some, gd_t gX1, hx, if_neg (nI_ge (by omega) (by omega)), t1.1.1.2.2.2.1, Option.bind_some, gd_t gX38, e1, Option.bind_some, nI_1]
    exact f1
theorem tries_loop {G P N : Nat} (hN : N ≤ 40) (hG8 : G ≤ 8) (hPG : P ≤ G) (a : Int32) : ∀ (m k n n' : Nat) (X Y : Mm) (s : Nat → Int32) (c : Int32), k + m = N → m < n → m < n' → TR X Y s → nG s = G → nP s = P → 0 < nS s → X.1 1 4 = nI G → X.1 1 5 = nI P →
    ∃ X' s' r, f_X6_tries_b44 n X 0 a (nI N) c (nI k) = some (sI X' 1 7 (s' 4), r) ∧ f_X7_tries_b37 n' Y 0 a (nI N) (nI P) c (nI k) = some (sA Y 1 s', r) ∧ FR 38 X X' ∧ GB X' 38 ∧ Pst s s' ∧ s' 2 = s 2 := by
  intro m
  induction m with
  | zero =>
    intro k n n' X Y s c h1 h2 h3 h hG hP hS hx hx5
    obtain ⟨n, rfl⟩ : ∃ z, n = z + 1 := ⟨n - 1, by omega⟩
    obtain ⟨n', rfl⟩ : ∃ z, n' = z + 1 := ⟨n' - 1, by omega⟩
    obtain ⟨t1, t2, t3, t4, t5, t6⟩ := id h
    refine ⟨X, s, c, ?_, ?_, fr_rf, t2.2.2.2.2.2.2.2, Pst.rf, rfl⟩
    · simp only [f_X6_tries_b44]
      rw [if_pos (nI_le (by omega) (by omega)), gd_t gX0, t1.1.1.1, Option.bind_some, t1.1.1.2.2.2.1, Option.bind_some, gd_t gX38, gd_t gX1, t2.2.2.1.2.2.2.2.1]
      rfl
    · simp only [f_X7_tries_b37]
      rw [if_pos (nI_le (by omega) (by omega)), sA_self t5]
  | succ m ih =>
    intro k n n' X Y s c h1 h2 h3 h hG hP hS hx hx5
    obtain ⟨n, rfl⟩ : ∃ z, n = z + 1 := ⟨n - 1, by omega⟩
    obtain ⟨n', rfl⟩ : ∃ z, n' = z + 1 := ⟨n' - 1, by omega⟩
    obtain ⟨X1, s1, e1, e2, e3, e4, e5, e6, e7, e8⟩ := tries_draw (f_X6_tries_b44 n) (f_X7_tries_b37 n') a (nI N) c (nI P) (nI k) (G - P) P 1000 1000 X Y s (by omega) (by omega) (by omega) h hG hP hx
    obtain ⟨u1, u2, u3, u4, u5, u6⟩ := id e3
    have hx1 : X1.1 1 4 = nI G := by rw [e4.2 1 (by decide)]; exact hx
    have hx51 : X1.1 1 5 = nI P := by rw [e4.2 1 (by decide)]; exact hx5
    have l1 := X1_leader u2 u3
    have l7 := X7_leader u4 (by rw [u5]; exact u3) (by rw [u5, e8]; exact hS)
    rw [u5] at l7
    rw [if_pos (by rw [e8]; exact hS)] at l1
    have go : ∀ cc : Int32, ∃ X' s' r, f_X6_tries_b99 (f_X6_tries_b44 n) X1 0 a (nI N) cc (nI k) = some (sI X' 1 7 (s' 4), r) ∧ f_X7_tries_b37 n' (sA Y 1 (upd s1 2 (nI P))) 0 a (nI N) (nI P) cc (nI k + 1) = some (sA Y 1 s', r) ∧ FR 38 X X' ∧ GB X' 38 ∧ Pst s s' ∧ s' 2 = s 2 := by
      intro cc
      obtain ⟨X2, f1, f2, f3, f4⟩ := tries_back hG8 (f_X6_tries_b44 n) a (nI N) cc (nI k) (G - P) P 1000 X1 s1 (P := P) (by omega) (by omega) u1 u2 u3 (by omega) hx1
      have t2 : TR X2 (sA Y 1 (upd s1 2 (nI P))) (upd s1 2 (nI P)) := ⟨u1.at f3.out, f2, f4, u4, sA_at, u6⟩
      have nP2 : nP (upd s1 2 (nI P)) = P := by
        show (upd s1 2 (nI P) 2).toNatClampNeg = P
        rw [pk_us, nI_clamp (by omega)]
      obtain ⟨X', s', r, g1, g2, g3, g4, g5, g6⟩ := ih (k + 1) n n' X2 (sA Y 1 (upd s1 2 (nI P))) (upd s1 2 (nI P)) cc (by omega) (by omega) (by omega) t2 (by rw [nG_upd (by decide)]; exact e7) nP2 (by rw [nS_upd (by decide), e8]; exact hS) (by rw [f3.2 1 (by decide)]; exact hx1) (by rw [f3.2 1 (by decide)]; exact hx51)
      refine ⟨X', s', r, ?_, ?_, fr_tr e4 (fr_tr f3 g3), g4, (e5.bk s).tr g5 (by rw [nP2]; omega), ?_⟩
      · unfold f_X6_tries_b99
        rw [gd_t gX0, u1.1.1.1, Option.bind_some, gd_t gX1, hx51, f1, nI_1]
        exact g1
      · rw [nI_1, g2, sA_sA]
      · rw [g6, pk_us, h.2.2.1.2.2.1.1, hP]
    have hb72 : ∀ t1 : Int32, f_X7_tries_b72 (f_X7_tries_b37 n') (sA Y 1 s1) 0 a (nI N) (nI P) (nI k) c t1 = f_X7_tries_b37 n' (sA Y 1 (upd s1 2 (nI P))) 0 a (nI N) (nI P) (c + t1) (nI k + 1) := by
      intro t1
      unfold f_X7_tries_b72
      rw [gd_t gM0, u4.at 0 rfl, Option.bind_some, gd_t gA2, cl2]
      simp only [lt]
      rw [sI_sA2]
    have hX : f_X6_tries_b44 (n + 1) X 0 a (nI N) c (nI k) = f_X6_tries_b59 (f_X6_tries_b44 n) 1000 X 0 a (nI N) c (nI k) (nI P) := by
      simp only [f_X6_tries_b44]
      rw [if_neg (nI_ge (by omega) (by omega)), gd_t gX0, h.1.1.1.1, Option.bind_some, gd_t gX1, hx5]
    have hY : f_X7_tries_b37 (n' + 1) Y 0 a (nI N) (nI P) c (nI k) = f_X7_tries_b43 (f_X7_tries_b37 n') 1000 Y 0 a (nI N) (nI P) c (nI k) := by
      simp only [f_X7_tries_b37]
      rw [if_neg (nI_ge (by omega) (by omega))]
    rw [hX, hY, e1, e2, l1, l7, Option.bind_some, Option.bind_some]
    dsimp only
    split
    · rw [hb72]
      exact go (c + 1)
    · rw [hb72, Int32.add_zero]
      exact go c
section MM
variable {X Y : Mm}
theorem B_tries (h : Rel X Y) (a b : Int32) : Both (f_X6_tries X 0 a b) (f_X7_tries Y 0 a b) := by
  have hI := h.inv
  have m0 := h.m0
  have x0 := h.xq.1.1
  have x4 := h.xq.1.2.2.2.1
  have hL := h.2.2.2.1
  have h6 := hI.1.2
  have h8 := hI.2.1.2
  have hpg := hI.2.2.1.2
  unfold f_X6_tries f_X7_tries f_X6_tries_b22 f_X7_tries_b18
  simp only [rgB, gd_t gX0, gd_t gM0, x0, Option.bind_some, gd_t gX1, X1_hasSide h.lg1 hI, X7_isSide h.rm hI, X7_in, iteB, X6_finding h.xq 0 (by decide) 0 rfl, X7_finding h.rm 0 (by decide) 0 rfl]
  by_cases c1 : 0 ≤ a ∧ a < nI (nS (Y.1 1))
  · simp only [if_pos c1]
    by_cases c2 : 1 ≤ b ∧ b ≤ 40
    · obtain ⟨X1, e1, e2, e3⟩ := become38 h
      simp only [if_pos c2, x4, x0, m0, Option.bind_some, gd_t gX38, e1, gd_t gA2, cl2, hI.2.2.1.1]
      obtain ⟨N, hN, rfl⟩ := nI_at' (Int32.le_trans (by decide) c2.1) (show (40 : Nat) < 2 ^ 31 by decide) c2.2
      obtain ⟨i, hi, rfl⟩ := nI_at c1.1 (by omega) c1.2
      have tr : TR X1 Y (Y.1 1) := ⟨h.1.at e3.out, e2, hI, h.rm, rfl, h.told1⟩
      obtain ⟨X', s', r, f1, f2, f3, f4, f5, f6⟩ := tries_loop hN h8 hpg (nI i) N 0 1000 1000 X1 Y (Y.1 1) 0 (by omega) (by omega) (by omega) tr rfl rfl (by omega) (by rw [e3.2 1 (by decide), hL.1.2.1, hI.2.1.1]) (by rw [e3.2 1 (by decide), hL.1.2.2.1, hI.2.2.1.1])
      rw [show f_X6_tries_b44 1000 X1 0 (nI i) (nI N) 0 0 = _ from f1, show f_X7_tries_b37 1000 Y 0 (nI i) (nI N) (nI (nP (Y.1 1))) 0 0 = _ from f2]
      have hF := fr_tr e3 f3
      have h1 : Rel X' Y := h.aside hF.out (fun o ho => hF.2 o (by omega)) f4 rfl hI hL (fun _ _ => rfl) rfl rfl h.told1
      obtain ⟨g1, g2⟩ := LG_own h1.lg1 hI 4 (Or.inr rfl) (s' 4)
      have sm := f5.sim f6
      exact ⟨_, _, _, rfl, rfl, h1.lg g2 (g1.sim (hI.z _) sm) (sm.inv (hI.z _))⟩
    · simp only [if_neg c2]
      exact Both.fin h 0 _
  · simp only [if_neg c1]
    exact Both.fin h 0 _
end MM

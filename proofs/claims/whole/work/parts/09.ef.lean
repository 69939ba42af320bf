/-! ===== order: both searches ===== -/
def arrB (r u : Rw) (P k n : Nat) (f : Nat → Nat) : Rw := fun q => if 23 + 7 * (P + k) ≤ q ∧ q < 23 + 7 * (P + n) then u (23 + 7 * (P + f ((q - (23 + 7 * P)) / 7)) + (q - (23 + 7 * P)) % 7) else r q
theorem arrB_sim {s r u : Rw} {n : Nat} {f f' : Nat → Nat} (hI : Inv s) (hn : nP s + n = nG s) (h : Sim (arrA s (nP s) n f') r) (hu : ∀ q, q < 89 → u q = s q) (hf : ∀ k, k < n → f k < n) : Sim (arrA s (nP s) n f) (arrB r u (nP s) 0 n f) := by
  have h8 := hI.2.1.2
  have o : ∀ q, (q < 23 + 7 * nP s ∨ 23 + 7 * (nP s + n) ≤ q) → arrB r u (nP s) 0 n f q = r q := fun q hq => by
    unfold arrB
    rw [if_neg (by omega)]
  have o' : ∀ (f : Nat → Nat) q, (q < 23 + 7 * nP s ∨ 23 + 7 * (nP s + n) ≤ q) → arrA s (nP s) n f q = s q := fun f q hq => arrA_out hq
  refine ⟨fun k hk => ?_, fun j hj => ?_, fun g hg j hj hc => ?_⟩
  · rw [o k (by omega), h.1 k hk, o' _ k (by omega), o' _ k (by omega)]
  · rw [o _ (by omega), h.2.1 j hj, o' _ _ (by omega), o' _ _ (by omega)]
  · rw [arrA_nP] at hc
    have hs := h.2.2 g hg j hj (by rw [arrA_nP]; exact hc)
    unfold gO at *
    by_cases c : g < nP s
    · rw [o _ (by omega), hs, o' _ _ (by omega), o' _ _ (by omega)]
    · by_cases c2 : g < nP s + n
      · unfold arrB arrA
        have hfi := hf ((23 + 7 * g + j - (23 + 7 * nP s)) / 7) (by omega)
        rw [if_pos (by omega), if_pos (by omega), hu _ (by omega)]
      · rw [o _ (by omega), hs, o' _ _ (by omega), o' _ _ (by omega)]
theorem gA33 {k : Nat} (hk : k < 89) : okA nM shM 3 8 (nI k) := ⟨by decide, vin_nI (show k < 89 from hk) (by decide)⟩
theorem sA_same {M : Mm} {o : Nat} {f : Rw} (h : f = M.1 o) : sA M o f = M := by
  unfold sA
  refine Prod.ext ?_ rfl
  funext x
  dsimp only
  by_cases c : x = o
  · rw [if_pos c, c, h]
  · rw [if_neg c]
theorem ix7 {a b j : Nat} : (23 : Int32) + (7 : Int32) * nI a + nI j = nI (23 + 7 * a + j) := by
  rw [show (23 : Int32) = nI 23 from rfl, show (7 : Int32) = nI 7 from rfl, pk_mul, nI_add, nI_add]
section CC
variable {K : Mm → Nat → Int32 → Int32 → Int32 → Int64 → Int32 → Int32 → Option (Mm × Int32)} {x1 x2 x3 x7 : Int32} {x4 : Int64}
theorem cell_loop {P k p : Nat} (hk : k < 4) (hPk : P + k < 8) (hp : p < 8) : ∀ (d j m : Nat) (Y : Mm), j + d = 7 → d < m → RM Y → Y.1 1 2 = nI P → Y.1 12 k = nI p → f_X7_order_b134 K m Y 0 x1 x2 x3 x4 x7 (nI k) (nI j) = K (sA Y 1 (fun q => if 23 + 7 * (P + k) + j ≤ q ∧ q < 23 + 7 * (P + k) + 7 then Y.1 3 (23 + 7 * p + (q - (23 + 7 * (P + k)))) else Y.1 1 q)) 0 x1 x2 x3 x4 x7 (nI (k + 1)) := by
  intro d
  induction d with
  | zero =>
    intro j m Y h1 h2 hM hP hR
    obtain ⟨m, rfl⟩ : ∃ z, m = z + 1 := ⟨m - 1, by omega⟩
    simp only [f_X7_order_b134]
    rw [if_pos (show (7 : Int32) ≤ nI j from nI_le (a := 7) (by omega) (by omega)), nI_1, sA_same]
    funext q
    rw [if_neg (by omega)]
  | succ d ih =>
    intro j m Y h1 h2 hM hP hR
    obtain ⟨m, rfl⟩ : ∃ z, m = z + 1 := ⟨m - 1, by omega⟩
    have hP' : Y.1 1 (2 : Int32).toNatClampNeg = nI P := by rw [cl2]; exact hP
    have hR' : Y.1 12 (nI k).toNatClampNeg = nI p := by rw [nI_clamp (by omega)]; exact hR
    simp only [f_X7_order_b134]
    rw [if_neg (show ¬ (7 : Int32) ≤ nI j from nI_ge (a := j) (b := 7) (by omega) (by decide)), gd_t gM0, hM.at 0 rfl, Option.bind_some, Option.bind_some, gd_t gA2, hM.at 2 rfl, Option.bind_some, hM.at 24 rfl, Option.bind_some, gd_t (gR hk), hP', hR', nI_add, ix7 (b := 0), ix7 (b := 0), gd_t (gA33 (by omega)), gd_t (gA (by omega)), lt, nI_clamp (by omega), nI_clamp (by omega), nI_1, sI_sA]
    rw [ih (j + 1) m (sA Y 1 (upd (Y.1 1) (23 + 7 * (P + k) + j) (Y.1 3 (23 + 7 * p + j)))) (by omega) (by omega) hM (by rw [sA_at, pk_un (by omega)]; exact hP) (by rw [sA_ne (by decide)]; exact hR), sA_sA, sA_at, sA_ne (by decide)]
    congr 2
    funext q
    by_cases c : q = 23 + 7 * (P + k) + j
    · subst c
      rw [if_neg (by omega), if_pos (by omega), pk_us, show 23 + 7 * (P + k) + j - (23 + 7 * (P + k)) = j by omega]
    · rw [pk_un c]
      exact if_iff (by omega)
end CC
def ordC (K : Mm → Nat → Int32 → Int32 → Int32 → Int64 → Int32 → Option (Mm × Int32)) (M : Mm) (x1 x2 x3 : Int32) (x4 : Int64) (x7 : Int32) : Option (Mm × Int32) := Option.bind (f_X7_findWays M 0) (fun r18 => if x3 < 0 then (f_X7_order_b219 K r18.1 0 x1 x2 x7) else (Option.bind (r18.1.2.2 0 18) (fun q21 => gd (okA nM shM q21 9 x1) (if lg_cmp (r18.1.2.1 q21 x1.toNatClampNeg) x4 ≤ 0 then (f_X7_order_b230 K r18.1 0 x1 x2 x3 x4) else (f_X7_order_b219 K r18.1 0 x1 x2 x7)))))
section CR
variable {K : Mm → Nat → Int32 → Int32 → Int32 → Int64 → Int32 → Option (Mm × Int32)} {x1 x3 : Int32} {x4 : Int64}
theorem row_loop {P n c : Nat} {f : Nat → Nat} (h4 : n ≤ 4) (hPn : P + n ≤ 8) (hf : ∀ k, k < n → f k = dg n c k ∧ f k < n) : ∀ (d k m : Nat) (Y : Mm), k + d = n → d < m → RM Y → Y.1 1 2 = nI P → RW Y P n f → f_X7_order_b110 K m Y 0 x1 (nI n) x3 x4 (nI (numR P n c k)) (nI k) = ordC K (sA Y 1 (arrB (Y.1 1) (Y.1 3) P k n f)) x1 (nI n) x3 x4 (nI (numR P n c n)) := by
  intro d
  induction d with
  | zero =>
    intro k m Y h1 h2 hM hP hR
    obtain ⟨m, rfl⟩ : ∃ z, m = z + 1 := ⟨m - 1, by omega⟩
    obtain rfl : k = n := by omega
    simp only [f_X7_order_b110]
    rw [if_pos (nI_le (by omega) (by omega)), gd_t gM0, sA_same]
    · rfl
    · funext q
      unfold arrB
      rw [if_neg (by omega)]
  | succ d ih =>
    intro k m Y h1 h2 hM hP hR
    obtain ⟨m, rfl⟩ : ∃ z, m = z + 1 := ⟨m - 1, by omega⟩
    obtain ⟨f1, f2⟩ := hf k (by omega)
    have hk := hR k (by omega)
    simp only [f_X7_order_b110]
    rw [if_neg (nI_ge (by omega) (by omega)), gd_t gM0, hM.at 24 rfl, Option.bind_some, gd_t (gR (by omega)), nI_clamp (by omega), hk, lt]
    rw [show (10 : Int32) * nI (numR P n c k) + nI (P + f k) = nI (numR P n c (k + 1)) by
      rw [show (10 : Int32) = nI 10 from rfl, pk_mul, nI_add, f1]
      rfl]
    rw [show f_X7_order_b134 (f_X7_order_b110 K m) 1000 Y 0 x1 (nI n) x3 x4 (nI (numR P n c (k + 1))) (nI k) 0 = _ from cell_loop (P := P) (k := k) (p := P + f k) (by omega) (by omega) (by omega) 7 0 1000 Y (by decide) (by decide) hM hP hk]
    rw [ih (k + 1) m (sA Y 1 (fun q => if 23 + 7 * (P + k) + 0 ≤ q ∧ q < 23 + 7 * (P + k) + 7 then Y.1 3 (23 + 7 * (P + f k) + (q - (23 + 7 * (P + k)))) else Y.1 1 q)) (by omega) (by omega) hM (by rw [sA_at, if_neg (by omega)]; exact hP) (fun j hj => by rw [sA_ne (by decide)]; exact hR j hj), sA_sA, sA_at, sA_ne (by decide)]
    congr 2
    funext q
    unfold arrB
    by_cases c1 : 23 + 7 * (P + (k + 1)) ≤ q ∧ q < 23 + 7 * (P + n)
    · rw [if_pos c1, if_pos (by omega)]
    · rw [if_neg c1]
      dsimp only
      by_cases c2 : 23 + 7 * (P + k) + 0 ≤ q ∧ q < 23 + 7 * (P + k) + 7
      · rw [if_pos c2, if_pos (by omega), show (q - (23 + 7 * P)) / 7 = k by omega, show (q - (23 + 7 * P)) % 7 = q - (23 + 7 * (P + k)) by omega]
      · rw [if_neg c2, if_neg (by omega)]
end CR
def oY (P n : Nat) (m : Nat → Nat) (o : Option Nat) : Int32 × Int64 := match o with
  | none => (-1, 0)
  | some c => (nI (numR P n c n), lN (m c))
def oX (P n : Nat) (m : Nat → Nat) (o : Option Nat) : Int32 × Int64 := match o with
  | none => (0, -1)
  | some c => (nI (numF P n c n), lN (m c))
theorem numR_le {P n c : Nat} (h1 : 1 ≤ n) (hP : P + n ≤ 8) : ∀ k, numR P n c k + 1 ≤ 10 ^ k := by
  intro k
  induction k with
  | zero => exact Nat.le_refl 1
  | succ k ih =>
    have hd : dg n c k < n := dg_lt h1
    simp only [numR]
    rw [Nat.pow_succ]
    omega
theorem numR_lt {P n c : Nat} (h1 : 1 ≤ n) (h4 : n ≤ 4) (hP : P + n ≤ 8) : numR P n c n < 10000 := by
  have := numR_le (c := c) h1 hP n
  have h2 : 10 ^ n ≤ 10 ^ 4 := Nat.pow_le_pow_right (by decide) h4
  omega
theorem oX_step {P n : Nat} {m : Nat → Nat} {c : Nat} (hm : ∀ v, m v < 2 ^ 40) (o : Option Nat) : (if lg_cmp (lN (m c)) (oX P n m o).2 ≤ 0 then oX P n m o else (nI (numF P n c n), lN (m c))) = oX P n m (stp m o c) := by
  cases o with
  | none =>
    unfold oX stp
    dsimp only
    rw [if_neg (fun z => by
      have h1 := (lg_cmp_le _ _).mp z
      have h2 : lN 0 ≤ lN (m c) := (pk_lLE (by decide) (by have := hm c; omega)).mpr (Nat.zero_le _)
      exact absurd (Int64.le_trans h2 h1) (by decide))]
  | some b =>
    unfold oX stp
    have h := pk_lLE (a := m c) (b := m b) (by have := hm c; omega) (by have := hm b; omega)
    dsimp only
    by_cases d : m b < m c
    · rw [if_neg (fun z => by have := h.mp ((lg_cmp_le _ _).mp z); omega), if_pos d]
    · rw [if_pos ((lg_cmp_le _ _).mpr (h.mpr (by omega))), if_neg d]
theorem oY_step {P n : Nat} {m : Nat → Nat} {c : Nat} (h1 : 1 ≤ n) (h4 : n ≤ 4) (hP : P + n ≤ 8) (hm : ∀ v, m v < 2 ^ 40) (o : Option Nat) : (if (oY P n m o).1 < 0 then (nI (numR P n c n), lN (m c)) else if lg_cmp (lN (m c)) (oY P n m o).2 ≤ 0 then oY P n m o else (nI (numR P n c n), lN (m c))) = oY P n m (stp m o c) := by
  cases o with
  | none =>
    unfold oY stp
    dsimp only
    rw [if_pos (by decide)]
  | some b =>
    unfold oY stp
    have h := pk_lLE (a := m c) (b := m b) (by have := hm c; omega) (by have := hm b; omega)
    have hb := numR_lt (c := b) h1 h4 hP
    dsimp only
    rw [if_neg (nI_pos (by omega))]
    by_cases d : m b < m c
    · rw [if_neg (fun z => by have := h.mp ((lg_cmp_le _ _).mp z); omega), if_pos d]
    · rw [if_pos ((lg_cmp_le _ _).mpr (h.mpr (by omega))), if_neg d]
theorem foldl_some (m : Nat → Nat) : ∀ (l : List Nat) (o : Option Nat), (o ≠ none ∨ l ≠ []) → ∃ b, l.foldl (stp m) o = some b := by
  intro l
  induction l with
  | nil =>
    intro o h
    cases o with
    | none => exact absurd rfl (h.elim id (fun z => absurd rfl z))
    | some b => exact ⟨b, rfl⟩
  | cons c l ih =>
    intro o _
    obtain ⟨b, e⟩ := stp_some m o c
    rw [List.foldl_cons, e]
    exact ih _ (Or.inl (fun z => by cases z))
/-- the mean points of a side when the games come in an order -/
def mO (s : Rw) (i n : Nat) (c : Nat) : Nat := EA T0 (fF i) n (arrA s (nP s) n (dg n c))
section OO
variable {s : Rw} {i n : Nat}
theorem mO_lt (hI : Inv s) (hn : nP s + n = nG s) (h1 : 1 ≤ n) (c : Nat) : mO s i n c < 2 ^ 40 := by
  have hA := arrA_inv (f := dg n c) hI hn (fun _ _ => dg_lt h1)
  have := EA_lt (T := T0) (φ := fF i) hA (Or.inl rfl) (fun _ _ => ite_72)
  rw [arrA_nG, arrA_nP, show nG s - nP s = n by omega] at this
  exact this
/-- the class's search over the numbers -/
theorem ord_x (hI : Inv s) (hn : nP s + n = nG s) (h1 : 1 ≤ n) (h4 : n ≤ 4) (hi : i < nS s) {N : Nat} (hN : N ≤ 256) : ∀ (d v m : Nat) (X : Mm) (o : Option Nat) (f : Nat → Nat), v + d = N → d < m → XF X → LD X 1 s T0 → LG X 38 (arrA s (nP s) n f) T0 → (∀ k, k < n → f k < n) → ∃ X', f_X6_bestOrder_b43 m X 0 (nI i) (nI n) (nI N) (oX (nP s) n (mO s i n) o).1 (oX (nP s) n (mO s i n) o).2 (nI v) = some (X', (oX (nP s) n (mO s i n) (((List.range' v d).filter (vld n)).foldl (stp (mO s i n)) o)).1) ∧ X'.2.2 = X.2.2 ∧ (∀ q, (q < 37 ∨ 60 < q) → X'.1 q = X.1 q) ∧ GB X' 38 := by
  have h6 := hI.1.2
  intro d
  induction d with
  | zero =>
    intro v m X o f hv hm hF hL1 hL hf
    obtain ⟨m, rfl⟩ : ∃ z, m = z + 1 := ⟨m - 1, by omega⟩
    refine ⟨X, ?_, rfl, fun _ _ => rfl, hL.2.2.2.2.2.2.2⟩
    simp only [f_X6_bestOrder_b43]
    rw [if_pos (nI_le (by omega) (by omega))]
    rfl
  | succ d ih =>
    intro v m X o f hv hm hF hL1 hL hf
    obtain ⟨m, rfl⟩ : ∃ z, m = z + 1 := ⟨m - 1, by omega⟩
    obtain ⟨X1, a1, a2, a3⟩ := arrange (c := v) hI hn h1 h4 (by omega) hF hL1 hL hf
    have hF1 := hF.at a2.out
    have hL11 : LD X1 1 s T0 := hL1.at hI hF.2.1 a2.out (fun o _ _ => a2.2 o (by omega))
    have hd : ∀ k, k < n → dg n v k < n := fun _ _ => dg_lt h1
    have x3 := hF1.1.1.2.2.1
    rw [List.range'_succ, List.filter_cons]
    by_cases c : vld n v = true
    · have hA := arrA_inv (f := dg n v) hI hn hd
      obtain ⟨X2, b1, b2⟩ := X5_over hF1 a3 hA (Or.inl rfl) (k0 := 0) (by decide) (u := 0) (Or.inl rfl) 0
      have hF2 := hF1.at b2.1
      have x3' := hF2.1.1.2.2.1
      have p2 := hF2.1.2.1.2.2.1
      have ei : (nI i).toNatClampNeg = i := nI_clamp (by omega)
      have hv' := b2.2.2.2.2.2.1 i (by rw [arrA_nS]; exact hi)
      rw [arrA_nG, arrA_nP, show nG s - nP s = n by omega] at hv'
      have hL12 : LD X2 1 s T0 := hL11.at hI hF1.2.1 b2.1 (fun o _ _ => b2.2.2.1 o (by omega))
      obtain ⟨X', c1, c2, c3, c4⟩ := ih (v + 1) m X2 (stp (mO s i n) o v) (dg n v) (by omega) (by omega) hF2 hL12 b2.2.1 hd
      refine ⟨X', ?_, c2.trans (b2.1.trans a2.out), fun q hq => by rw [c3 q hq, b2.2.2.1 q (by omega), a2.2 q (by omega)], c4⟩
      rw [if_pos c, List.foldl_cons, ← c1]
      simp only [f_X6_bestOrder_b43]
      rw [if_neg (nI_ge (by omega) (by omega)), gd_t gX0, a1, Option.bind_some]
      dsimp only
      have hnum := num_eq (nP s) n v h1 h4
      have hlt := numR_lt (P := nP s) (c := v) h1 h4 (by have := hI.2.1.2; omega)
      rw [if_pos c, if_pos (Int32.not_lt.mp (nI_pos (by omega))), x3, Option.bind_some, gd_t gX37, show f_X5_over X1 37 0 0 0 = _ from b1, Option.bind_some]
      dsimp only
      rw [x3', Option.bind_some, gd_t gX37, p2, Option.bind_some, gd_t (hL7 (by omega))]
      have hv2 : X2.2.1 57 (nI i).toNatClampNeg = lN (mO s i n v) := by rw [ei]; exact hv'
      unfold f_X6_bestOrder_b106
      have hst := oX_step (P := nP s) (n := n) (c := v) (fun v => mO_lt (i := i) hI hn h1 v) o
      rw [nI_1, ← hst]
      by_cases e : lg_cmp (lN (mO s i n v)) (oX (nP s) n (mO s i n) o).2 ≤ 0
      · rw [if_pos e, if_pos (show lg_cmp (X2.2.1 57 (nI i).toNatClampNeg) (oX (nP s) n (mO s i n) o).2 ≤ 0 by rw [hv2]; exact e)]
      · rw [if_neg e, if_neg (show ¬ lg_cmp (X2.2.1 57 (nI i).toNatClampNeg) (oX (nP s) n (mO s i n) o).2 ≤ 0 by rw [hv2]; exact e), Option.bind_some, gd_t gX37, p2, Option.bind_some, gd_t (hL7 (by omega)), hv2]
    · obtain ⟨X', c1, c2, c3, c4⟩ := ih (v + 1) m X1 o (dg n v) (by omega) (by omega) hF1 hL11 a3 hd
      refine ⟨X', ?_, c2.trans a2.out, fun q hq => by rw [c3 q hq, a2.2 q (by omega)], c4⟩
      rw [if_neg c, ← c1]
      simp only [f_X6_bestOrder_b43]
      rw [if_neg (nI_ge (by omega) (by omega)), gd_t gX0, a1, Option.bind_some]
      dsimp only
      rw [if_neg c, if_neg (by decide)]
      unfold f_X6_bestOrder_b106
      rw [nI_1]
end OO

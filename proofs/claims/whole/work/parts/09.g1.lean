/-! ===== the two worlds as they are made ===== -/
def rX (o k : Nat) : Option Nat :=
  if o = 0 then ([some 1, some 19, none, some 37, some 38, some 61, some 63, some 64] : List (Option Nat)).getD k none
  else if o = 1 ∨ o = 19 ∨ o = 38 then ([some (o + 1), some (o + 2), some (o + 3)] : List (Option Nat)).getD k none
  else if o = 2 ∨ o = 20 ∨ o = 39 then (if k < 6 then some (o + 3 + k) else none)
  else if o = 3 ∨ o = 21 ∨ o = 40 then (if k < 8 then some (o + 8 + k) else none)
  else if o = 37 then ([some 38, some 56, some 57, some 58, some 59, some 60] : List (Option Nat)).getD k none
  else if o = 61 then ([some 62] : List (Option Nat)).getD k none
  else if o = 63 then (if k < 4 then some (65 + 2 * k) else none)
  else if o = 65 ∨ o = 67 ∨ o = 69 ∨ o = 71 then ([some (o + 1)] : List (Option Nat)).getD k none
  else none
def jX (o k : Nat) : Int32 :=
  if o = 1 ∨ o = 19 ∨ o = 38 then (if k = 6 ∨ k = 7 then 1 else if k = 8 ∨ k = 9 then -1 else 0)
  else if o = 4 ∨ o = 22 ∨ o = 41 then -1
  else if (5 ≤ o ∧ o < 11) ∨ (23 ≤ o ∧ o < 29) ∨ (42 ≤ o ∧ o < 48) then (if k = 1 then 1 else 0)
  else if (11 ≤ o ∧ o < 19) ∨ (29 ≤ o ∧ o < 37) ∨ (48 ≤ o ∧ o < 56) then (if k = 2 then 1 else if k = 3 ∨ k = 4 then -1 else 0)
  else 0
def iX : Mm := (jX, fun o k => if o = 37 ∧ k = 6 then 1 else 0, rX)
def s0A (k : Nat) : Int32 := if k = 3 ∨ k = 4 then 1 else if k < 79 then 0 else -1
def jY (o k : Nat) : Int32 := if o = 1 then s0A k else if o = 0 ∧ k = 5 then -1 else 0
def iY : Mm := (jY, fun _ _ => 0, rM)
theorem iX_gq : ∀ b, (b = 1 ∨ b = 19 ∨ b = 38) → ∀ g, g < 8 → gq iX b g = b + 10 + g := by
  intro b hb
  rcases hb with rfl | rfl | rfl <;> decide
theorem iX_XL {b : Nat} (hb : b = 1 ∨ b = 19 ∨ b = 38) : XL iX b := by
  have hg := iX_gq b hb
  refine ⟨?_, ?_, fun g h => ?_, fun g h hg1 hh e => ?_⟩
  · rcases hb with rfl | rfl | rfl <;> exact ⟨rfl, rfl, rfl⟩
  · rcases hb with rfl | rfl | rfl <;> decide
  · rw [hg g h]
    refine ⟨?_, by omega, by omega⟩
    revert g
    rcases hb with rfl | rfl | rfl <;> decide
  · rw [hg g hg1, hg h hh] at e
    omega
theorem s0_S : nS s0A = 0 := rfl
theorem s0_G : nG s0A = 0 := rfl
theorem s0_P : nP s0A = 0 := rfl
theorem s0_inv : Inv s0A := by
  unfold Inv
  rw [s0_S, s0_G, s0_P]
  refine ⟨⟨rfl, by decide⟩, ⟨rfl, by decide⟩, ⟨rfl, by decide⟩, by decide, fun g h => absurd h (by omega), fun g h => absurd h (by omega), fun g h => absurd h (by omega), fun j hj => Or.inl ?_⟩
  unfold s0A
  rw [if_neg (by omega), if_neg (by omega)]
theorem iX_XF : XF iX := ⟨⟨by decide, by decide, rfl, by decide⟩, iX_XL (Or.inl rfl), iX_XL (Or.inr (Or.inl rfl)), iX_XL (Or.inr (Or.inr rfl))⟩
theorem iX_LD {b : Nat} (hb : b = 1 ∨ b = 19 ∨ b = 38) : LD iX b s0A T0 := by
  have hg := iX_gq b hb
  unfold LD
  rw [s0_S, s0_G, s0_P]
  refine ⟨?_, fun g h => absurd h (by omega), fun g h => absurd h (by omega), fun g h => absurd h (by omega), fun j hj => ?_, fun g h => ?_⟩
  · rcases hb with rfl | rfl | rfl <;> decide
  · unfold s0A
    rw [if_neg (by omega), if_neg (by omega)]
    rcases hb with rfl | rfl | rfl <;> rfl
  · rw [hg g h]
    have e : ∀ g, g < 8 → jX (b + 10 + g) 7 = 0 ∧ jX (b + 10 + g) 8 = 0 := by
      rcases hb with rfl | rfl | rfl <;> decide
    exact ⟨Or.inl (e g h).1, Or.inl (e g h).2⟩
theorem rel0 : Rel iX iY := by
  have h1 := iX_LD (b := 1) (Or.inl rfl)
  have h19 := iX_LD (b := 19) (Or.inr (Or.inl rfl))
  have h38 := iX_LD (b := 38) (Or.inr (Or.inr rfl))
  refine ⟨iX_XF, rfl, s0_inv, h1, h19.2.2.2.2.2, h38.2.2.2.2.2, ⟨Or.inl rfl, rfl, fun z => absurd z (by decide)⟩, ?_, ⟨0, by decide, rfl, rfl, fun k hk => absurd hk (by omega)⟩, ?_, rfl⟩
  · intro k _
    rfl
  · intro i hi
    refine ⟨0, 0, Or.inl rfl, by decide, ?_, rfl, ?_, rfl, fun k _ => ?_⟩
    · show jX (65 + 2 * i) 1 = nI 0
      unfold jX
      rw [if_neg (by omega), if_neg (by omega), if_neg (by omega), if_neg (by omega)]
      rfl
    · show jX (65 + 2 * i) 2 = nI 0
      unfold jX
      rw [if_neg (by omega), if_neg (by omega), if_neg (by omega), if_neg (by omega)]
      rfl
    · show jX (66 + 2 * i) k = jY 16 (40 * i + k)
      unfold jX jY
      rw [if_neg (by omega), if_neg (by omega), if_neg (by omega), if_neg (by omega), if_neg (by decide), if_neg (fun z => absurd z.1 (by decide))]

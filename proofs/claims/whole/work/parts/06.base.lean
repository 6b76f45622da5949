/-! small laws: booleans as ints, compares of longs, indexes, addresses apart, new objects' fields -/
def bI (b : Bool) : Int32 := if b then 1 else 0
theorem bI_0 {b : Bool} : bI b = 0 ↔ b = false := by cases b <;> decide
theorem bI_01 (b : Bool) : bI b = 0 ∨ bI b = 1 := by cases b <;> decide
theorem bI_v {v : Int32} {b : Bool} (h : v = bI b) : v = 0 ∨ v = 1 := by rw [h]; exact bI_01 b
theorem bI_nar (b : Bool) : narrow .boolean (.int (bI b)) = .int (bI b) := by cases b <;> rfl
theorem bI_fit (b : Bool) : fits .boolean (.int (bI b)) = true := by cases b <;> rfl
theorem bI_if {P : Prop} [Decidable P] {a b : Bool} : bI (if P then a else b) = if P then bI a else bI b := by by_cases h : P <;> simp [h]
theorem bI_t : bI true = 1 := rfl
theorem bI_f : bI false = 0 := rfl
theorem bI_ite {P : Prop} [Decidable P] : (if P then (1 : Int32) else 0) = bI (decide P) := by by_cases h : P <;> simp [bI, h]
theorem lgc_eq {x y : Int64} : lg_cmp x y = 0 ↔ x = y := by
  unfold lg_cmp
  by_cases h1 : y < x
  · simp only [if_pos h1]
    exact iff_of_false (by decide) (fun h => by rw [h] at h1; exact absurd h1 (Int64.lt_irrefl))
  · simp only [if_neg h1]
    by_cases h2 : x = y
    · simp [h2]
    · simp only [if_neg h2]
      exact iff_of_false (by decide) h2
theorem lgc_gt {x y : Int64} : 0 < lg_cmp x y ↔ y < x := by
  unfold lg_cmp
  by_cases h1 : y < x
  · simp only [if_pos h1]
    exact iff_of_true (by decide) h1
  · simp only [if_neg h1]
    by_cases h2 : x = y
    · simp only [if_pos h2]; exact iff_of_false (by decide) h1
    · simp only [if_neg h2]; exact iff_of_false (by decide) h1
theorem lgc_le {x y : Int64} : lg_cmp x y ≤ 0 ↔ x ≤ y := by
  rw [← Int32.not_lt, lgc_gt, Int64.not_lt]
theorem lgc_lt {x y : Int64} : lg_cmp x y < 0 ↔ x < y := by
  unfold lg_cmp
  by_cases h1 : y < x
  · simp only [if_pos h1]
    exact iff_of_false (by decide) (fun h => absurd (Int64.lt_trans h h1) Int64.lt_irrefl)
  · simp only [if_neg h1]
    by_cases h2 : x = y
    · simp only [if_pos h2]
      exact iff_of_false (by decide) (fun h => by rw [h2] at h; exact absurd h Int64.lt_irrefl)
    · simp only [if_neg h2]
      exact iff_of_true (by decide) (Int64.lt_iff_le_and_ne.mpr ⟨Int64.not_lt.mp h1, h2⟩)
theorem lgc_ge {x y : Int64} : 0 ≤ lg_cmp x y ↔ y ≤ x := by
  rw [← Int32.not_lt, lgc_lt, Int64.not_lt]
theorem nI_c (n c : Nat) : nI n + nI c = nI (n + c) := nI_add n c
theorem nI_s (n c : Nat) (h : c ≤ n) : nI n - nI c = nI (n - c) := pk_sub h
theorem nI_mul (n c : Nat) : nI c * nI n = nI (c * n) := pk_mul c n
theorem nI_ltx {a b : Nat} {x y : Int32} (hx : x = nI a) (hy : y = nI b) (ha : a < 2 ^ 31) (hb : b < 2 ^ 31) : x < y ↔ a < b := by rw [hx, hy]; exact nI_ltI ha hb
theorem nI_lex {a b : Nat} {x y : Int32} (hx : x = nI a) (hy : y = nI b) (ha : a < 2 ^ 31) (hb : b < 2 ^ 31) : x ≤ y ↔ a ≤ b := by rw [hx, hy]; exact nI_leI ha hb
theorem nI_eqx {a b : Nat} {x y : Int32} (hx : x = nI a) (hy : y = nI b) (ha : a < 2 ^ 31) (hb : b < 2 ^ 31) : x = y ↔ a = b := by rw [hx, hy]; exact nI_eq ha hb
theorem h_ne {ah : hA} {a b : Nat} {e e' : va_E} (h1 : ah a = some e) (h2 : ah b = some e') (hn : e ≠ e') : a ≠ b := fun h => hn (Option.some.inj (h1.symm.trans ((congrArg ah h).trans h2)))
theorem h_fr {ah : hA} {b q : Nat} {e : va_E} (h1 : ah b = some e) (h2 : ah q = none) : b ≠ q := fun h => by rw [h, h2] at h1; cases h1
theorem hdef_X0 : ∀ j, j < 4 → defaultValue (tyX0 j) = vp_V [.int 0, .int 0, .int 0, .int 0] j := by
  intro j hj
  rcases (show j = 0 ∨ j = 1 ∨ j = 2 ∨ j = 3 by omega) with rfl | rfl | rfl | rfl <;> rfl
theorem hdef_X1 : ∀ j, j < 2 → defaultValue (tyX1 j) = vp_V [.int 0, .null] j := by
  intro j hj
  rcases (show j = 0 ∨ j = 1 by omega) with rfl | rfl <;> rfl
theorem hdef_X2 : ∀ j, j < 4 → defaultValue (tyX2 j) = vp_V [.null, .null, .null, .int 0] j := by
  intro j hj
  rcases (show j = 0 ∨ j = 1 ∨ j = 2 ∨ j = 3 by omega) with rfl | rfl | rfl | rfl <;> rfl
theorem hdef_X3 : ∀ j, j < 2 → defaultValue (tyX3 j) = vp_V [.int 0, .int 0] j := by
  intro j hj
  rcases (show j = 0 ∨ j = 1 by omega) with rfl | rfl <;> rfl
theorem hdef_X4 : ∀ j, j < 2 → defaultValue (tyX4 j) = vp_V [.int 0, .null] j := by
  intro j hj
  rcases (show j = 0 ∨ j = 1 by omega) with rfl | rfl <;> rfl
theorem hdef_X5 : ∀ j, j < 7 → defaultValue (tyX5 j) = vp_V [.int 0, .int 0, .null, .null, .int 0, .int 0, .int 0] j := by
  intro j hj
  rcases (show j = 0 ∨ j = 1 ∨ j = 2 ∨ j = 3 ∨ j = 4 ∨ j = 5 ∨ j = 6 by omega) with rfl | rfl | rfl | rfl | rfl | rfl | rfl <;> rfl
theorem hdef_X6 : ∀ j, j < 2 → defaultValue (tyX6 j) = vp_V [.null, .int 0] j := by
  intro j hj
  rcases (show j = 0 ∨ j = 1 by omega) with rfl | rfl <;> rfl
theorem hdef_X7 : ∀ j, j < 8 → defaultValue (tyX7 j) = vp_V [.null, .int 0, .int 0, .int 0, .int 0, .int 0, .null, .null] j := by
  intro j hj
  rcases (show j = 0 ∨ j = 1 ∨ j = 2 ∨ j = 3 ∨ j = 4 ∨ j = 5 ∨ j = 6 ∨ j = 7 by omega) with rfl | rfl | rfl | rfl | rfl | rfl | rfl | rfl <;> rfl
theorem hdef_X8 : ∀ j, j < 8 → defaultValue (tyX8 j) = vp_V [.null, .null, .null, .null, .null, .null, .null, .int 0] j := by
  intro j hj
  rcases (show j = 0 ∨ j = 1 ∨ j = 2 ∨ j = 3 ∨ j = 4 ∨ j = 5 ∨ j = 6 ∨ j = 7 by omega) with rfl | rfl | rfl | rfl | rfl | rfl | rfl | rfl <;> rfl
theorem hdef_X9 : ∀ j, j < 4 → defaultValue (tyX9 j) = vp_V [.null, .null, .null, .int 0] j := by
  intro j hj
  rcases (show j = 0 ∨ j = 1 ∨ j = 2 ∨ j = 3 by omega) with rfl | rfl | rfl | rfl <;> rfl
theorem hdef_X10 : ∀ j, j < 26 → defaultValue (tyX10 j) = vp_V [.int 0, .int 0, .int 0, .int 0, .int 0, .null, .null, .null, .null, .null, .null, .null, .null, .null, .null, .null, .int 0, .null, .null, .int 0, .int 0, .null, .int 0, .int 0, .int 0, .int 0] j := by
  intro j hj
  rcases (show j = 0 ∨ j = 1 ∨ j = 2 ∨ j = 3 ∨ j = 4 ∨ j = 5 ∨ j = 6 ∨ j = 7 ∨ j = 8 ∨ j = 9 ∨ j = 10 ∨ j = 11 ∨ j = 12 ∨ j = 13 ∨ j = 14 ∨ j = 15 ∨ j = 16 ∨ j = 17 ∨ j = 18 ∨ j = 19 ∨ j = 20 ∨ j = 21 ∨ j = 22 ∨ j = 23 ∨ j = 24 ∨ j = 25 by omega) with rfl | rfl | rfl | rfl | rfl | rfl | rfl | rfl | rfl | rfl | rfl | rfl | rfl | rfl | rfl | rfl | rfl | rfl | rfl | rfl | rfl | rfl | rfl | rfl | rfl | rfl <;> rfl
theorem nI_cl {x : Int32} (h : ¬ x < 0) : x = nI x.toNatClampNeg := by
  obtain ⟨j, hj, rfl⟩ := nI_of h
  rw [nI_clamp hj]
theorem nI_cll {x : Int32} {n : Nat} (h : ¬ x < 0) (h2 : ¬ nI n ≤ x) (hn : n < 2 ^ 31) : x.toNatClampNeg < n := by
  obtain ⟨j, hj, rfl⟩ := nI_of h
  rw [nI_clamp hj]
  exact Nat.not_le.mp (fun q => h2 (nI_le q hj))

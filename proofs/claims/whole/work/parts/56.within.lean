/-! a point within a ring -/
/-- above a height, or on it and the way leads down -/
def abI (v y dy : Int) : Prop := y < v ∨ v = y ∧ dy < 0
theorem mAb_t {v y dy : Int32} : mAb v y dy = true ↔ abI v.toInt y.toInt dy.toInt := by
  unfold mAb abI
  by_cases h1 : y < v
  · rw [if_pos h1]; rw [i32_lt] at h1; simp; omega
  · rw [if_neg h1]; rw [i32_lt] at h1
    by_cases h2 : v = y
    · rw [if_pos h2]; rw [i32_eq] at h2
      by_cases h3 : 0 ≤ dy
      · rw [if_pos h3]; rw [i32_le] at h3; have e : (0 : Int32).toInt = 0 := rfl; simp; omega
      · rw [if_neg h3]; rw [i32_le] at h3; have e : (0 : Int32).toInt = 0 := rfl; simp; omega
    · rw [if_neg h2]; rw [i32_eq] at h2; simp; omega
theorem cAb_t {v y : Int32} {dy : Int64} : ((if y < v then 1 else (if v = y then (if 0 ≤ dy then 0 else 1) else 0)) : Int32) = 1 ↔ abI v.toInt y.toInt dy.toInt := by
  unfold abI
  by_cases h1 : y < v
  · rw [if_pos h1]; rw [i32_lt] at h1; simp; omega
  · rw [if_neg h1]; rw [i32_lt] at h1
    by_cases h2 : v = y
    · rw [if_pos h2]; rw [i32_eq] at h2
      by_cases h3 : 0 ≤ dy
      · rw [if_pos h3]; rw [i64_ge] at h3; simp; omega
      · rw [if_neg h3]; rw [i64_ge] at h3; simp; omega
    · rw [if_neg h2]; rw [i32_eq] at h2; simp; omega
theorem cAb_v {v y : Int32} {dy : Int64} : ((if y < v then 1 else (if v = y then (if 0 ≤ dy then 0 else 1) else 0)) : Int32) = 1 ∨ ((if y < v then 1 else (if v = y then (if 0 ≤ dy then 0 else 1) else 0)) : Int32) = 0 := by
  repeat' split
  all_goals simp
/-- the turn of a step's line, seen from a point that is moved by next to nothing -/
def tnI (fx fy tx ty x y dx dy : Int) : Int := if sd fx fy tx ty x y = 0 then (tx - fx) * dy - (ty - fy) * dx else sd fx fy tx ty x y
section
variable {fx fy tx ty x y : Int32} {dx dy : Int64}
theorem tn_i (h1 : bd fx) (h2 : bd fy) (h3 : bd tx) (h4 : bd ty) (h5 : bd x) (h6 : bd y) (h7 : -2000000000 ≤ dx.toInt ∧ dx.toInt ≤ 2000000000) (h8 : -2000000000 ≤ dy.toInt ∧ dy.toInt ≤ 2000000000) :
    ((if (sgSide fx fy tx ty x y) = 0 then ((((tx).toInt64 - (fx).toInt64) * dy) - (((ty).toInt64 - (fy).toInt64) * dx)) else (sgSide fx fy tx ty x y)) : Int64).toInt = tnI fx.toInt fy.toInt tx.toInt ty.toInt x.toInt y.toInt dx.toInt dy.toInt := by
  have hs := sgSide_i h1 h2 h3 h4 h5 h6
  unfold tnI
  by_cases h : sgSide fx fy tx ty x y = 0
  · rw [if_pos h, if_pos (by rw [← hs]; exact i64_0.mp h), crs64 (by rw [sub64 h3 h1]; exact d2e h3 h1) h8 (by rw [sub64 h4 h2]; exact d2e h4 h2) h7, sub64 h3 h1, sub64 h4 h2]
  · rw [if_neg h, if_neg (by rw [← hs]; exact fun h9 => h (i64_0.mpr h9)), hs]
theorem sgHit_t (h1 : bd fx) (h2 : bd fy) (h3 : bd tx) (h4 : bd ty) (h5 : bd x) (h6 : bd y) (h7 : -2000000000 ≤ dx.toInt ∧ dx.toInt ≤ 2000000000) (h8 : -2000000000 ≤ dy.toInt ∧ dy.toInt ≤ 2000000000) :
    sgHit fx fy tx ty x y dx dy = true ↔ ¬ (abI fy.toInt y.toInt dy.toInt ↔ abI ty.toInt y.toInt dy.toInt) ∧ (abI ty.toInt y.toInt dy.toInt ∧ 0 < tnI fx.toInt fy.toInt tx.toInt ty.toInt x.toInt y.toInt dx.toInt dy.toInt ∨ ¬ abI ty.toInt y.toInt dy.toInt ∧ tnI fx.toInt fy.toInt tx.toInt ty.toInt x.toInt y.toInt dx.toInt dy.toInt < 0) := by
  have ht := tn_i h1 h2 h3 h4 h5 h6 h7 h8
  have af := cAb_t (v := fy) (y := y) (dy := dy)
  have at' := cAb_t (v := ty) (y := y) (dy := dy)
  have vf := cAb_v (v := fy) (y := y) (dy := dy)
  have vt := cAb_v (v := ty) (y := y) (dy := dy)
  unfold sgHit
  rw [← ht]
  generalize ((if (sgSide fx fy tx ty x y) = 0 then ((((tx).toInt64 - (fx).toInt64) * dy) - (((ty).toInt64 - (fy).toInt64) * dx)) else (sgSide fx fy tx ty x y)) : Int64) = s
  generalize ((if y < fy then 1 else (if fy = y then (if 0 ≤ dy then 0 else 1) else 0)) : Int32) = A at *
  generalize ((if y < ty then 1 else (if ty = y then (if 0 ≤ dy then 0 else 1) else 0)) : Int32) = B at *
  rw [← af, ← at']
  rcases vf with rfl | rfl <;> rcases vt with rfl | rfl
  · simp
  · rw [if_neg (by decide), if_pos rfl]
    by_cases h : 0 ≤ s
    · rw [if_pos h]; rw [i64_ge] at h; simp; omega
    · rw [if_neg h]; rw [i64_ge] at h; simp; omega
  · rw [if_neg (by decide), if_neg (by decide)]
    by_cases h : s ≤ 0
    · rw [if_pos h]; rw [i64_le] at h; simp; omega
    · rw [if_neg h]; rw [i64_le] at h; simp; omega
  · simp
end
section
variable {np : Nat} {X Y : Nat → Int32} {a : Nat} {x y dx dy : Int32}
theorem mHit_t (hB : bdd np X Y) (ha : a + 1 < np) (h5 : bd x) (h6 : bd y) (h7 : -2000000000 ≤ dx.toInt ∧ dx.toInt ≤ 2000000000) (h8 : -2000000000 ≤ dy.toInt ∧ dy.toInt ≤ 2000000000) :
    mHit X Y x y dx dy a = true ↔ ¬ (abI (Y a).toInt y.toInt dy.toInt ↔ abI (Y (a + 1)).toInt y.toInt dy.toInt) ∧ (0 < tnI (X a).toInt (Y a).toInt (X (a + 1)).toInt (Y (a + 1)).toInt x.toInt y.toInt dx.toInt dy.toInt ↔ abI (Y (a + 1)).toInt y.toInt dy.toInt) := by
  have A0 := hB a (by omega)
  have A1 := hB (a + 1) ha
  have ht := tn_i (dx := dx.toInt64) (dy := dy.toInt64) A0.1 A0.2 A1.1 A1.2 h5 h6 (by rw [Int32.toInt_toInt64]; exact h7) (by rw [Int32.toInt_toInt64]; exact h8)
  rw [Int32.toInt_toInt64, Int32.toInt_toInt64] at ht
  have hT : mTurn X Y x y dx dy a = sgn ((if (sgSide (X a) (Y a) (X (a + 1)) (Y (a + 1)) x y) = 0 then ((((X (a + 1)).toInt64 - (X a).toInt64) * dy.toInt64) - (((Y (a + 1)).toInt64 - (Y a).toInt64) * dx.toInt64)) else (sgSide (X a) (Y a) (X (a + 1)) (Y (a + 1)) x y)) : Int64) := by
    unfold mTurn
    rw [mSide_e]
    have hz : sgn (sgSide (X a) (Y a) (X (a + 1)) (Y (a + 1)) x y) = 0 ↔ sgSide (X a) (Y a) (X (a + 1)) (Y (a + 1)) x y = 0 := by
      rw [i64_0]; rcases sgn_c (sgSide (X a) (Y a) (X (a + 1)) (Y (a + 1)) x y) with ⟨g1, g2⟩ | ⟨g1, g2⟩ | ⟨g1, g2⟩ <;> rw [g2] <;> first | exact ⟨fun _ => by omega, fun _ => by decide⟩ | exact ⟨fun h => absurd h (by decide), fun h => by omega⟩
    by_cases h : sgSide (X a) (Y a) (X (a + 1)) (Y (a + 1)) x y = 0
    · rw [if_pos (hz.mpr h), if_pos h]
    · rw [if_neg (fun h9 => h (hz.mp h9)), if_neg h]
  unfold mHit
  rw [hT, ← mAb_t, ← mAb_t, ← ht]
  generalize ((if (sgSide (X a) (Y a) (X (a + 1)) (Y (a + 1)) x y) = 0 then ((((X (a + 1)).toInt64 - (X a).toInt64) * dy.toInt64) - (((Y (a + 1)).toInt64 - (Y a).toInt64) * dx.toInt64)) else (sgSide (X a) (Y a) (X (a + 1)) (Y (a + 1)) x y)) : Int64) = s
  have hp := sgn_p (v := s)
  cases mAb (Y a) y dy <;> cases mAb (Y (a + 1)) y dy
  · simp
  · rw [if_neg (by decide)]
    by_cases h : sgn s ≤ 0
    · rw [if_pos h, if_neg (by decide)]; rw [hp] at h; simp; omega
    · rw [if_neg h, if_pos (by decide)]; rw [hp] at h; simp; omega
  · rw [if_neg (by decide)]
    by_cases h : sgn s ≤ 0
    · rw [if_pos h, if_pos (by decide)]; rw [hp] at h; simp; omega
    · rw [if_neg h, if_neg (by decide)]; rw [hp] at h; simp; omega
  · simp
theorem mHit_z (h : mSeg X Y a = false) : mHit X Y x y dx dy a = false := by
  have h3 : smP X Y a (a + 1) = true := by unfold mSeg at h; cases h4 : smP X Y a (a + 1) <;> simp [h4] at h ⊢
  rw [smP_iff] at h3
  unfold mHit; rw [h3.2, if_pos rfl]
end
theorem par_x {f g h : Nat → Bool} (n : Nat) (e : ∀ k, k < n → f k = (g k != h k)) : parB n f = (parB n g != parB n h) := by
  induction n with
  | zero => rfl
  | succ n ih =>
    rw [parB, parB, parB, ih (fun k hk => e k (by omega)), e n (by omega)]
    cases parB n g <;> cases parB n h <;> cases g n <;> cases h n <;> rfl
/-- how often something changes along a row: an even number of times, if it ends as it began -/
theorem par_c {f : Nat → Bool} {n : Nat} : parB n (fun k => f k != f (k + 1)) = (f 0 != f n) := by
  induction n with
  | zero => simp [parB]
  | succ n ih => rw [parB, ih]; cases f 0 <;> cases f n <;> cases f (n + 1) <;> rfl
theorem par_f {f : Nat → Bool} {n : Nat} (h : ∀ k, k < n → f k = false) : parB n f = false := by
  induction n with
  | zero => rfl
  | succ n ih => rw [parB, if_pos (h n (by omega))]; exact ih (fun k hk => h k (by omega))
theorem par_e {f g : Nat → Bool} {n : Nat} (h : ∀ k, k < n → f k = g k) : parB n f = parB n g := by
  induction n with
  | zero => rfl
  | succ n ih => rw [parB, parB, h n (by omega), ih (fun k hk => h k (by omega))]
/-- a point right of a step that passes its height, and one left of it -/
theorem sd_r {fx fy tx ty x y : Int} (h1 : fx < x) (h2 : tx < x) (h : fy ≤ y ∧ y ≤ ty ∧ fy < ty) : sd fx fy tx ty x y < 0 := by
  unfold sd
  have e1 := Int.mul_nonneg (show 0 ≤ y - fy by omega) (show 0 ≤ x - tx by omega)
  have e2 := Int.mul_nonneg (show 0 ≤ ty - y by omega) (show 0 ≤ x - fx by omega)
  have e3 : 0 < (y - fy) + (ty - y) := by omega
  rcases Int.lt_or_eq_of_le h.1 with h4 | h4
  · have := Int.mul_pos (show 0 < y - fy by omega) (show 0 < x - tx by omega); grind
  · have := Int.mul_pos (show 0 < ty - y by omega) (show 0 < x - fx by omega); grind
theorem sd_neg {fx fy tx ty x y : Int} : sd tx ty fx fy x y = - sd fx fy tx ty x y := by unfold sd; grind
theorem sd_mir {fx fy tx ty x y : Int} : sd (-fx) fy (-tx) ty (-x) y = - sd fx fy tx ty x y := by unfold sd; grind
theorem sd_l {fx fy tx ty x y : Int} (h1 : x < fx) (h2 : x < tx) (h : fy ≤ y ∧ y ≤ ty ∧ fy < ty) : 0 < sd fx fy tx ty x y := by
  have := sd_r (fx := -fx) (fy := fy) (tx := -tx) (ty := ty) (x := -x) (y := y) (by omega) (by omega) h
  rw [sd_mir] at this; omega
section
variable {np : Nat} {X Y : Nat → Int32} {RP RN : Nat → Nat} {r q : Nat} {t u : rgT}
theorem sH_e (hB : bdd np X Y) {po k : Nat} (hk : po + k + 1 < np) {x y dx dy : Int32} {ex ey : Int64} (hx : bd x) (hy : bd y) (h7 : -2000000000 ≤ dx.toInt ∧ dx.toInt ≤ 2000000000) (h8 : -2000000000 ≤ dy.toInt ∧ dy.toInt ≤ 2000000000) (e1 : ex.toInt = dx.toInt) (e2 : ey.toInt = dy.toInt)
    (hok : ¬ (abI (Y (po + k)).toInt y.toInt dy.toInt ↔ abI (Y (po + k + 1)).toInt y.toInt dy.toInt) → tnI (X (po + k)).toInt (Y (po + k)).toInt (X (po + k + 1)).toInt (Y (po + k + 1)).toInt x.toInt y.toInt dx.toInt dy.toInt ≠ 0) :
    sH (sgv X Y po k) x y ex ey = mHit X Y x y dx dy (po + k) := by
  have A0 := hB (po + k) (by omega)
  have A1 := hB (po + k + 1) hk
  rw [Bool.eq_iff_iff, mHit_t hB hk hx hy h7 h8]
  unfold sH
  show sgHit (X (po + k)) (Y (po + k)) (X (po + k + 1)) (Y (po + k + 1)) x y ex ey = true ↔ _
  rw [sgHit_t A0.1 A0.2 A1.1 A1.2 hx hy (by rw [e1]; exact h7) (by rw [e2]; exact h8), e1, e2]
  constructor
  · rintro ⟨h1, h2⟩
    refine ⟨h1, ?_⟩
    rcases h2 with ⟨h2, h3⟩ | ⟨h2, h3⟩
    · exact ⟨fun _ => h2, fun _ => h3⟩
    · exact ⟨fun h => by omega, fun h => absurd h h2⟩
  · rintro ⟨h1, h2⟩
    refine ⟨h1, ?_⟩
    have := hok h1
    by_cases h3 : abI (Y (po + k + 1)).toInt y.toInt dy.toInt
    · exact Or.inl ⟨h3, h2.mpr h3⟩
    · have : ¬ 0 < tnI (X (po + k)).toInt (Y (po + k)).toInt (X (po + k + 1)).toInt (Y (po + k + 1)).toInt x.toInt y.toInt dx.toInt dy.toInt := fun h9 => h3 (h2.mp h9)
      exact Or.inr ⟨h3, by omega⟩
theorem tn_sd {fx fy tx ty x y dx dy : Int} (h : sd fx fy tx ty x y ≠ 0) : tnI fx fy tx ty x y dx dy = sd fx fy tx ty x y := if_neg h
/-- out of the ring's box there is no point within it -/
theorem odd_out (hB : bdd np X Y) (hnp : RP r + RN r ≤ np) (hcl : smP X Y (RP r) (RP r + (RN r - 1)) = true) {x y dx dy : Int32} (hx : bd x) (hy : bd y) (h7 : -2000000000 ≤ dx.toInt ∧ dx.toInt ≤ 2000000000) (h8 : -2000000000 ≤ dy.toInt ∧ dy.toInt ≤ 2000000000)
    (hb : bxHas (bbS X Y (RP r) (RN r - 1) 0) (bbS X Y (RP r) (RN r - 1) 1) (bbS X Y (RP r) (RN r - 1) 2) (bbS X Y (RP r) (RN r - 1) 3) x y = false) : mOdd X Y RP RN r x y dx dy = false := by
  rw [bf_t bxHas_t] at hb
  have hf : ∀ k, k < RN r - 1 → (mSeg X Y (RP r + k) = true → ¬ mHit X Y x y dx dy (RP r + k) = true) → mHit X Y x y dx dy (RP r + k) = false := by
    intro k _ h
    by_cases h1 : mSeg X Y (RP r + k) = true
    · exact eq_false_of_ne_true (h h1)
    · exact mHit_z (eq_false_of_ne_true h1)
  by_cases hy3 : (bbS X Y (RP r) (RN r - 1) 3).toInt < y.toInt
  · apply par_f; intro k hk; apply hf k hk; intro hs h9
    have h1 := bb_in hk hs
    rw [mHit_t hB (by omega) hx hy h7 h8] at h9
    exact h9.1 (by unfold abI; omega)
  by_cases hy1 : y.toInt < (bbS X Y (RP r) (RN r - 1) 1).toInt
  · apply par_f; intro k hk; apply hf k hk; intro hs h9
    have h1 := bb_in hk hs
    rw [mHit_t hB (by omega) hx hy h7 h8] at h9
    exact h9.1 (by unfold abI; omega)
  by_cases hx2 : (bbS X Y (RP r) (RN r - 1) 2).toInt < x.toInt
  · apply par_f; intro k hk; apply hf k hk; intro hs h9
    have h1 := bb_in hk hs
    rw [mHit_t hB (by omega) hx hy h7 h8] at h9
    obtain ⟨h2, h3⟩ := h9
    by_cases h4 : abI (Y (RP r + k + 1)).toInt y.toInt dy.toInt
    · have h5 : ¬ abI (Y (RP r + k)).toInt y.toInt dy.toInt := fun h9 => h2 ⟨fun _ => h4, fun _ => h9⟩
      have h6 := sd_r (fx := (X (RP r + k)).toInt) (fy := (Y (RP r + k)).toInt) (tx := (X (RP r + k + 1)).toInt) (ty := (Y (RP r + k + 1)).toInt) (x := x.toInt) (y := y.toInt) (by omega) (by omega) (by unfold abI at h4 h5; omega)
      have := h3.mpr h4
      rw [tn_sd (by omega)] at this; omega
    · have h5 : abI (Y (RP r + k)).toInt y.toInt dy.toInt := Classical.byContradiction fun h9 => h2 ⟨fun h => absurd h h9, fun h => absurd h h4⟩
      have h6 := sd_r (fx := (X (RP r + k + 1)).toInt) (fy := (Y (RP r + k + 1)).toInt) (tx := (X (RP r + k)).toInt) (ty := (Y (RP r + k)).toInt) (x := x.toInt) (y := y.toInt) (by omega) (by omega) (by unfold abI at h4 h5; omega)
      rw [sd_neg] at h6
      exact h4 (h3.mp (by rw [tn_sd (by omega)]; omega))
  have hx0 : x.toInt < (bbS X Y (RP r) (RN r - 1) 0).toInt := by omega
  have he : ∀ k, k < RN r - 1 → mHit X Y x y dx dy (RP r + k) = (mAb (Y (RP r + k)) y dy != mAb (Y (RP r + (k + 1))) y dy) := by
    intro k hk
    by_cases hs : mSeg X Y (RP r + k) = true
    · have h1 := bb_in hk hs
      rw [Bool.eq_iff_iff, mHit_t hB (by omega) hx hy h7 h8, bne_iff_ne, ne_eq, Bool.eq_iff_iff, mAb_t, mAb_t]
      show _ ↔ ¬ (_ ↔ abI (Y (RP r + k + 1)).toInt y.toInt dy.toInt)
      constructor
      · exact fun h => h.1
      · intro h2
        refine ⟨h2, ?_⟩
        by_cases h4 : abI (Y (RP r + k + 1)).toInt y.toInt dy.toInt
        · have h5 : ¬ abI (Y (RP r + k)).toInt y.toInt dy.toInt := fun h9 => h2 ⟨fun _ => h4, fun _ => h9⟩
          have h6 := sd_l (fx := (X (RP r + k)).toInt) (fy := (Y (RP r + k)).toInt) (tx := (X (RP r + k + 1)).toInt) (ty := (Y (RP r + k + 1)).toInt) (x := x.toInt) (y := y.toInt) (by omega) (by omega) (by unfold abI at h4 h5; omega)
          exact ⟨fun _ => h4, fun _ => by rw [tn_sd (by omega)]; exact h6⟩
        · have h5 : abI (Y (RP r + k)).toInt y.toInt dy.toInt := Classical.byContradiction fun h9 => h2 ⟨fun h => absurd h h9, fun h => absurd h h4⟩
          have h6 := sd_l (fx := (X (RP r + k + 1)).toInt) (fy := (Y (RP r + k + 1)).toInt) (tx := (X (RP r + k)).toInt) (ty := (Y (RP r + k)).toInt) (x := x.toInt) (y := y.toInt) (by omega) (by omega) (by unfold abI at h4 h5; omega)
          rw [sd_neg] at h6
          exact ⟨fun h => by rw [tn_sd (by omega)] at h; omega, fun h => absurd h h4⟩
    · have hs := eq_false_of_ne_true hs
      rw [mHit_z hs]
      have := run_s (X := X) (Y := Y) (k := RP r + k) (d := 1) (fun e he => by rw [show e = 0 by omega]; exact hs)
      rw [show RP r + (k + 1) = RP r + k + 1 by omega, this.2]; simp
  unfold mOdd
  rw [par_e he, par_c (f := fun k => mAb (Y (RP r + k)) y dy)]
  rw [smP_iff] at hcl
  show (mAb (Y (RP r + 0)) y dy != mAb (Y (RP r + (RN r - 1))) y dy) = false
  rw [← hcl.2]; simp
theorem hold_e (hB : bdd np X Y) (h : rgE np X Y RP RN r t) (hcl : smP X Y (RP r) (RP r + (RN r - 1)) = true) {x y dx dy : Int32} {ex ey : Int64} (hx : bd x) (hy : bd y) (h7 : -2000000000 ≤ dx.toInt ∧ dx.toInt ≤ 2000000000) (h8 : -2000000000 ≤ dy.toInt ∧ dy.toInt ≤ 2000000000) (e1 : ex.toInt = dx.toInt) (e2 : ey.toInt = dy.toInt)
    (hok : ∀ k, k < RN r - 1 → mSeg X Y (RP r + k) = true → ¬ (abI (Y (RP r + k)).toInt y.toInt dy.toInt ↔ abI (Y (RP r + k + 1)).toInt y.toInt dy.toInt) → tnI (X (RP r + k)).toInt (Y (RP r + k)).toInt (X (RP r + k + 1)).toInt (Y (RP r + k + 1)).toInt x.toInt y.toInt dx.toInt dy.toInt ≠ 0) :
    rgHolds t.2.2.2.1 (t.1 4) t.2.2.2.2.2.2.2 x y ex ey = mOdd X Y RP RN r x y dx dy := by
  have hnp := h.1
  unfold rgHolds
  rw [rgE_n h, rgE_b h, en_par]
  have he : parB (RN r - 1) (fun k => mSeg X Y (RP r + k) && sH (t.2.2.2.2.2.2.2 (cntS X Y (RP r) k)) x y ex ey) = mOdd X Y RP RN r x y dx dy := by
    unfold mOdd
    apply par_e
    intro k hk
    by_cases hs : mSeg X Y (RP r + k) = true
    · rw [hs, show t.2.2.2.2.2.2.2 (cntS X Y (RP r) k) = sgv X Y (RP r) k from rgE_S h hk hs, sH_e hB (by omega) hx hy h7 h8 e1 e2 (hok k hk hs)]; rfl
    · have hs := eq_false_of_ne_true hs
      rw [hs, mHit_z hs]; rfl
  by_cases hb : bxHas (bbS X Y (RP r) (RN r - 1) 0) (bbS X Y (RP r) (RN r - 1) 1) (bbS X Y (RP r) (RN r - 1) 2) (bbS X Y (RP r) (RN r - 1) 3) x y = false
  · rw [if_pos hb]; exact (odd_out hB hnp hcl hx hy h7 h8 hb).symm
  · rw [if_neg hb]; exact he
end
/-- a point of a line, at a height that a step of it passes, is on the step -/
theorem bt_x {fx fy tx ty x y : Int} (h : sd fx fy tx ty x y = 0) (hy : btI y fy ty) (hn : fy ≠ ty) : btI x fx tx := by
  refine btI_of (p := y - fy) (q := -(ty - y)) ?_ ?_ ?_
  · unfold sd at h; grind
  · unfold one2; unfold btI at hy; omega
  · omega
theorem par_v {ux uy dx dy vx vy : Int} (hu : ¬ (ux = 0 ∧ uy = 0)) (h1 : ux * dy - uy * dx = 0) (h2 : ux * vy - uy * vx = 0) : dx * vy - dy * vx = 0 := by
  by_cases h : ux = 0
  · have h3 : uy * (dx * vy - dy * vx) = 0 := by grind
    rcases Int.mul_eq_zero.mp h3 with h4 | h4
    · exact absurd ⟨h, h4⟩ hu
    · exact h4
  · have h3 : ux * (dx * vy - dy * vx) = 0 := by grind
    rcases Int.mul_eq_zero.mp h3 with h4 | h4
    · exact absurd h4 h
    · exact h4
section
variable {np : Nat} {X Y : Nat → Int32} {a b : Nat}
/-- two steps of one line that have more than a point in common are told as such -/
theorem m3_o (hB : bdd np X Y) (ha : a + 1 < np) (hb : b + 1 < np) (h1 : sdX X Y a (X b) (Y b) = 0) (h2 : sdX X Y a (X (b + 1)) (Y (b + 1)) = 0) (hx : ¬ apX (X a).toInt (X (a + 1)).toInt (X b).toInt (X (b + 1)).toInt) (hy : ¬ apX (Y a).toInt (Y (a + 1)).toInt (Y b).toInt (Y (b + 1)).toInt)
    (hn : mor (les (Y a) (Y (a + 1))) (les (Y b) (Y (b + 1))) ≠ les (mor (Y a) (Y (a + 1))) (mor (Y b) (Y (b + 1)))) : (mMeet X Y 0 0 a b).1 = 3 := by
  have B0 := hB b (by omega)
  have B1 := hB (b + 1) hb
  rw [mMeet_o ⟨(mSide_0 hB ha B0.1 B0.2).mpr h1, (mSide_0 hB ha B1.1 B1.2).mpr h2⟩]
  rcases mAlong_c (X := X) (Y := Y) (a := a) (b := b) with ⟨h, -⟩ | ⟨-, ⟨-, h, -⟩ | ⟨-, h⟩⟩
  · exact absurd h (fun h9 => h9.elim hx hy)
  · exact absurd h hn
  · rw [h, if_pos rfl]
theorem share (hB : bdd np X Y) (ha : a + 1 < np) (hb : b + 1 < np) (na : mSeg X Y a = true) (nB : mSeg X Y b = true) (h1 : sdX X Y b (X a) (Y a) = 0)
    (h2 : ((X (b + 1)).toInt - (X b).toInt) * ((Y (a + 1)).toInt - (Y a).toInt) - ((Y (b + 1)).toInt - (Y b).toInt) * ((X (a + 1)).toInt - (X a).toInt) = 0)
    (hab : ¬ (abI (Y b).toInt (Y a).toInt ((Y (a + 1)).toInt - (Y a).toInt) ↔ abI (Y (b + 1)).toInt (Y a).toInt ((Y (a + 1)).toInt - (Y a).toInt))) : (mMeet X Y 0 0 a b).1 = 3 ∧ (mMeet X Y 0 0 b a).1 = 3 := by
  rw [mSeg_t] at na nB
  have hyne : (Y b).toInt ≠ (Y (b + 1)).toInt := by intro h9; exact hab (by rw [h9])
  have hdy : (Y (a + 1)).toInt - (Y a).toInt ≠ 0 := by
    intro h9
    rw [h9, Int.mul_zero] at h2
    have h3 : ((Y (b + 1)).toInt - (Y b).toInt) * ((X (a + 1)).toInt - (X a).toInt) = 0 := by omega
    rcases Int.mul_eq_zero.mp h3 with h4 | h4 <;> omega
  have h3 : sdX X Y b (X (a + 1)) (Y (a + 1)) = 0 := by unfold sdX sd at *; grind
  have h4 : sdX X Y a (X b) (Y b) = 0 := by
    have := par_v (ux := (X (b + 1)).toInt - (X b).toInt) (uy := (Y (b + 1)).toInt - (Y b).toInt) (dx := (X (a + 1)).toInt - (X a).toInt) (dy := (Y (a + 1)).toInt - (Y a).toInt) (vx := (X b).toInt - (X a).toInt) (vy := (Y b).toInt - (Y a).toInt) (by omega) h2 (by unfold sdX sd at h1; grind)
    unfold sdX sd; omega
  have h5 : sdX X Y a (X (b + 1)) (Y (b + 1)) = 0 := by unfold sdX sd at *; grind
  have hby : btI (Y a).toInt (Y b).toInt (Y (b + 1)).toInt := by unfold abI at hab; unfold btI; omega
  have hbx := bt_x h1 hby hyne
  have nx : ¬ apX (X a).toInt (X (a + 1)).toInt (X b).toInt (X (b + 1)).toInt := on_nap (c := (X a).toInt) (by unfold btI; omega) hbx
  have ny : ¬ apX (Y a).toInt (Y (a + 1)).toInt (Y b).toInt (Y (b + 1)).toInt := on_nap (c := (Y a).toInt) (by unfold btI; omega) hby
  have l1 := les_s (Y a) (Y (a + 1))
  have l2 := les_s (Y b) (Y (b + 1))
  have m1 := mor_s (Y a) (Y (a + 1))
  have m2 := mor_s (Y b) (Y (b + 1))
  constructor
  · refine m3_o hB ha hb h4 h5 nx ny ?_
    intro h9; rw [i32_eq] at h9
    have p1 := mor_s (les (Y a) (Y (a + 1))) (les (Y b) (Y (b + 1)))
    have p2 := les_s (mor (Y a) (Y (a + 1))) (mor (Y b) (Y (b + 1)))
    unfold abI at hab; omega
  · refine m3_o hB hb ha h1 h3 (by unfold apX at *; omega) (by unfold apX at *; omega) ?_
    intro h9; rw [i32_eq] at h9
    have p1 := mor_s (les (Y b) (Y (b + 1))) (les (Y a) (Y (a + 1)))
    have p2 := les_s (mor (Y b) (Y (b + 1))) (mor (Y a) (Y (a + 1)))
    unfold abI at hab; omega
end

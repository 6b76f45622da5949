/-! left of a ring -/
/-- one direction, or the opposite one -/
def ssI (a b : Int) : Prop := a < 0 ∧ b < 0 ∨ a = 0 ∧ b = 0 ∨ 0 < a ∧ 0 < b
theorem opp_1 {ox oy kx ky : Int} (h : ox * ky = oy * kx) (ho : ¬ (ox = 0 ∧ oy = 0)) (hk : ¬ (kx = 0 ∧ ky = 0)) (hs : ¬ ssI ox kx) : ox * kx + oy * ky < 0 := by
  unfold ssI at hs
  have hz1 : ox ≠ 0 := by
    intro h1; subst h1
    rw [Int.zero_mul] at h
    have := Int.mul_eq_zero.mp h.symm
    omega
  have hz2 : kx ≠ 0 := by
    intro h1; subst h1
    rw [Int.mul_zero] at h
    have := Int.mul_eq_zero.mp h
    omega
  have h1 : ox * kx < 0 := by
    rcases Int.lt_trichotomy ox 0 with h2 | h2 | h2
    · have := Int.mul_pos (show 0 < -ox by omega) (show 0 < kx by omega); rw [Int.neg_mul] at this; omega
    · exact absurd h2 hz1
    · have := Int.mul_pos h2 (show 0 < -kx by omega); rw [Int.mul_neg] at this; omega
  have h2 : 0 ≤ (oy * ky) * (ox * kx) := by
    have e : (oy * ky) * (ox * kx) = (ox * ky) * (ox * ky) := by
      have : (oy * ky) * (ox * kx) = (ox * ky) * (oy * kx) := by grind
      rw [this, ← h]
    rw [e]
    rcases Int.le_total 0 (ox * ky) with h3 | h3
    · exact Int.mul_nonneg h3 h3
    · have := Int.mul_nonneg (show 0 ≤ -(ox * ky) by omega) (show 0 ≤ -(ox * ky) by omega); rw [Int.neg_mul_neg] at this; exact this
  have h3 : oy * ky ≤ 0 := by
    apply Classical.byContradiction; intro h4
    have := Int.mul_pos (show 0 < oy * ky by omega) (show 0 < -(ox * kx) by omega)
    rw [Int.mul_neg] at this; omega
  omega
theorem ss_nn {a b : Int} (h : ssI a b) : 0 ≤ a * b := by
  rcases h with ⟨h1, h2⟩ | ⟨h1, h2⟩ | ⟨h1, h2⟩
  · have := Int.mul_pos (show 0 < -a by omega) (show 0 < -b by omega); rw [Int.neg_mul_neg] at this; omega
  · rw [h1, Int.zero_mul]; exact Int.le_refl _
  · exact Int.le_of_lt (Int.mul_pos h1 h2)
theorem opp_t {ox oy kx ky : Int} (h : ox * ky - oy * kx = 0) (ho : ¬ (ox = 0 ∧ oy = 0)) (hk : ¬ (kx = 0 ∧ ky = 0)) : ox * kx + oy * ky < 0 ↔ ¬ (ssI ox kx ∧ ssI oy ky) := by
  constructor
  · intro h1 h2
    have := ss_nn h2.1; have := ss_nn h2.2; omega
  · intro h1
    by_cases h2 : ssI ox kx
    · have := opp_1 (ox := oy) (oy := ox) (kx := ky) (ky := kx) (by omega) (fun h9 => ho ⟨h9.2, h9.1⟩) (fun h9 => hk ⟨h9.2, h9.1⟩) (fun h3 => h1 ⟨h2, h3⟩)
      omega
    · exact opp_1 (by omega) ho hk h2
theorem sub32 {a b : Int32} (ha : bd a) (hb : bd b) : (a - b).toInt = a.toInt - b.toInt := by
  rw [Int32.toInt_sub]; unfold bd at *; exact Int.bmod_eq_of_le (by omega) (by omega)
theorem dif64 {a b : Int32} (ha : bd a) (hb : bd b) : (a - b).toInt64.toInt = a.toInt - b.toInt := by rw [Int32.toInt_toInt64, sub32 ha hb]
theorem d2e {a b : Int32} (ha : bd a) (hb : bd b) : -2000000000 ≤ a.toInt - b.toInt ∧ a.toInt - b.toInt ≤ 2000000000 := by unfold bd at *; omega
/-- the class's and the model's products of differences -/
theorem crs_d {a b c d x y : Int32} (ha : bd a) (hb : bd b) (hc : bd c) (hd : bd d) (hx : bd x) (hy : bd y) : ((a - x).toInt64 * (d - y).toInt64 - (b - y).toInt64 * (c - x).toInt64).toInt = (a.toInt - x.toInt) * (d.toInt - y.toInt) - (b.toInt - y.toInt) * (c.toInt - x.toInt) := by
  rw [crs64 (by rw [dif64 ha hx]; exact d2e ha hx) (by rw [dif64 hd hy]; exact d2e hd hy) (by rw [dif64 hb hy]; exact d2e hb hy) (by rw [dif64 hc hx]; exact d2e hc hx), dif64 ha hx, dif64 hd hy, dif64 hb hy, dif64 hc hx]
theorem crs_e {a b c d x y : Int32} (ha : bd a) (hb : bd b) (hc : bd c) (hd : bd d) (hx : bd x) (hy : bd y) : ((a.toInt64 - x.toInt64) * (d.toInt64 - y.toInt64) - (b.toInt64 - y.toInt64) * (c.toInt64 - x.toInt64)).toInt = (a.toInt - x.toInt) * (d.toInt - y.toInt) - (b.toInt - y.toInt) * (c.toInt - x.toInt) := by
  rw [crs64 (by rw [sub64 ha hx]; exact d2e ha hx) (by rw [sub64 hd hy]; exact d2e hd hy) (by rw [sub64 hb hy]; exact d2e hb hy) (by rw [sub64 hc hx]; exact d2e hc hx), sub64 ha hx, sub64 hd hy, sub64 hb hy, sub64 hc hx]
theorem dot_e {a b c d x y : Int32} (ha : bd a) (hb : bd b) (hc : bd c) (hd : bd d) (hx : bd x) (hy : bd y) : ((a.toInt64 - x.toInt64) * (c.toInt64 - x.toInt64) + (b.toInt64 - y.toInt64) * (d.toInt64 - y.toInt64)).toInt = (a.toInt - x.toInt) * (c.toInt - x.toInt) + (b.toInt - y.toInt) * (d.toInt - y.toInt) := by
  have h1 := mul_b (d2e ha hx) (d2e hc hx)
  have h2 := mul_b (d2e hb hy) (d2e hd hy)
  rw [Int64.toInt_add, mul64 (by rw [sub64 ha hx]; exact d2e ha hx) (by rw [sub64 hc hx]; exact d2e hc hx), mul64 (by rw [sub64 hb hy]; exact d2e hb hy) (by rw [sub64 hd hy]; exact d2e hd hy), sub64 ha hx, sub64 hc hx, sub64 hb hy, sub64 hd hy]
  exact bmod64 (by omega) (by omega)
theorem sgn_p {v : Int64} : sgn v ≤ 0 ↔ v.toInt ≤ 0 := by rcases sgn_c v with ⟨h1, h2⟩ | ⟨h1, h2⟩ | ⟨h1, h2⟩ <;> rw [h2] <;> first | exact ⟨fun _ => by omega, fun _ => by decide⟩ | exact ⟨fun h => absurd h (by decide), fun h => by omega⟩
theorem sgn_q {v : Int64} : 0 ≤ sgn v ↔ 0 ≤ v.toInt := by rcases sgn_c v with ⟨h1, h2⟩ | ⟨h1, h2⟩ | ⟨h1, h2⟩ <;> rw [h2] <;> first | exact ⟨fun _ => by omega, fun _ => by decide⟩ | exact ⟨fun h => absurd h (by decide), fun h => by omega⟩
theorem sgn_r {v : Int64} : 0 < sgn v ↔ 0 < v.toInt := by rcases sgn_c v with ⟨h1, h2⟩ | ⟨h1, h2⟩ | ⟨h1, h2⟩ <;> rw [h2] <;> first | exact ⟨fun _ => by omega, fun _ => by decide⟩ | exact ⟨fun h => absurd h (by decide), fun h => by omega⟩
theorem sgn_ss {u v : Int64} : sgn u = sgn v ↔ ssI u.toInt v.toInt := by
  unfold ssI
  rcases sgn_c u with ⟨h1, h2⟩ | ⟨h1, h2⟩ | ⟨h1, h2⟩ <;> rcases sgn_c v with ⟨h3, h4⟩ | ⟨h3, h4⟩ | ⟨h3, h4⟩ <;> rw [h2, h4] <;> first | exact ⟨fun _ => by omega, fun _ => by decide⟩ | exact ⟨fun h => absurd h (by decide), fun h => by omega⟩
/-- whether w lies left, between where o leads and back to f, seen from x, y: the class -/
def sgLe (ox oy fx fy x y wx wy : Int32) : Bool := (if ((((ox).toInt64 - (x).toInt64) * ((fy).toInt64 - (y).toInt64)) - (((oy).toInt64 - (y).toInt64) * ((fx).toInt64 - (x).toInt64))) ≤ 0 then (if 0 ≤ ((((ox).toInt64 - (x).toInt64) * ((fy).toInt64 - (y).toInt64)) - (((oy).toInt64 - (y).toInt64) * ((fx).toInt64 - (x).toInt64))) then (if ((if 0 ≤ ((((ox).toInt64 - (x).toInt64) * ((fx).toInt64 - (x).toInt64)) + (((oy).toInt64 - (y).toInt64) * ((fy).toInt64 - (y).toInt64))) then 0 else 1) : Int32) = 0 then false else (if ((if ((((ox).toInt64 - (x).toInt64) * ((wy).toInt64 - (y).toInt64)) - (((oy).toInt64 - (y).toInt64) * ((wx).toInt64 - (x).toInt64))) ≤ 0 then 0 else 1) : Int32) = 0 then false else true)) else (if ((if ((((ox).toInt64 - (x).toInt64) * ((wy).toInt64 - (y).toInt64)) - (((oy).toInt64 - (y).toInt64) * ((wx).toInt64 - (x).toInt64))) ≤ 0 then 0 else 1) : Int32) = 0 then (if ((if ((((wx).toInt64 - (x).toInt64) * ((fy).toInt64 - (y).toInt64)) - (((wy).toInt64 - (y).toInt64) * ((fx).toInt64 - (x).toInt64))) ≤ 0 then 0 else 1) : Int32) = 0 then false else true) else true)) else (if ((if ((((ox).toInt64 - (x).toInt64) * ((wy).toInt64 - (y).toInt64)) - (((oy).toInt64 - (y).toInt64) * ((wx).toInt64 - (x).toInt64))) ≤ 0 then 0 else 1) : Int32) = 0 then false else (if ((if ((((wx).toInt64 - (x).toInt64) * ((fy).toInt64 - (y).toInt64)) - (((wy).toInt64 - (y).toInt64) * ((fx).toInt64 - (x).toInt64))) ≤ 0 then 0 else 1) : Int32) = 0 then false else true)))
theorem sgLeft_e {fx fy tx ty tx2 ty2 x y wx wy : Int32} : sgLeft fx fy tx ty tx2 ty2 x y wx wy = if tx = x ∧ ty = y then sgLe tx2 ty2 fx fy x y wx wy else sgLe tx ty fx fy x y wx wy := by
  by_cases h1 : tx = x
  · by_cases h2 : ty = y
    · rw [if_pos (show tx = x ∧ ty = y from ⟨h1, h2⟩)]; unfold sgLeft sgLe; rw [if_pos h1, if_pos h2]
    · rw [if_neg (show ¬ (tx = x ∧ ty = y) from fun h => h2 h.2)]; unfold sgLeft sgLe; rw [if_pos h1, if_neg h2]
  · rw [if_neg (show ¬ (tx = x ∧ ty = y) from fun h => h1 h.1)]; unfold sgLeft sgLe; rw [if_neg h1]
theorem if01 {P : Prop} [Decidable P] : ((if P then 0 else 1 : Int32) = 0) ↔ P := by by_cases h : P <;> simp [h]
theorem sgLe_i {ox oy fx fy x y wx wy : Int32} (b1 : bd ox) (b2 : bd oy) (b3 : bd fx) (b4 : bd fy) (b5 : bd x) (b6 : bd y) (b7 : bd wx) (b8 : bd wy) (ho : ¬ (ox = x ∧ oy = y)) (hf : ¬ (fx = x ∧ fy = y)) :
    sgLe ox oy fx fy x y wx wy = ilf (wx - x) (wy - y) (ox - x) (oy - y) (fx - x) (fy - y) := by
  have t1 := crs_e b1 b2 b3 b4 b5 b6
  have t2 := crs_d b1 b2 b3 b4 b5 b6
  have a1 := crs_e b1 b2 b7 b8 b5 b6
  have a2 := crs_d b1 b2 b7 b8 b5 b6
  have c1 := crs_e b7 b8 b3 b4 b5 b6
  have c2 := crs_d b7 b8 b3 b4 b5 b6
  have d1 := dot_e b1 b2 b3 b4 b5 b6
  have hss : ∀ {P Q : Prop} [Decidable P] [Decidable Q], (((if P then (if Q then 0 else 1) else 1 : Int32)) = 0) ↔ (P ∧ Q) := by
    intro P Q _ _; by_cases h1 : P <;> by_cases h2 : Q <;> simp [h1, h2]
  have hx9 := sgn_ss (u := (ox - x).toInt64) (v := (fx - x).toInt64)
  have hy9 := sgn_ss (u := (oy - y).toInt64) (v := (fy - y).toInt64)
  rw [dif64 b1 b5, dif64 b3 b5] at hx9
  rw [dif64 b2 b6, dif64 b4 b6] at hy9
  have hop : (ox.toInt - x.toInt) * (fy.toInt - y.toInt) - (oy.toInt - y.toInt) * (fx.toInt - x.toInt) = 0 → ((ox.toInt - x.toInt) * (fx.toInt - x.toInt) + (oy.toInt - y.toInt) * (fy.toInt - y.toInt) < 0 ↔ ¬ (sgn (ox - x).toInt64 = sgn (fx - x).toInt64 ∧ sgn (oy - y).toInt64 = sgn (fy - y).toInt64)) := by
    intro h0
    rw [hx9, hy9]
    exact opp_t (ox := ox.toInt - x.toInt) (oy := oy.toInt - y.toInt) (kx := fx.toInt - x.toInt) (ky := fy.toInt - y.toInt) h0 (fun h => ho (by rw [i32_eq, i32_eq]; omega)) (fun h => hf (by rw [i32_eq, i32_eq]; omega))
  unfold sgLe ilf crs
  simp only [if01, hss, i64_le, i64_ge, sgn_p, sgn_q, sgn_r, t1, t2, a1, a2, c1, c2, d1]
  generalize (ox.toInt - x.toInt) * (fy.toInt - y.toInt) - (oy.toInt - y.toInt) * (fx.toInt - x.toInt) = T at hop ⊢
  generalize (ox.toInt - x.toInt) * (wy.toInt - y.toInt) - (oy.toInt - y.toInt) * (wx.toInt - x.toInt) = A
  generalize (wx.toInt - x.toInt) * (fy.toInt - y.toInt) - (wy.toInt - y.toInt) * (fx.toInt - x.toInt) = B
  generalize (ox.toInt - x.toInt) * (fx.toInt - x.toInt) + (oy.toInt - y.toInt) * (fy.toInt - y.toInt) = E at hop ⊢
  by_cases h1 : T ≤ 0
  · rw [if_pos h1, if_pos h1]
    by_cases h2 : 0 ≤ T
    · rw [if_pos h2, if_pos h2]
      have hop := hop (by omega)
      by_cases h3 : 0 ≤ E
      · rw [if_pos h3, if_pos (Classical.byContradiction fun h9 => by have := hop.mpr h9; omega)]
      · rw [if_neg h3, if_neg (hop.mp (by omega))]
    · rw [if_neg h2, if_neg h2]
      by_cases h3 : A ≤ 0
      · rw [if_pos h3, if_neg (show ¬ 0 < A by omega)]
      · rw [if_neg h3, if_pos (show 0 < A by omega)]
  · rw [if_neg h1, if_neg h1]

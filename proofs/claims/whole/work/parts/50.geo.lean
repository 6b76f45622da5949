/-! geometry of whole numbers -/
def sd (fx fy tx ty x y : Int) : Int := (tx - fx) * (y - fy) - (ty - fy) * (x - fx)
theorem aff_x {f1x f1y t1x t1y f2x f2y t2x t2y cx cy : Int} (h : sd f2x f2y t2x t2y cx cy = 0) : sd f1x f1y t1x t1y f2x f2y * (t2x - cx) + sd f1x f1y t1x t1y t2x t2y * (cx - f2x) = (t2x - f2x) * sd f1x f1y t1x t1y cx cy := by unfold sd at *; grind
theorem aff_y {f1x f1y t1x t1y f2x f2y t2x t2y cx cy : Int} (h : sd f2x f2y t2x t2y cx cy = 0) : sd f1x f1y t1x t1y f2x f2y * (t2y - cy) + sd f1x f1y t1x t1y t2x t2y * (cy - f2y) = (t2y - f2y) * sd f1x f1y t1x t1y cx cy := by unfold sd at *; grind
theorem uniq_x {f1x f1y t1x t1y f2x f2y t2x t2y ax ay bx bY : Int} (h1 : sd f1x f1y t1x t1y ax ay = 0) (h2 : sd f2x f2y t2x t2y ax ay = 0) (h3 : sd f1x f1y t1x t1y bx bY = 0) (h4 : sd f2x f2y t2x t2y bx bY = 0) : (sd f1x f1y t1x t1y f2x f2y - sd f1x f1y t1x t1y t2x t2y) * (ax - bx) = 0 ∧ (sd f1x f1y t1x t1y f2x f2y - sd f1x f1y t1x t1y t2x t2y) * (ay - bY) = 0 := by unfold sd at *; constructor <;> grind
theorem bmod64 {a : Int} (h1 : -9223372036854775808 ≤ a) (h2 : a < 9223372036854775808) : a.bmod (2 ^ 64) = a := Int.bmod_eq_of_le (by omega) (by omega)
theorem mul_b {a b : Int} (ha : -2000000000 ≤ a ∧ a ≤ 2000000000) (hb : -2000000000 ≤ b ∧ b ≤ 2000000000) : -4000000000000000000 ≤ a * b ∧ a * b ≤ 4000000000000000000 := by
  have e1 : 0 ≤ (2000000000 - a) * (2000000000 + b) := Int.mul_nonneg (by omega) (by omega)
  have e2 : 0 ≤ (2000000000 + a) * (2000000000 - b) := Int.mul_nonneg (by omega) (by omega)
  have e3 : 0 ≤ (2000000000 - a) * (2000000000 - b) := Int.mul_nonneg (by omega) (by omega)
  have e4 : 0 ≤ (2000000000 + a) * (2000000000 + b) := Int.mul_nonneg (by omega) (by omega)
  constructor <;> grind
def bd (v : Int32) : Prop := -1000000000 ≤ v.toInt ∧ v.toInt ≤ 1000000000
theorem sub64 {a b : Int32} (ha : bd a) (hb : bd b) : (a.toInt64 - b.toInt64).toInt = a.toInt - b.toInt := by
  rw [Int64.toInt_sub, Int32.toInt_toInt64, Int32.toInt_toInt64]; unfold bd at *; exact bmod64 (by omega) (by omega)
theorem mul64 {a b : Int64} (ha : -2000000000 ≤ a.toInt ∧ a.toInt ≤ 2000000000) (hb : -2000000000 ≤ b.toInt ∧ b.toInt ≤ 2000000000) : (a * b).toInt = a.toInt * b.toInt := by
  have := mul_b ha hb
  rw [Int64.toInt_mul]; exact bmod64 (by omega) (by omega)
theorem crs64 {a b c d : Int64} (ha : -2000000000 ≤ a.toInt ∧ a.toInt ≤ 2000000000) (hb : -2000000000 ≤ b.toInt ∧ b.toInt ≤ 2000000000) (hc : -2000000000 ≤ c.toInt ∧ c.toInt ≤ 2000000000) (hd : -2000000000 ≤ d.toInt ∧ d.toInt ≤ 2000000000) : (a * b - c * d).toInt = a.toInt * b.toInt - c.toInt * d.toInt := by
  have h1 := mul_b ha hb
  have h2 := mul_b hc hd
  rw [Int64.toInt_sub, mul64 ha hb, mul64 hc hd]; exact bmod64 (by omega) (by omega)
theorem sgSide_i {fx fy tx ty x y : Int32} (h1 : bd fx) (h2 : bd fy) (h3 : bd tx) (h4 : bd ty) (h5 : bd x) (h6 : bd y) : (sgSide fx fy tx ty x y).toInt = sd fx.toInt fy.toInt tx.toInt ty.toInt x.toInt y.toInt := by
  unfold sgSide sd
  rw [crs64 (by rw [sub64 h3 h1]; unfold bd at *; omega) (by rw [sub64 h6 h2]; unfold bd at *; omega) (by rw [sub64 h4 h2]; unfold bd at *; omega) (by rw [sub64 h5 h1]; unfold bd at *; omega), sub64 h3 h1, sub64 h6 h2, sub64 h4 h2, sub64 h5 h1]
theorem i64_le {v : Int64} : v ≤ 0 ↔ v.toInt ≤ 0 := by rw [Int64.le_iff_toInt_le]; rfl
theorem i64_ge {v : Int64} : 0 ≤ v ↔ 0 ≤ v.toInt := by rw [Int64.le_iff_toInt_le]; rfl
theorem i64_lt {v : Int64} : v < 0 ↔ v.toInt < 0 := by rw [Int64.lt_iff_toInt_lt]; rfl
theorem i64_gt {v : Int64} : 0 < v ↔ 0 < v.toInt := by rw [Int64.lt_iff_toInt_lt]; rfl
theorem i64_0 {v : Int64} : v = 0 ↔ v.toInt = 0 := by rw [← Int64.toInt_inj]; rfl
theorem sgn_c (v : Int64) : v.toInt < 0 ∧ sgn v = -1 ∨ v.toInt = 0 ∧ sgn v = 0 ∨ 0 < v.toInt ∧ sgn v = 1 := by
  unfold sgn
  by_cases h1 : v ≤ 0
  · rw [if_pos h1]
    by_cases h2 : 0 ≤ v
    · rw [if_pos h2]; rw [i64_le] at h1; rw [i64_ge] at h2; exact Or.inr (Or.inl ⟨by omega, rfl⟩)
    · rw [if_neg h2]; rw [i64_ge] at h2; exact Or.inl ⟨by omega, rfl⟩
  · rw [if_neg h1]; rw [i64_le] at h1; exact Or.inr (Or.inr ⟨by omega, rfl⟩)
def btI (v a b : Int) : Prop := a ≤ v ∧ v ≤ b ∨ b ≤ v ∧ v ≤ a
def onS (fx fy tx ty x y : Int) : Prop := sd fx fy tx ty x y = 0 ∧ btI x fx tx ∧ btI y fy ty
def one2 (u v : Int) : Prop := 0 < u ∧ 0 < v ∨ u < 0 ∧ v < 0
theorem wz {p q d e : Int} (hp : 0 < p) (hq : 0 < q) (h : p * d + q * e = 0) (hde : 0 ≤ d ∧ 0 ≤ e ∨ d ≤ 0 ∧ e ≤ 0) : d = 0 ∧ e = 0 := by
  rcases hde with ⟨h1, h2⟩ | ⟨h1, h2⟩
  · have e1 := Int.mul_nonneg (Int.le_of_lt hp) h1
    have e2 := Int.mul_nonneg (Int.le_of_lt hq) h2
    constructor
    · apply Classical.byContradiction; intro h3
      have := Int.mul_pos hp (show 0 < d by omega); omega
    · apply Classical.byContradiction; intro h3
      have := Int.mul_pos hq (show 0 < e by omega); omega
  · have e1 := Int.mul_nonneg (Int.le_of_lt hp) (show 0 ≤ -d by omega)
    have e2 := Int.mul_nonneg (Int.le_of_lt hq) (show 0 ≤ -e by omega)
    rw [Int.mul_neg] at e1 e2
    constructor
    · apply Classical.byContradiction; intro h3
      have := Int.mul_pos hp (show 0 < -d by omega); rw [Int.mul_neg] at this; omega
    · apply Classical.byContradiction; intro h3
      have := Int.mul_pos hq (show 0 < -e by omega); rw [Int.mul_neg] at this; omega
theorem wz2 {p q d e : Int} (hs : one2 p q) (h : p * d + q * e = 0) (hde : 0 ≤ d ∧ 0 ≤ e ∨ d ≤ 0 ∧ e ≤ 0) : d = 0 ∧ e = 0 := by
  rcases hs with ⟨h1, h2⟩ | ⟨h1, h2⟩
  · exact wz h1 h2 h hde
  · exact wz (p := -p) (q := -q) (by omega) (by omega) (by rw [Int.neg_mul, Int.neg_mul]; omega) hde
/-- a point of the second segment on the first one's line: that one's ends are not on one side -/
theorem no_one {f1x f1y t1x t1y f2x f2y t2x t2y cx cy : Int} (h : onS f2x f2y t2x t2y cx cy) (hc : sd f1x f1y t1x t1y cx cy = 0) (nd : ¬ (f2x = t2x ∧ f2y = t2y)) : ¬ one2 (sd f1x f1y t1x t1y f2x f2y) (sd f1x f1y t1x t1y t2x t2y) := by
  intro hs
  obtain ⟨h1, h2, h3⟩ := h
  have ex := aff_x (f1x := f1x) (f1y := f1y) (t1x := t1x) (t1y := t1y) h1
  have ey := aff_y (f1x := f1x) (f1y := f1y) (t1x := t1x) (t1y := t1y) h1
  rw [hc, Int.mul_zero] at ex ey
  have a1 := wz2 hs ex (by unfold btI at h2; omega)
  have a2 := wz2 hs ey (by unfold btI at h3; omega)
  exact nd ⟨by omega, by omega⟩
theorem btI_of {p q t c f : Int} (h : p * (t - c) + q * (c - f) = 0) (hs : ¬ one2 p q) (hz : ¬ (p = 0 ∧ q = 0)) : btI c f t := by
  apply Classical.byContradiction
  intro hb
  unfold btI at hb
  unfold one2 at hs
  have h1 : (0 < t - c ∧ 0 < f - c) ∨ (0 < c - t ∧ 0 < c - f) := by omega
  rcases h1 with ⟨h1, h2⟩ | ⟨h1, h2⟩
  · rcases Int.lt_trichotomy p 0 with hp | hp | hp
    · have e1 := Int.mul_pos (show 0 < -p by omega) h1
      have e2 := Int.mul_nonneg (show 0 ≤ q by omega) (Int.le_of_lt h2)
      grind
    · subst hp
      rcases Int.lt_trichotomy q 0 with hq | hq | hq
      · have e1 := Int.mul_pos (show 0 < -q by omega) h2; grind
      · exact hz ⟨rfl, hq⟩
      · have e1 := Int.mul_pos hq h2; grind
    · have e1 := Int.mul_pos hp h1
      have e2 := Int.mul_nonneg (show 0 ≤ -q by omega) (Int.le_of_lt h2)
      grind
  · rcases Int.lt_trichotomy p 0 with hp | hp | hp
    · have e1 := Int.mul_pos (show 0 < -p by omega) h1
      have e2 := Int.mul_nonneg (show 0 ≤ q by omega) (Int.le_of_lt h2)
      grind
    · subst hp
      rcases Int.lt_trichotomy q 0 with hq | hq | hq
      · have e1 := Int.mul_pos (show 0 < -q by omega) h2; grind
      · exact hz ⟨rfl, hq⟩
      · have e1 := Int.mul_pos hq h2; grind
    · have e1 := Int.mul_pos hp h1
      have e2 := Int.mul_nonneg (show 0 ≤ -q by omega) (Int.le_of_lt h2)
      grind
theorem sd_D (f1x f1y t1x t1y f2x f2y t2x t2y : Int) : sd f2x f2y t2x t2y f1x f1y - sd f2x f2y t2x t2y t1x t1y + sd f1x f1y t1x t1y f2x f2y - sd f1x f1y t1x t1y t2x t2y = 0 := by unfold sd; grind
theorem sd_f (fx fy tx ty : Int) : sd fx fy tx ty fx fy = 0 := by unfold sd; grind
theorem sd_t (fx fy tx ty : Int) : sd fx fy tx ty tx ty = 0 := by unfold sd; grind
theorem onS_f (fx fy tx ty : Int) : onS fx fy tx ty fx fy := ⟨sd_f _ _ _ _, by unfold btI; omega, by unfold btI; omega⟩
theorem onS_t (fx fy tx ty : Int) : onS fx fy tx ty tx ty := ⟨sd_t _ _ _ _, by unfold btI; omega, by unfold btI; omega⟩
/-- a point of both lines is on the first segment, if its ends are not on one side of the second line -/
theorem on_of {f1x f1y t1x t1y f2x f2y t2x t2y cx cy : Int} (h1 : sd f1x f1y t1x t1y cx cy = 0) (h2 : sd f2x f2y t2x t2y cx cy = 0) (hs : ¬ one2 (sd f2x f2y t2x t2y f1x f1y) (sd f2x f2y t2x t2y t1x t1y)) (hz : ¬ (sd f2x f2y t2x t2y f1x f1y = 0 ∧ sd f2x f2y t2x t2y t1x t1y = 0)) : onS f1x f1y t1x t1y cx cy := by
  have ex := aff_x (f1x := f2x) (f1y := f2y) (t1x := t2x) (t1y := t2y) h1
  have ey := aff_y (f1x := f2x) (f1y := f2y) (t1x := t2x) (t1y := t2y) h1
  rw [h2, Int.mul_zero] at ex ey
  exact ⟨h1, btI_of ex hs hz, btI_of ey hs hz⟩
theorem uniq {f1x f1y t1x t1y f2x f2y t2x t2y ax ay bx bY : Int} (hD : ¬ sd f1x f1y t1x t1y f2x f2y = sd f1x f1y t1x t1y t2x t2y) (h1 : sd f1x f1y t1x t1y ax ay = 0) (h2 : sd f2x f2y t2x t2y ax ay = 0) (h3 : sd f1x f1y t1x t1y bx bY = 0) (h4 : sd f2x f2y t2x t2y bx bY = 0) : ax = bx ∧ ay = bY := by
  obtain ⟨e1, e2⟩ := uniq_x h1 h2 h3 h4
  rw [Int.mul_eq_zero] at e1 e2
  omega
theorem wt_1 {p q o r a b c d m : Int} (h : p * (a - m) - q * (b - m) + o * (c - m) - r * (d - m) = 0) (hp : 0 < p) (hq : q < 0) (ho : o < 0) (hr : 0 < r) (h1 : a < m) (h2 : b < m) (h3 : m ≤ c) (h4 : m ≤ d) : False := by
  have e1 : 0 < p * (m - a) := Int.mul_pos hp (by omega)
  have e2 : 0 < (-q) * (m - b) := Int.mul_pos (by omega) (by omega)
  have e3 : 0 ≤ (-o) * (c - m) := Int.mul_nonneg (by omega) (by omega)
  have e4 : 0 ≤ r * (d - m) := Int.mul_nonneg (by omega) (by omega)
  grind
theorem wt_2 {p q o r a b c d m : Int} (h : p * (a - m) - q * (b - m) + o * (c - m) - r * (d - m) = 0) (hp : 0 < p ∧ q < 0 ∧ o < 0 ∧ 0 < r ∨ p < 0 ∧ 0 < q ∧ 0 < o ∧ r < 0) (h1 : a < m) (h2 : b < m) (h3 : m ≤ c) (h4 : m ≤ d) : False := by
  rcases hp with ⟨p1, p2, p3, p4⟩ | ⟨p1, p2, p3, p4⟩
  · exact wt_1 h p1 p2 p3 p4 h1 h2 h3 h4
  · exact wt_1 (p := -p) (q := -q) (o := -o) (r := -r) (by grind) (by omega) (by omega) (by omega) (by omega) h1 h2 h3 h4
theorem wt_3 {p q o r a b c d m : Int} (h : p * (a - m) - q * (b - m) + o * (c - m) - r * (d - m) = 0) (hp : 0 < p ∧ q < 0 ∧ o < 0 ∧ 0 < r ∨ p < 0 ∧ 0 < q ∧ 0 < o ∧ r < 0) (h1 : m < a) (h2 : m < b) (h3 : c ≤ m) (h4 : d ≤ m) : False :=
  wt_2 (p := p) (q := q) (o := o) (r := r) (a := -a) (b := -b) (c := -c) (d := -d) (m := -m) (by grind) hp (by omega) (by omega) (by omega) (by omega)
theorem sd_id1 (f1x f1y t1x t1y f2x f2y t2x t2y m : Int) : sd f2x f2y t2x t2y f1x f1y * (t1x - m) - sd f2x f2y t2x t2y t1x t1y * (f1x - m) + sd f1x f1y t1x t1y f2x f2y * (t2x - m) - sd f1x f1y t1x t1y t2x t2y * (f2x - m) = 0 := by unfold sd; grind
theorem sd_id2 (f1x f1y t1x t1y f2x f2y t2x t2y m : Int) : sd f2x f2y t2x t2y f1x f1y * (t1y - m) - sd f2x f2y t2x t2y t1x t1y * (f1y - m) + sd f1x f1y t1x t1y f2x f2y * (t2y - m) - sd f1x f1y t1x t1y t2x t2y * (f2y - m) = 0 := by unfold sd; grind
/-- the boxes of two segments are apart -/
def apX (f1 t1 f2 t2 : Int) : Prop := (f1 < f2 ∧ f1 < t2 ∧ t1 < f2 ∧ t1 < t2) ∨ (f2 < f1 ∧ f2 < t1 ∧ t2 < f1 ∧ t2 < t1)
/-- segments that cross have boxes that are not apart -/
theorem cross_ap {f1x f1y t1x t1y f2x f2y t2x t2y : Int} (h1 : (0 < sd f1x f1y t1x t1y f2x f2y ∧ sd f1x f1y t1x t1y t2x t2y < 0) ∨ (sd f1x f1y t1x t1y f2x f2y < 0 ∧ 0 < sd f1x f1y t1x t1y t2x t2y)) (h2 : (0 < sd f2x f2y t2x t2y f1x f1y ∧ sd f2x f2y t2x t2y t1x t1y < 0) ∨ (sd f2x f2y t2x t2y f1x f1y < 0 ∧ 0 < sd f2x f2y t2x t2y t1x t1y)) : ¬ apX f1x t1x f2x t2x ∧ ¬ apX f1y t1y f2y t2y := by
  have hD := sd_D f1x f1y t1x t1y f2x f2y t2x t2y
  have hp : 0 < sd f2x f2y t2x t2y f1x f1y ∧ sd f2x f2y t2x t2y t1x t1y < 0 ∧ sd f1x f1y t1x t1y f2x f2y < 0 ∧ 0 < sd f1x f1y t1x t1y t2x t2y ∨ sd f2x f2y t2x t2y f1x f1y < 0 ∧ 0 < sd f2x f2y t2x t2y t1x t1y ∧ 0 < sd f1x f1y t1x t1y f2x f2y ∧ sd f1x f1y t1x t1y t2x t2y < 0 := by omega
  constructor
  · rintro (⟨a1, a2, a3, a4⟩ | ⟨a1, a2, a3, a4⟩)
    · by_cases hm : f2x ≤ t2x
      · exact wt_2 (sd_id1 f1x f1y t1x t1y f2x f2y t2x t2y f2x) hp a3 a1 hm (Int.le_refl _)
      · exact wt_2 (sd_id1 f1x f1y t1x t1y f2x f2y t2x t2y t2x) hp a4 a2 (Int.le_refl _) (by omega)
    · by_cases hm : f2x ≤ t2x
      · exact wt_3 (sd_id1 f1x f1y t1x t1y f2x f2y t2x t2y t2x) hp a4 a3 (Int.le_refl _) hm
      · exact wt_3 (sd_id1 f1x f1y t1x t1y f2x f2y t2x t2y f2x) hp a2 a1 (by omega) (Int.le_refl _)
  · rintro (⟨a1, a2, a3, a4⟩ | ⟨a1, a2, a3, a4⟩)
    · by_cases hm : f2y ≤ t2y
      · exact wt_2 (sd_id2 f1x f1y t1x t1y f2x f2y t2x t2y f2y) hp a3 a1 hm (Int.le_refl _)
      · exact wt_2 (sd_id2 f1x f1y t1x t1y f2x f2y t2x t2y t2y) hp a4 a2 (Int.le_refl _) (by omega)
    · by_cases hm : f2y ≤ t2y
      · exact wt_3 (sd_id2 f1x f1y t1x t1y f2x f2y t2x t2y t2y) hp a4 a3 (Int.le_refl _) hm
      · exact wt_3 (sd_id2 f1x f1y t1x t1y f2x f2y t2x t2y f2y) hp a2 a1 (by omega) (Int.le_refl _)

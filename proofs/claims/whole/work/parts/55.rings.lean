/-! a ring's segments and steps -/
section
variable {X Y : Nat → Int32} {po : Nat}
theorem cnt_lt {k K : Nat} (hk : k < K) (hs : mSeg X Y (po + k) = true) : cntS X Y po k < cntS X Y po K := by
  have h1 : cntS X Y po (k + 1) = cntS X Y po k + 1 := cntS_s (mSeg_sm.mp hs)
  have h2 := cntS_m (X := X) (Y := Y) (po := po) (j := k + 1) (k := K) hk
  omega
theorem cnt_inj {k j : Nat} (hk : mSeg X Y (po + k) = true) (hj : mSeg X Y (po + j) = true) (h : cntS X Y po k = cntS X Y po j) : k = j := by
  rcases Nat.lt_trichotomy k j with h1 | h1 | h1
  · have := cnt_lt h1 hk; omega
  · exact h1
  · have := cnt_lt h1 hj; omega
theorem cnt_sur {K i : Nat} (hi : i < cntS X Y po K) : ∃ k, k < K ∧ mSeg X Y (po + k) = true ∧ cntS X Y po k = i := by
  induction K with
  | zero => exact absurd hi (Nat.not_lt_zero _)
  | succ K ih =>
    by_cases hs : mSeg X Y (po + K) = true
    · have h1 : cntS X Y po (K + 1) = cntS X Y po K + 1 := cntS_s (mSeg_sm.mp hs)
      by_cases h2 : i = cntS X Y po K
      · exact ⟨K, by omega, hs, h2.symm⟩
      · obtain ⟨k, h3, h4, h5⟩ := ih (by omega)
        exact ⟨k, by omega, h4, h5⟩
    · rw [show cntS X Y po (K + 1) = cntS X Y po K from cntS_k (mSeg_sf.mp (eq_false_of_ne_true hs))] at hi
      obtain ⟨k, h3, h4, h5⟩ := ih hi
      exact ⟨k, by omega, h4, h5⟩
theorem en_any {K : Nat} {F : Nat → Bool} : anyB (cntS X Y po K) F = anyB K (fun k => mSeg X Y (po + k) && F (cntS X Y po k)) := by
  rw [Bool.eq_iff_iff, anyB_iff, anyB_iff]
  constructor
  · rintro ⟨i, h1, h2⟩
    obtain ⟨k, h3, h4, h5⟩ := cnt_sur h1
    exact ⟨k, h3, by rw [h4, h5, h2]; rfl⟩
  · rintro ⟨k, h1, h2⟩
    rw [Bool.and_eq_true] at h2
    exact ⟨_, cnt_lt h1 h2.1, h2.2⟩
theorem en_par {K : Nat} {F : Nat → Bool} : parB (cntS X Y po K) F = parB K (fun k => mSeg X Y (po + k) && F (cntS X Y po k)) := by
  induction K with
  | zero => rfl
  | succ K ih =>
    by_cases hs : mSeg X Y (po + K) = true
    · rw [show cntS X Y po (K + 1) = cntS X Y po K + 1 from cntS_s (mSeg_sm.mp hs), parB, parB, ih, hs, Bool.true_and]
    · have hs := eq_false_of_ne_true hs
      rw [show cntS X Y po (K + 1) = cntS X Y po K from cntS_k (mSeg_sf.mp hs), parB, ih, hs, Bool.false_and, if_pos rfl]
theorem en_fO {α : Type} {K : Nat} {G : Nat → Option α} : firstO (cntS X Y po K) G = firstO K (fun k => if mSeg X Y (po + k) = false then none else G (cntS X Y po k)) := by
  induction K with
  | zero => rfl
  | succ K ih =>
    by_cases hs : mSeg X Y (po + K) = true
    · rw [show cntS X Y po (K + 1) = cntS X Y po K + 1 from cntS_s (mSeg_sm.mp hs), firstO, firstO, ih, if_neg (by rw [hs]; decide)]
    · have hs := eq_false_of_ne_true hs
      rw [show cntS X Y po (K + 1) = cntS X Y po K from cntS_k (mSeg_sf.mp hs), firstO, ih, if_pos hs]
      cases firstO K (fun k => if mSeg X Y (po + k) = false then none else G (cntS X Y po k)) <;> rfl
theorem en_fB {K : Nat} {F : Nat → Bool} : firstB (cntS X Y po K) F = (firstB K (fun k => mSeg X Y (po + k) && F (cntS X Y po k))).map (cntS X Y po) := by
  induction K with
  | zero => rfl
  | succ K ih =>
    by_cases hs : mSeg X Y (po + K) = true
    · rw [show cntS X Y po (K + 1) = cntS X Y po K + 1 from cntS_s (mSeg_sm.mp hs), firstB, firstB, ih, hs, Bool.true_and]
      cases firstB K (fun k => mSeg X Y (po + k) && F (cntS X Y po k)) with
      | some i => rfl
      | none => cases F (cntS X Y po K) <;> rfl
    · have hs := eq_false_of_ne_true hs
      rw [show cntS X Y po (K + 1) = cntS X Y po K from cntS_k (mSeg_sf.mp hs), firstB, ih, hs, Bool.false_and]
      cases firstB K (fun k => mSeg X Y (po + k) && F (cntS X Y po k)) <;> rfl
/-- the box round the steps holds their ends -/
theorem bb_in {k K : Nat} (hk : k < K) (hs : mSeg X Y (po + k) = true) :
    ((bbS X Y po K 0).toInt ≤ (X (po + k)).toInt ∧ (bbS X Y po K 0).toInt ≤ (X (po + k + 1)).toInt ∧ (bbS X Y po K 1).toInt ≤ (Y (po + k)).toInt ∧ (bbS X Y po K 1).toInt ≤ (Y (po + k + 1)).toInt) ∧
    ((X (po + k)).toInt ≤ (bbS X Y po K 2).toInt ∧ (X (po + k + 1)).toInt ≤ (bbS X Y po K 2).toInt ∧ (Y (po + k)).toInt ≤ (bbS X Y po K 3).toInt ∧ (Y (po + k + 1)).toInt ≤ (bbS X Y po K 3).toInt) := by
  induction K with
  | zero => exact absurd hk (Nat.not_lt_zero _)
  | succ K ih =>
    have hL : ∀ a b c : Int32, (iMin (iMin a b) c).toInt ≤ a.toInt ∧ (iMin (iMin a b) c).toInt ≤ b.toInt ∧ (iMin (iMin a b) c).toInt ≤ c.toInt := by
      intro a b c; rw [iMin_les, iMin_les]; have := les_s (les a b) c; have := les_s a b; omega
    have hM : ∀ a b c : Int32, a.toInt ≤ (iMax (iMax a b) c).toInt ∧ b.toInt ≤ (iMax (iMax a b) c).toInt ∧ c.toInt ≤ (iMax (iMax a b) c).toInt := by
      intro a b c; rw [iMax_mor, iMax_mor]; have := mor_s (mor a b) c; have := mor_s a b; omega
    by_cases hK : mSeg X Y (po + K) = true
    · rw [bbS_a (mSeg_sm.mp hK)]
      have l0 := hL (bbS X Y po K 0) (X (po + K)) (X (po + K + 1))
      have l1 := hL (bbS X Y po K 1) (Y (po + K)) (Y (po + K + 1))
      have m2 := hM (bbS X Y po K 2) (X (po + K)) (X (po + K + 1))
      have m3 := hM (bbS X Y po K 3) (Y (po + K)) (Y (po + K + 1))
      show ((iMin (iMin (bbS X Y po K 0) (X (po + K))) (X (po + K + 1))).toInt ≤ _ ∧ (iMin (iMin (bbS X Y po K 0) (X (po + K))) (X (po + K + 1))).toInt ≤ _ ∧ (iMin (iMin (bbS X Y po K 1) (Y (po + K))) (Y (po + K + 1))).toInt ≤ _ ∧ (iMin (iMin (bbS X Y po K 1) (Y (po + K))) (Y (po + K + 1))).toInt ≤ _) ∧ (_ ≤ (iMax (iMax (bbS X Y po K 2) (X (po + K))) (X (po + K + 1))).toInt ∧ _ ≤ (iMax (iMax (bbS X Y po K 2) (X (po + K))) (X (po + K + 1))).toInt ∧ _ ≤ (iMax (iMax (bbS X Y po K 3) (Y (po + K))) (Y (po + K + 1))).toInt ∧ _ ≤ (iMax (iMax (bbS X Y po K 3) (Y (po + K))) (Y (po + K + 1))).toInt)
      by_cases e : k = K
      · subst e; omega
      · have := ih (by omega); omega
    · rw [bbS_k (mSeg_sf.mp (eq_false_of_ne_true hK))]
      by_cases e : k = K
      · subst e; exact absurd hs hK
      · exact ih (by omega)
end
theorem bxHas_t {b0 b1 b2 b3 x y : Int32} : bxHas b0 b1 b2 b3 x y = true ↔ b0.toInt ≤ x.toInt ∧ x.toInt ≤ b2.toInt ∧ b1.toInt ≤ y.toInt ∧ y.toInt ≤ b3.toInt := by
  unfold bxHas
  by_cases h1 : x < b0
  · rw [if_pos h1]; rw [i32_lt] at h1; simp; omega
  · rw [if_neg h1]
    by_cases h2 : b2 < x
    · rw [if_pos h2]; rw [i32_lt] at h2; simp; omega
    · rw [if_neg h2]
      by_cases h3 : y < b1
      · rw [if_pos h3]; rw [i32_lt] at h3; simp; omega
      · rw [if_neg h3]
        by_cases h4 : b3 < y
        · rw [if_pos h4]; rw [i32_lt] at h4; simp; omega
        · rw [if_neg h4]; rw [i32_lt] at h1 h2 h3 h4; simp; omega
theorem bt_ml {x a b : Int32} : btI x.toInt a.toInt b.toInt ↔ (les a b).toInt ≤ x.toInt ∧ x.toInt ≤ (mor a b).toInt := by
  have h1 := les_s a b; have h2 := mor_s a b; unfold btI; omega
section
variable {np : Nat} {X Y : Nat → Int32} {po k : Nat} {x y : Int32}
/-- a segment passes where the model says so -/
theorem sP_e (hB : bdd np X Y) (hk : po + k + 1 < np) (hx : bd x) (hy : bd y) : sP (sgv X Y po k) x y = mOn X Y x y (po + k) := by
  rw [Bool.eq_iff_iff, mOn_t hB hk hx hy]
  unfold sP
  show sgPasses (X (po + k)) (Y (po + k)) (X (po + k + 1)) (Y (po + k + 1)) (iMin (iMin 1000000000 (X (po + k))) (X (po + k + 1))) (iMin (iMin 1000000000 (Y (po + k))) (Y (po + k + 1))) (iMax (iMax (-1000000000) (X (po + k))) (X (po + k + 1))) (iMax (iMax (-1000000000) (Y (po + k))) (Y (po + k + 1))) x y = true ↔ _
  have hP := hB (po + k) (by omega)
  rw [box_lo hP.1, box_lo hP.2, box_hi hP.1, box_hi hP.2]
  unfold sgPasses onX onS
  rw [bt_ml, bt_ml]
  have hs := side_i hB hk hx hy
  have hz : sgSide (X (po + k)) (Y (po + k)) (X (po + k + 1)) (Y (po + k + 1)) x y = 0 ↔ sdX X Y (po + k) x y = 0 := by rw [i64_0, hs]
  by_cases h1 : bxHas (les (X (po + k)) (X (po + k + 1))) (les (Y (po + k)) (Y (po + k + 1))) (mor (X (po + k)) (X (po + k + 1))) (mor (Y (po + k)) (Y (po + k + 1))) x y = false
  · rw [if_pos h1]
    refine ⟨fun h => absurd h (by decide), fun h => ?_⟩
    rw [bxHas_t.mpr ⟨h.2.1.1, h.2.1.2, h.2.2.1, h.2.2.2⟩] at h1; cases h1
  · rw [if_neg h1]
    have h2 := bxHas_t.mp (eq_true_of_ne_false h1)
    by_cases h3 : sgSide (X (po + k)) (Y (po + k)) (X (po + k + 1)) (Y (po + k + 1)) x y = 0
    · rw [if_pos h3]; exact ⟨fun _ => ⟨hz.mp h3, ⟨h2.1, h2.2.1⟩, h2.2.2⟩, fun _ => rfl⟩
    · rw [if_neg h3]; exact ⟨fun h => absurd h (by decide), fun h => absurd (hz.mpr h.1) h3⟩
end
/-- a ring of the class and one of the model -/
def rgE (np : Nat) (X Y : Nat → Int32) (RP RN : Nat → Nat) (r : Nat) (t : rgT) : Prop :=
  RP r + RN r ≤ np ∧ rgD X Y (RP r) (RP r + RN r) t
section
variable {np : Nat} {X Y : Nat → Int32} {RP RN : Nat → Nat} {r q : Nat} {t u : rgT}
theorem rgE_n (h : rgE np X Y RP RN r t) : t.1 4 = cntS X Y (RP r) (RN r - 1) := by have := h.2.2.2.1.1; rw [show RP r + RN r - 1 - RP r = RN r - 1 by omega] at this; exact this
theorem rgE_S (h : rgE np X Y RP RN r t) {k : Nat} (hk : k < RN r - 1) (hs : mSeg X Y (RP r + k) = true) : tS t (cntS X Y (RP r) k) = sgv X Y (RP r) k := h.2.2.2.1.2 k (by omega) (mSeg_sm.mp hs)
theorem rgE_b (h : rgE np X Y RP RN r t) : t.2.2.2.1 = bbS X Y (RP r) (RN r - 1) := by have := h.2.2.2.2.1; rw [show RP r + RN r - 1 - RP r = RN r - 1 by omega] at this; exact this
theorem pass_e (hB : bdd np X Y) (h : rgE np X Y RP RN r t) {x y : Int32} (hx : bd x) (hy : bd y) : plP t x y = mOnR X Y RP RN x y r := by
  have hnp := h.1
  unfold plP rgPasses mOnR
  rw [rgE_n h, rgE_b h, en_any]
  have hf : (fun k => mSeg X Y (RP r + k) && sP (t.2.2.2.2.2.2.2 (cntS X Y (RP r) k)) x y) = (fun k => mSeg X Y (RP r + k) && sP (tS t (cntS X Y (RP r) k)) x y) := rfl
  have he : anyB (RN r - 1) (fun k => mSeg X Y (RP r + k) && sP (t.2.2.2.2.2.2.2 (cntS X Y (RP r) k)) x y) = anyB (RN r - 1) (fun k9 => mSeg X Y (RP r + k9) && mOn X Y x y (RP r + k9)) := by
    rw [hf, Bool.eq_iff_iff, anyB_iff, anyB_iff]
    constructor
    · rintro ⟨k, h1, h2⟩; rw [Bool.and_eq_true] at h2; rw [rgE_S h h1 h2.1, sP_e hB (by omega) hx hy] at h2; exact ⟨k, h1, by rw [h2.1, h2.2]; rfl⟩
    · rintro ⟨k, h1, h2⟩; rw [Bool.and_eq_true] at h2; exact ⟨k, h1, by rw [rgE_S h h1 h2.1, sP_e hB (by omega) hx hy, h2.1, h2.2]; rfl⟩
  rw [he]
  by_cases hb : bxHas (bbS X Y (RP r) (RN r - 1) 0) (bbS X Y (RP r) (RN r - 1) 1) (bbS X Y (RP r) (RN r - 1) 2) (bbS X Y (RP r) (RN r - 1) 3) x y = false
  · rw [if_pos hb]; symm
    apply anyB_f
    intro k hk
    apply Classical.byContradiction
    intro h9
    have h9 := eq_true_of_ne_false h9
    rw [Bool.and_eq_true, mOn_t hB (by omega) hx hy] at h9
    have h1 := bb_in hk h9.1
    have h2 := h9.2.2.1
    have h3 := h9.2.2.2
    unfold btI at h2 h3
    rw [bxHas_t.mpr (by omega)] at hb; cases hb
  · rw [if_neg hb]
end

/-! of one piece -/
/-- the class's and the model's joining at one point -/
def jrR (a : Option (Int32 × (Nat → Int32))) (b : Option Nat × Bool × (Nat → Int32)) : Prop := match a with
  | none => b.2.1 = true
  | some g => b.2.1 = false ∧ g.2 = b.2.2 ∧ match b.1 with
    | none => g.1 = -1
    | some o => g.1 = b.2.2 o
theorem ren_o {f : Nat → Int32} {k o n : Nat} : renF f (f k) (f o) n o = f o := by
  simp only [renF]; split
  · split <;> rfl
  · rfl
theorem ren_nm {f : Nat → Int32} {u v : Int32} {n : Nat} (h : ∀ j, j < n → f j ≠ -1) (hv : v ≠ -1) : ∀ j, j < n → renF f u v n j ≠ -1 := by
  intro j hj; simp only [renF, if_pos hj]; split
  · exact hv
  · exact h j hj
theorem mj_nm {P : Nat → Bool} {n : Nat} {f : Nat → Int32} (h : ∀ j, j < n → f j ≠ -1) (k : Nat) (hk : k ≤ n) : ∀ j, j < n → (mjS P n f k).2.2 j ≠ -1 := by
  induction k with
  | zero => exact h
  | succ k ih =>
    have ih := ih (by omega)
    by_cases hp : P k = false
    · rw [mjS_f hp]; exact ih
    · cases ho : (mjS P n f k).1 with
      | none => rw [mjS_1 hp ho]; exact ih
      | some o =>
        have := mjS_o ho
        rw [mjS_2 hp ho]; exact ren_nm ih (ih o (by omega))
theorem jr_mj {P : Nat → Bool} {n : Nat} {f : Nat → Int32} (h : ∀ j, j < n → f j ≠ -1) (i : Nat) (hi : i ≤ n) : jrR (jrS P n f i) (mjS P n f i) := by
  induction i with
  | zero => exact ⟨rfl, rfl, rfl⟩
  | succ i ih =>
    have ih := ih (by omega)
    rw [jrS]
    cases hj : jrS P n f i with
    | none =>
      rw [hj] at ih
      show (mjS P n f (i + 1)).2.1 = true
      have ih : (mjS P n f i).2.1 = true := ih
      by_cases hp : P i = false
      · rw [mjS_f hp]; exact ih
      · cases ho : (mjS P n f i).1 with
        | none => rw [mjS_1 hp ho]; exact ih
        | some o => rw [mjS_2 hp ho]; show (_ || _) = true; rw [ih]; rfl
    | some g =>
      rw [hj] at ih
      obtain ⟨h1, h2, h3⟩ := ih
      show jrR (if P i = false then some g else if g.1 = -1 then some (g.2 i, g.2) else if g.2 i = g.1 then none else some (g.1, renF g.2 (g.2 i) g.1 n)) (mjS P n f (i + 1))
      by_cases hp : P i = false
      · rw [if_pos hp, mjS_f hp]; exact ⟨h1, h2, h3⟩
      · rw [if_neg hp]
        cases ho : (mjS P n f i).1 with
        | none =>
          rw [ho] at h3
          rw [if_pos h3, mjS_1 hp ho]
          exact ⟨h1, h2, congrArg (fun z => z i) h2⟩
        | some o =>
          have hoi := mjS_o ho
          rw [ho] at h3
          have h3 : g.1 = (mjS P n f i).2.2 o := h3
          rw [if_neg (by rw [h3]; exact mj_nm h i (by omega) o (by omega)), mjS_2 hp ho, h2, h3]
          by_cases h4 : (mjS P n f i).2.2 i = (mjS P n f i).2.2 o
          · rw [if_pos h4]; show (_ || _) = true; rw [decide_eq_true h4, Bool.or_true]
          · rw [if_neg h4]
            exact ⟨by show (_ || _) = false; rw [h1, decide_eq_false h4]; rfl, rfl, ren_o.symm⟩
theorem jr_e {P P2 : Nat → Bool} {n : Nat} {f : Nat → Int32} (h : ∀ j, j < n → f j ≠ -1) (hP : ∀ j, j < n → P j = P2 j) : (jrS P n f n).map (·.2) = if (mjS P2 n f n).2.1 = false then some (mjS P2 n f n).2.2 else none := by
  have hj : ∀ i, i ≤ n → jrS P n f i = jrS P2 n f i := by
    intro i
    induction i with
    | zero => intro _; rfl
    | succ i ih => intro hi; rw [jrS, jrS, ih (by omega), hP i (by omega)]
  rw [hj n (Nat.le_refl _)]
  have := jr_mj (P := P2) h n (Nat.le_refl _)
  cases h1 : jrS P2 n f n with
  | none => rw [h1] at this; have this : (mjS P2 n f n).2.1 = true := this; rw [this]; rfl
  | some g => rw [h1] at this; obtain ⟨a1, a2, -⟩ := this; rw [a1, if_pos rfl, ← a2]; rfl
theorem mj_one {P : Nat → Bool} {f : Nat → Int32} : (mjS P 1 f 1).2.1 = false := by
  by_cases hp : P 0 = false
  · rw [mjS_f hp]; rfl
  · rw [mjS_1 hp rfl]; rfl
section
variable {np : Nat} {X Y : Nat → Int32} {RP RN : Nat → Nat} {F nr : Nat} {shp pp : Int32} {pl pl2 : Nat → Int32} {RT : Nat → rgT}
theorem spM_one {i : Nat} : ∃ h, spM X Y RP RN F 1 i = some h := by
  induction i with
  | zero => exact ⟨_, rfl⟩
  | succ i ih =>
    obtain ⟨h, hh⟩ := ih
    by_cases h1 : mFst X Y (RP F + i) (RP F) = false
    · exact ⟨_, spM_f hh h1⟩
    · exact ⟨_, spM_j (G := h) hh h1 (fun _ _ => rfl) mj_one⟩
theorem mFst_t {p fr : Nat} : mFst X Y p fr = true ↔ ∀ i, i < p - fr → smP X Y (fr + i) p = false := by
  unfold mFst
  constructor
  · intro h i hi
    cases h1 : smP X Y (fr + i) p with
    | false => rfl
    | true => rw [anyB_t (f := fun i9 => smP X Y (fr + i9) p) hi h1] at h; exact absurd h (by decide)
  · intro h; rw [anyB_f h]; rfl
/-- each point of a closed ring with a segment is the beginning of a segment -/
theorem pt_seg {r : Nat} (hcl : smP X Y (RP r) (RP r + (RN r - 1)) = true) (hsg : ∃ k2, k2 < RN r - 1 ∧ mSeg X Y (RP r + k2) = true) {k : Nat} (hk : k < RN r) : ∃ k2, k2 < RN r - 1 ∧ mSeg X Y (RP r + k2) = true ∧ smP X Y (RP r + k) (RP r + k2) = true := by
  have h0 : ∃ k2, k2 < RN r - 1 ∧ mSeg X Y (RP r + k2) = true ∧ smP X Y (RP r) (RP r + k2) = true := by
    rcases first_seg (X := X) (Y := Y) (po := RP r) (RN r - 1) 0 (by omega) with ⟨d, g1, g2, g3⟩ | g1
    · have := run_s g2
      rw [Nat.add_zero] at this g3
      exact ⟨d, by omega, g3, sm_c (smP_iff.mpr this)⟩
    · obtain ⟨k2, h1, h2⟩ := hsg
      have := g1 k2 (by omega); rw [Nat.add_zero, h2] at this; cases this
  rcases first_seg (X := X) (Y := Y) (po := RP r) (RN r - 1) k (by omega) with ⟨d, g1, g2, g3⟩ | g1
  · have := run_s g2
    exact ⟨k + d, g1, by rw [← Nat.add_assoc]; exact g3, by rw [← Nat.add_assoc]; exact sm_c (smP_iff.mpr this)⟩
  · have := run_s g1
    rw [show RP r + k + (RN r - 1 - k) = RP r + (RN r - 1) by omega] at this
    obtain ⟨k2, e1, e2, e3⟩ := h0
    exact ⟨k2, e1, e2, sm_t (sm_c (smP_iff.mpr this)) (sm_t (sm_c hcl) e3)⟩
theorem has_e {r : Nat} {t : rgT} (h : rgE np X Y RP RN r t) {x y : Int32} : plHas t x y = true ↔ ∃ k, k < RN r - 1 ∧ mSeg X Y (RP r + k) = true ∧ X (RP r + k) = x ∧ Y (RP r + k) = y := by
  unfold plHas rgCorner
  rw [Bool.and_eq_true, rgE_n h, rgE_b h, en_any, anyB_iff, bxHas_t]
  constructor
  · rintro ⟨-, k, h1, h2⟩
    rw [Bool.and_eq_true] at h2
    obtain ⟨h2, h3⟩ := h2
    rw [show t.2.2.2.2.2.2.2 (cntS X Y (RP r) k) = sgv X Y (RP r) k from rgE_S h h1 h2] at h3
    exact ⟨k, h1, h2, mBeg_t.mp h3⟩
  · rintro ⟨k, h1, h2, h3, h4⟩
    have hb := bb_in h1 h2
    refine ⟨by rw [← h3, ← h4]; omega, k, h1, ?_⟩
    rw [h2, show t.2.2.2.2.2.2.2 (cntS X Y (RP r) k) = sgv X Y (RP r) k from rgE_S h h1 h2, Bool.true_and]
    exact mBeg_t.mpr ⟨h3, h4⟩
/-- the rings' points stand one behind the other -/
def ctg (RP RN : Nat → Nat) (F nr : Nat) : Prop := ∀ j, j + 1 < nr → RP (F + (j + 1)) = RP (F + j) + RN (F + j)
theorem ctg_m (h : ctg RP RN F nr) {i j : Nat} (hij : i < j) (hj : j < nr) : RP (F + i) + RN (F + i) ≤ RP (F + j) := by
  induction j with
  | zero => omega
  | succ j ih =>
    have h1 := h j hj
    by_cases e : i = j
    · subst e; omega
    · have := ih (by omega) (by omega); omega
/-- a point before another one: of a ring before, or of the same ring -/
theorem ctg_p (h : ctg RP RN F nr) {j p : Nat} (hj : j < nr) (h1 : RP F ≤ p) (h2 : p < RP (F + j) + RN (F + j)) : ∃ i k, i ≤ j ∧ k < RN (F + i) ∧ p = RP (F + i) + k := by
  induction j with
  | zero => exact ⟨0, p - RP F, Nat.le_refl _, by rw [Nat.add_zero] at *; omega, by rw [Nat.add_zero]; omega⟩
  | succ j ih =>
    have h3 := h j hj
    by_cases h4 : p < RP (F + j) + RN (F + j)
    · obtain ⟨i, k, e1, e2, e3⟩ := ih (by omega) h4
      exact ⟨i, k, by omega, e2, e3⟩
    · exact ⟨j + 1, p - RP (F + (j + 1)), Nat.le_refl _, by omega, by omega⟩
/-- a segment's beginning is new for the class where the run of points that ends there is new for the model -/
theorem new_e (hB : bdd np X Y) (hE : plE np X Y RP RN F nr pp RT) (hcl : ∀ j, j < nr → clR X Y RP RN (F + j)) (hsg : ∀ k, k < nr → ∃ k2, k2 < RN (F + k) - 1 ∧ mSeg X Y (RP (F + k) + k2) = true) (hct : ctg RP RN F nr)
    (hpr : ∀ j ka kb, j < nr → ka < kb → kb < RN (F + j) - 1 → mSeg X Y (RP (F + j) + ka) = true → mSeg X Y (RP (F + j) + kb) = true → smP X Y (RP (F + j) + ka) (RP (F + j) + kb) = false)
    {j k0 k : Nat} (hj : j < nr) (hk : k < RN (F + j) - 1) (hsk : mSeg X Y (RP (F + j) + k) = true) (hk0 : k0 ≤ k) (hrun : ∀ e, e < k - k0 → mSeg X Y (RP (F + j) + k0 + e) = false) (hst : k0 = 0 ∨ mSeg X Y (RP (F + j) + (k0 - 1)) = true) :
    plNew j nr RT (X (RP (F + j) + k)) (Y (RP (F + j) + k)) = mFst X Y (RP (F + j) + k0) (RP F) := by
  have hr0 := run_s hrun
  rw [show RP (F + j) + k0 + (k - k0) = RP (F + j) + k by omega] at hr0
  have hs0 : smP X Y (RP (F + j) + k) (RP (F + j) + k0) = true := smP_iff.mpr hr0
  have hF : RP F ≤ RP (F + j) := by
    by_cases e : j = 0
    · subst e; exact Nat.le_refl _
    · have := ctg_m hct (show 0 < j by omega) hj; rw [Nat.add_zero] at this; omega
  rw [Bool.eq_iff_iff, mFst_t]
  unfold plNew
  rw [show min j nr = j by omega]
  constructor
  · intro hnew i hi
    have hnew : anyB j (fun i => plHas (RT i) (X (RP (F + j) + k)) (Y (RP (F + j) + k))) = false := by simpa using hnew
    cases hs : smP X Y (RP F + i) (RP (F + j) + k0) with
    | false => rfl
    | true =>
      exfalso
      obtain ⟨i2, k2, e1, e2, e3⟩ := ctg_p hct hj (show RP F ≤ RP F + i by omega) (by omega)
      have hs2 := sm_t hs (sm_c hs0)
      rw [e3] at hs2
      by_cases e : i2 = j
      · subst e
        -- the same ring: a segment from there on, before this one
        have hk2 : k2 < k0 := by omega
        have hst := hst.resolve_left (by omega)
        rcases first_seg (X := X) (Y := Y) (po := RP (F + i2)) (k0) k2 (by omega) with ⟨d, g1, g2, g3⟩ | g1
        · have hr2 := run_s g2
          have := hpr i2 (k2 + d) k hj (by omega) hk (by rw [← Nat.add_assoc]; exact g3) hsk
          rw [← Nat.add_assoc, sm_t (smP_iff.mpr hr2) hs2] at this; cases this
        · have := g1 (k0 - 1 - k2) (by omega)
          rw [show RP (F + i2) + k2 + (k0 - 1 - k2) = RP (F + i2) + (k0 - 1) by omega, hst] at this; cases this
      · obtain ⟨k3, f1, f2, f3⟩ := pt_seg (hcl i2 (by omega)).2 (hsg i2 (by omega)) e2
        have hs3 := smP_iff.mp (sm_t (sm_c f3) hs2)
        have := (has_e (hE.1 i2 (by omega)).1 (x := X (RP (F + j) + k)) (y := Y (RP (F + j) + k))).mpr ⟨k3, f1, f2, hs3.1, hs3.2⟩
        rw [anyB_t (f := fun i => plHas (RT i) (X (RP (F + j) + k)) (Y (RP (F + j) + k))) (show i2 < j by omega) this] at hnew; cases hnew
  · intro hall
    have : anyB j (fun i => plHas (RT i) (X (RP (F + j) + k)) (Y (RP (F + j) + k))) = false := by
      apply anyB_f
      intro i hi
      apply Classical.byContradiction; intro h9
      obtain ⟨k3, f1, f2, f3, f4⟩ := (has_e (hE.1 i (by omega)).1).mp (eq_true_of_ne_false h9)
      have hm := ctg_m hct hi hj
      have hFi : RP F ≤ RP (F + i) := by
        by_cases e : i = 0
        · subst e; exact Nat.le_refl _
        · have := ctg_m hct (show 0 < i by omega) (by omega); rw [Nat.add_zero] at this; omega
      have := hall (RP (F + i) + k3 - RP F) (by omega)
      rw [show RP F + (RP (F + i) + k3 - RP F) = RP (F + i) + k3 by omega, sm_t (smP_iff.mpr ⟨f3, f4⟩) hs0] at this; cases this
    rw [this]; rfl
end

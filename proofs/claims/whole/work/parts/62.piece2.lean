/-! of one piece: the same -/
/-- the model's step at one point -/
def stp (X Y : Nat → Int32) (RP RN : Nat → Nat) (F rc p : Nat) (g : Nat → Int32) : Option (Nat → Int32) :=
  if mFst X Y p (RP F) = false then some g else if (mjS (fun k9 => mOnR X Y RP RN (X p) (Y p) (F + k9)) rc g rc).2.1 = false then some (mjS (fun k9 => mOnR X Y RP RN (X p) (Y p) (F + k9)) rc g rc).2.2 else none
def nmG (n : Nat) (g : Nat → Int32) : Prop := ∀ j, j < n → g j ≠ -1
section
variable {np : Nat} {X Y : Nat → Int32} {RP RN : Nat → Nat} {F nr : Nat} {shp pp : Int32} {pl pl2 : Nat → Int32} {RT : Nat → rgT}
theorem spM_b {i : Nat} : spM X Y RP RN F nr (i + 1) = (spM X Y RP RN F nr i).bind (stp X Y RP RN F nr (RP F + i)) := rfl
theorem stp_nm {p : Nat} {g g2 : Nat → Int32} (h : stp X Y RP RN F nr p g = some g2) (hn : nmG nr g) : nmG nr g2 := by
  unfold stp at h
  split at h
  · cases h; exact hn
  · split at h
    · cases h; exact mj_nm hn nr (Nat.le_refl _)
    · cases h
theorem stp_f {p : Nat} {g : Nat → Int32} (h : mFst X Y p (RP F) = false) : stp X Y RP RN F nr p g = some g := if_pos h
theorem bind_s {o : Option (Nat → Int32)} {f : (Nat → Int32) → Option (Nat → Int32)} (h : ∀ g, f g = some g) : o.bind f = o := by cases o with
  | none => rfl
  | some g => exact h g
theorem bind_e {o : Option (Nat → Int32)} {f f2 : (Nat → Int32) → Option (Nat → Int32)} (h : ∀ g, o = some g → f g = f2 g) : o.bind f = o.bind f2 := by cases o with
  | none => rfl
  | some g => exact h g rfl
theorem not_first {p q : Nat} (h0 : RP F ≤ q) (hq : q < p) (h : smP X Y q p = true) : mFst X Y p (RP F) = false := by
  cases h1 : mFst X Y p (RP F) with
  | false => rfl
  | true =>
    have := mFst_t.mp h1 (q - RP F) (by omega)
    rw [show RP F + (q - RP F) = q by omega, h] at this; cases this
theorem ring_e (hB : bdd np X Y) (hE : plE np X Y RP RN F nr pp RT) (hcl : ∀ j, j < nr → clR X Y RP RN (F + j)) (hsg : ∀ k, k < nr → ∃ k2, k2 < RN (F + k) - 1 ∧ mSeg X Y (RP (F + k) + k2) = true) (hct : ctg RP RN F nr)
    (hpr : ∀ j ka kb, j < nr → ka < kb → kb < RN (F + j) - 1 → mSeg X Y (RP (F + j) + ka) = true → mSeg X Y (RP (F + j) + kb) = true → smP X Y (RP (F + j) + ka) (RP (F + j) + kb) = false)
    {j : Nat} (hj : j < nr) {h : Nat → Int32} (hM : spM X Y RP RN F nr (RP (F + j) - RP F) = some h) (hnm : nmG nr h) :
    inS RT nr j h ((RT j).1 4) = spM X Y RP RN F nr (RP (F + j) + RN (F + j) - RP F) ∧ ∀ g, inS RT nr j h ((RT j).1 4) = some g → nmG nr g := by
  have hEj := (hE.1 j hj).1
  have hnp := hEj.1
  have hF : RP F ≤ RP (F + j) := by
    by_cases e : j = 0
    · subst e; exact Nat.le_refl _
    · have := ctg_m hct (show 0 < j by omega) hj; rw [Nat.add_zero] at this; omega
  -- the class's step at a segment is the model's at the beginning of the run
  have hcls : ∀ {k0 k : Nat} {g : Nat → Int32}, k < RN (F + j) - 1 → mSeg X Y (RP (F + j) + k) = true → k0 ≤ k → (∀ e, e < k - k0 → mSeg X Y (RP (F + j) + k0 + e) = false) → (k0 = 0 ∨ mSeg X Y (RP (F + j) + (k0 - 1)) = true) → nmG nr g → spC RT nr j (cntS X Y (RP (F + j)) k) g = stp X Y RP RN F nr (RP (F + j) + k0) g := by
    intro k0 k g hk hsk hk0 hrun hst hg
    have hnew := new_e hB hE hcl hsg hct hpr hj hk hsk hk0 hrun hst
    have hr0 := run_s hrun
    rw [show RP (F + j) + k0 + (k - k0) = RP (F + j) + k by omega] at hr0
    have A0 := hB (RP (F + j) + k) (by omega)
    unfold spC stp
    rw [show (RT j).2.2.2.2.2.2.2 (cntS X Y (RP (F + j)) k) = sgv X Y (RP (F + j)) k from rgE_S hEj hk hsk]
    show (if plNew j nr RT (X (RP (F + j) + k)) (Y (RP (F + j) + k)) = false then some g else (jrS (fun i => plP (RT i) (X (RP (F + j) + k)) (Y (RP (F + j) + k))) nr g nr).map (·.2)) = _
    rw [hnew]
    by_cases h1 : mFst X Y (RP (F + j) + k0) (RP F) = false
    · rw [if_pos h1, if_pos h1]
    · rw [if_neg h1, if_neg h1, jr_e (P2 := fun k9 => mOnR X Y RP RN (X (RP (F + j) + k0)) (Y (RP (F + j) + k0)) (F + k9)) hg (fun i hi => by
        rw [← hr0.1, ← hr0.2]; exact pass_e hB (hE.1 i hi).1 A0.1 A0.2)]
  have hcnt : (RT j).1 4 = cntS X Y (RP (F + j)) (RN (F + j) - 1) := rgE_n hEj
  -- what holds along the ring
  have hR : ∀ k, k ≤ RN (F + j) - 1 → (∀ g, inS RT nr j h (cntS X Y (RP (F + j)) k) = some g → nmG nr g) ∧
      (((k = 0 ∨ mSeg X Y (RP (F + j) + (k - 1)) = true) ∧ spM X Y RP RN F nr (RP (F + j) - RP F + k) = inS RT nr j h (cntS X Y (RP (F + j)) k)) ∨
       ∃ k0, k0 < k ∧ (∀ e, e < k - k0 → mSeg X Y (RP (F + j) + k0 + e) = false) ∧ (k0 = 0 ∨ mSeg X Y (RP (F + j) + (k0 - 1)) = true) ∧ spM X Y RP RN F nr (RP (F + j) - RP F + k) = (inS RT nr j h (cntS X Y (RP (F + j)) k)).bind (stp X Y RP RN F nr (RP (F + j) + k0))) := by
    intro k
    induction k with
    | zero => intro _; exact ⟨fun g hg => by cases hg; exact hnm, Or.inl ⟨Or.inl rfl, hM⟩⟩
    | succ k ih =>
      intro hk
      obtain ⟨hn, hrel⟩ := ih (by omega)
      have hb : spM X Y RP RN F nr (RP (F + j) - RP F + (k + 1)) = (spM X Y RP RN F nr (RP (F + j) - RP F + k)).bind (stp X Y RP RN F nr (RP (F + j) + k)) := by
        rw [show RP (F + j) - RP F + (k + 1) = RP (F + j) - RP F + k + 1 by omega, spM_b, show RP F + (RP (F + j) - RP F + k) = RP (F + j) + k by omega]
      by_cases hsk : mSeg X Y (RP (F + j) + k) = true
      · rw [show cntS X Y (RP (F + j)) (k + 1) = cntS X Y (RP (F + j)) k + 1 from cntS_s (mSeg_sm.mp hsk)]
        have hin : ∀ k0, k0 ≤ k → (∀ e, e < k - k0 → mSeg X Y (RP (F + j) + k0 + e) = false) → (k0 = 0 ∨ mSeg X Y (RP (F + j) + (k0 - 1)) = true) → inS RT nr j h (cntS X Y (RP (F + j)) k + 1) = (inS RT nr j h (cntS X Y (RP (F + j)) k)).bind (stp X Y RP RN F nr (RP (F + j) + k0)) := by
          intro k0 a1 a2 a3
          show (inS RT nr j h (cntS X Y (RP (F + j)) k)).bind (spC RT nr j (cntS X Y (RP (F + j)) k)) = _
          exact bind_e (fun g hg => hcls (by omega) hsk a1 a2 a3 (hn g hg))
        have hnn : ∀ k0, (inS RT nr j h (cntS X Y (RP (F + j)) k + 1) = (inS RT nr j h (cntS X Y (RP (F + j)) k)).bind (stp X Y RP RN F nr (RP (F + j) + k0))) → ∀ g, inS RT nr j h (cntS X Y (RP (F + j)) k + 1) = some g → nmG nr g := by
          intro k0 e g hg
          rw [e] at hg
          cases h9 : inS RT nr j h (cntS X Y (RP (F + j)) k) with
          | none => rw [h9] at hg; cases hg
          | some g9 => rw [h9] at hg; exact stp_nm hg (hn g9 h9)
        rcases hrel with ⟨a1, a2⟩ | ⟨k0, a1, a2, a3, a4⟩
        · have e := hin k (Nat.le_refl _) (fun e he => by omega) a1
          exact ⟨hnn k e, Or.inl ⟨Or.inr hsk, by rw [hb, a2, e]⟩⟩
        · have e := hin k0 (by omega) a2 a3
          refine ⟨hnn k0 e, Or.inl ⟨Or.inr hsk, ?_⟩⟩
          have hs0 := run_s a2
          rw [show RP (F + j) + k0 + (k - k0) = RP (F + j) + k by omega] at hs0
          rw [hb, a4, e]
          exact bind_s (fun g => stp_f (not_first (q := RP (F + j) + k0) (by omega) (by omega) (sm_c (smP_iff.mpr hs0))))
      · have hsk := eq_false_of_ne_true hsk
        rw [show cntS X Y (RP (F + j)) (k + 1) = cntS X Y (RP (F + j)) k from cntS_k (mSeg_sf.mp hsk)]
        refine ⟨hn, Or.inr ?_⟩
        rcases hrel with ⟨a1, a2⟩ | ⟨k0, a1, a2, a3, a4⟩
        · exact ⟨k, by omega, fun e he => by rw [show e = 0 by omega]; exact hsk, a1, by rw [hb, a2]⟩
        · refine ⟨k0, by omega, fun e he => ?_, a3, ?_⟩
          · by_cases e1 : e = k - k0
            · rw [e1, show RP (F + j) + k0 + (k - k0) = RP (F + j) + k by omega]; exact hsk
            · exact a2 e (by omega)
          · have hs0 := run_s a2
            rw [show RP (F + j) + k0 + (k - k0) = RP (F + j) + k by omega] at hs0
            rw [hb, a4]
            exact bind_s (fun g => stp_f (not_first (q := RP (F + j) + k0) (by omega) (by omega) (sm_c (smP_iff.mpr hs0))))
  obtain ⟨hn, hrel⟩ := hR (RN (F + j) - 1) (Nat.le_refl _)
  obtain ⟨k2, g1, g2⟩ := hsg j hj
  have hclj := hcl j hj
  rw [hcnt]
  refine ⟨?_, hn⟩
  have hb : spM X Y RP RN F nr (RP (F + j) + RN (F + j) - RP F) = spM X Y RP RN F nr (RP (F + j) - RP F + (RN (F + j) - 1)) := by
    rw [show RP (F + j) + RN (F + j) - RP F = RP (F + j) - RP F + (RN (F + j) - 1) + 1 by omega, spM_b]
    refine bind_s (fun g => stp_f ?_)
    rw [show RP F + (RP (F + j) - RP F + (RN (F + j) - 1)) = RP (F + j) + (RN (F + j) - 1) by omega]
    exact not_first (q := RP (F + j)) hF (by omega) hclj.2
  rw [hb]
  rcases hrel with ⟨-, a2⟩ | ⟨k0, a1, a2, a3, a4⟩
  · exact a2.symm
  · rw [a4]; symm
    have hs0 := run_s a2
    rw [show RP (F + j) + k0 + (RN (F + j) - 1 - k0) = RP (F + j) + (RN (F + j) - 1) by omega] at hs0
    have hk0 : k0 ≠ 0 := by
      intro e; subst e
      have := a2 k2 (by omega); rw [Nat.add_zero, g2] at this; cases this
    exact bind_s (fun g => stp_f (not_first (q := RP (F + j)) hF (by omega) (sm_t hclj.2 (smP_iff.mpr hs0))))
theorem out_e (hB : bdd np X Y) (hE : plE np X Y RP RN F nr pp RT) (hcl : ∀ j, j < nr → clR X Y RP RN (F + j)) (hsg : ∀ k, k < nr → ∃ k2, k2 < RN (F + k) - 1 ∧ mSeg X Y (RP (F + k) + k2) = true) (hct : ctg RP RN F nr) (h30 : nr < 2 ^ 31)
    (hpr : ∀ j ka kb, j < nr → ka < kb → kb < RN (F + j) - 1 → mSeg X Y (RP (F + j) + ka) = true → mSeg X Y (RP (F + j) + kb) = true → smP X Y (RP (F + j) + ka) (RP (F + j) + kb) = false) :
    ∀ j, j < nr → outS RT nr (j + 1) = spM X Y RP RN F nr (RP (F + j) + RN (F + j) - RP F) ∧ ∀ g, outS RT nr (j + 1) = some g → nmG nr g := by
  have hst : ∀ j, j < nr → outS RT nr j = spM X Y RP RN F nr (RP (F + j) - RP F) → (∀ g, outS RT nr j = some g → nmG nr g) → outS RT nr (j + 1) = spM X Y RP RN F nr (RP (F + j) + RN (F + j) - RP F) ∧ ∀ g, outS RT nr (j + 1) = some g → nmG nr g := by
    intro j hj e hn
    cases h : outS RT nr j with
    | none =>
      rw [h] at e
      have h1 : outS RT nr (j + 1) = none := by rw [outS, h]; rfl
      rw [h1]
      exact ⟨(spM_up e.symm (by omega)).symm, fun g hg => by cases hg⟩
    | some g0 =>
      have h1 : outS RT nr (j + 1) = inS RT nr j g0 ((RT j).1 4) := by rw [outS, h]; rfl
      rw [h1]
      exact ring_e hB hE hcl hsg hct hpr hj (e.symm.trans h) (hn g0 h)
  intro j
  induction j with
  | zero =>
    intro hj
    refine hst 0 hj ?_ ?_
    · rw [Nat.add_zero, Nat.sub_self]; rfl
    · intro g hg
      cases hg
      intro i hi
      simp only [idF, if_pos hi]
      intro h9
      have := (nI_toInt (show i < 2 ^ 31 by omega)).symm.trans (congrArg Int32.toInt h9)
      rw [show (-1 : Int32).toInt = -1 from rfl] at this
      omega
  | succ j ih =>
    intro hj
    obtain ⟨h1, h2⟩ := ih (by omega)
    exact hst (j + 1) hj (by rw [h1, hct j hj]) h2
theorem whole_e (hB : bdd np X Y) (hE : plE np X Y RP RN F nr pp RT) (hcl : ∀ j, j < nr → clR X Y RP RN (F + j)) (hsg : ∀ k, k < nr → ∃ k2, k2 < RN (F + k) - 1 ∧ mSeg X Y (RP (F + k) + k2) = true) (hct : ctg RP RN F nr) (h30 : nr < 2 ^ 31) (hnr : 0 < nr)
    (hpr : ∀ j ka kb, j < nr → ka < kb → kb < RN (F + j) - 1 → mSeg X Y (RP (F + j) + ka) = true → mSeg X Y (RP (F + j) + kb) = true → smP X Y (RP (F + j) + ka) (RP (F + j) + kb) = false) (h7 : pl7 pl pl2) :
    agr (whM shp pp pl nr RT) (spO X Y RP RN F nr shp pp pl2) := by
  unfold whM
  by_cases h1 : nr < 2
  · rw [if_pos h1]
    have : nr = 1 := by omega
    subst this
    obtain ⟨h, hh⟩ := spM_one (X := X) (Y := Y) (RP := RP) (RN := RN) (F := F) (i := RP (F + 1 - 1) + RN (F + 1 - 1) - RP F)
    exact agr_nn rfl (spO_n hh)
  · rw [if_neg h1]
    have := (out_e hB hE hcl hsg hct h30 hpr (nr - 1) (by omega)).1
    rw [show nr - 1 + 1 = nr by omega, show F + (nr - 1) = F + nr - 1 by omega] at this
    unfold plSplit spO
    rw [this]
    cases spM X Y RP RN F nr (RP (F + nr - 1) + RN (F + nr - 1) - RP F) with
    | none => exact agr_s rfl (p1_7 (upd_7 h7))
    | some g => trivial
end

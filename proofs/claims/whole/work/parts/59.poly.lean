/-! a polygon: its rings, and the pairs of its segments -/
theorem mtFault_1 {mx my : Int32} {g1 nx1 rg1 : Nat} {fx1 fy1 tx1 ty1 bx0p by0p bx1p by1p tx3 ty3 : Int32} {g2 nx2 rg2 : Nat} {fx2 fy2 tx2 ty2 bx0q by0q bx1q by1q tx4 ty4 : Int32} :
    (mtFault mx my g1 nx1 rg1 fx1 fy1 tx1 ty1 bx0p by0p bx1p by1p tx3 ty3 g2 nx2 rg2 fx2 fy2 tx2 ty2 bx0q by0q bx1q by1q tx4 ty4).1 =
    if (mtMeet mx my fx1 fy1 tx1 ty1 bx0p by0p bx1p by1p fx2 fy2 tx2 ty2 bx0q by0q bx1q by1q).1 = 0 then 0 else if (mtMeet mx my fx1 fy1 tx1 ty1 bx0p by0p bx1p by1p fx2 fy2 tx2 ty2 bx0q by0q bx1q by1q).1 = 3 then 3 else if (mtMeet mx my fx1 fy1 tx1 ty1 bx0p by0p bx1p by1p fx2 fy2 tx2 ty2 bx0q by0q bx1q by1q).1 = 1 then 4 else if some rg1 = some rg2 then (if sgNeigh g1 nx1 g2 nx2 = false then 5 else 0) else
    (if mtCross (mtMeet mx my fx1 fy1 tx1 ty1 bx0p by0p bx1p by1p fx2 fy2 tx2 ty2 bx0q by0q bx1q by1q).2.1 (mtMeet mx my fx1 fy1 tx1 ty1 bx0p by0p bx1p by1p fx2 fy2 tx2 ty2 bx0q by0q bx1q by1q).2.2 fx1 fy1 tx1 ty1 tx3 ty3 fx2 fy2 tx2 ty2 tx4 ty4 = false then 0 else 4) := by
  unfold mtFault
  split
  · rfl
  · split
    · rfl
    · split
      · rfl
      · split <;> rfl
theorem sgNeigh_t {g nx g2 nx2 : Nat} : sgNeigh g nx g2 nx2 = true ↔ (nx = g2 ∨ nx2 = g) := by
  unfold sgNeigh
  by_cases h1 : nx = g2
  · simp [h1]
  · by_cases h2 : nx2 = g
    · simp [h1, h2]
    · simp [h1, h2]
theorem cFt_c {X Y : Nat → Int32} {s1 s2 : Prop} [Decidable s1] [Decidable s2] {nb : Bool} {a a2 b b2 : Nat} (h : s1 ↔ s2) : cFt X Y s1 nb a a2 b b2 = cFt X Y s2 nb a a2 b b2 := by
  unfold cFt
  by_cases h1 : s1
  · rw [if_pos h1, if_pos (h.mp h1)]
  · rw [if_neg h1, if_neg (fun h2 => h1 (h.mpr h2))]
section
variable {np : Nat} {X Y : Nat → Int32} {RP RN : Nat → Nat} {r q : Nat} {t u : rgT}
theorem sgC_e (hB : bdd np X Y) (ht : rgE np X Y RP RN r t) (hu : rgE np X Y RP RN q u) (hct : smP X Y (RP r) (RP r + (RN r - 1)) = true) (hcu : smP X Y (RP q) (RP q + (RN q - 1)) = true) {ka kb : Nat} (hka : ka < RN r - 1) (hkb : kb < RN q - 1) (hsa : mSeg X Y (RP r + ka) = true) (hsb : mSeg X Y (RP q + kb) = true)
    (hid : t.1 0 = u.1 0 ↔ r = q) (htu : r = q → t = u) : sgC t u (cntS X Y (RP r) ka) (cntS X Y (RP q) kb) = mPr X Y RP RN r (RP r + ka) q (RP q + kb) := by
  have hnr := ht.1
  have hnq := hu.1
  obtain ⟨ka2, a1, a2, a3, a4, a5⟩ := next_e (X := X) (Y := Y) (po := RP r) (m := RN r) (by omega) hka hsa hct
  obtain ⟨kb2, b1, b2, b3, b4, b5⟩ := next_e (X := X) (Y := Y) (po := RP q) (m := RN q) (by omega) hkb hsb hcu
  have hS1 := rgE_S ht hka hsa
  have hS2 := rgE_S hu hkb hsb
  have hS3 := rgE_S ht a1 a2
  have hS4 := rgE_S hu b1 b2
  rw [a3, ← rgE_n ht] at hS3
  rw [b3, ← rgE_n hu] at hS4
  have hp := pair_eq (nb := sgNeigh (tG t (cntS X Y (RP r) ka)) (tG t (nxI (t.1 4) (cntS X Y (RP r) ka))) (tG u (cntS X Y (RP q) kb)) (tG u (nxI (u.1 4) (cntS X Y (RP q) kb)))) (RP := RP) (RN := RN) (r := r) (q := q) hB (show RP r + ka + 1 < np by omega) (show RP q + kb + 1 < np by omega) (show RP r + ka2 + 1 < np by omega) (show RP q + kb2 + 1 < np by omega) hsa hsb a2 a4 b4 a5 b5 (by
    intro hrq
    have e9 := htu hrq
    subst hrq
    subst e9
    have hinj := ht.2.2.2.2.2
    rw [sgNeigh_t, rgE_n ht, ← a3, ← b3]
    have hn : ∀ {k : Nat}, k < RN r - 1 → mSeg X Y (RP r + k) = true → cntS X Y (RP r) k < t.1 4 := fun hk hs => by rw [rgE_n ht]; exact cnt_lt hk hs
    constructor
    · rintro (h | h)
      · left; have := cnt_inj a2 hsb (hinj _ _ (hn a1 a2) (hn hkb hsb) h); omega
      · right; have := cnt_inj b2 hsa (hinj _ _ (hn b1 b2) (hn hka hsa) h); omega
    · rintro (h | h)
      · left; rw [show ka2 = kb by omega]
      · right; rw [show kb2 = ka by omega])
  rw [hp, ← cFt_c (s1 := some (t.1 0) = some (u.1 0)) (by rw [Option.some.injEq]; exact hid)]
  unfold sgC sgF
  rw [mtFault_1, hS1, hS2, hS3, hS4]
  have hM : mtMeet 0 0 (sgv X Y (RP r) ka 1) (sgv X Y (RP r) ka 2) (sgv X Y (RP r) ka 3) (sgv X Y (RP r) ka 4) (sgv X Y (RP r) ka 5) (sgv X Y (RP r) ka 6) (sgv X Y (RP r) ka 7) (sgv X Y (RP r) ka 8) (sgv X Y (RP q) kb 1) (sgv X Y (RP q) kb 2) (sgv X Y (RP q) kb 3) (sgv X Y (RP q) kb 4) (sgv X Y (RP q) kb 5) (sgv X Y (RP q) kb 6) (sgv X Y (RP q) kb 7) (sgv X Y (RP q) kb 8) = cMt X Y (RP r + ka) (RP q + kb) := by
    show mtMeet 0 0 (X (RP r + ka)) (Y (RP r + ka)) (X (RP r + ka + 1)) (Y (RP r + ka + 1)) (iMin (iMin 1000000000 (X (RP r + ka))) (X (RP r + ka + 1))) (iMin (iMin 1000000000 (Y (RP r + ka))) (Y (RP r + ka + 1))) (iMax (iMax (-1000000000) (X (RP r + ka))) (X (RP r + ka + 1))) (iMax (iMax (-1000000000) (Y (RP r + ka))) (Y (RP r + ka + 1))) (X (RP q + kb)) (Y (RP q + kb)) (X (RP q + kb + 1)) (Y (RP q + kb + 1)) (iMin (iMin 1000000000 (X (RP q + kb))) (X (RP q + kb + 1))) (iMin (iMin 1000000000 (Y (RP q + kb))) (Y (RP q + kb + 1))) (iMax (iMax (-1000000000) (X (RP q + kb))) (X (RP q + kb + 1))) (iMax (iMax (-1000000000) (Y (RP q + kb))) (Y (RP q + kb + 1))) = _
    have hA := hB (RP r + ka) (by omega)
    have hC := hB (RP q + kb) (by omega)
    rw [box_lo hA.1, box_lo hA.2, box_lo hC.1, box_lo hC.2, box_hi hA.1, box_hi hA.2, box_hi hC.1, box_hi hC.2]; rfl
  rw [hM]; rfl
end
/-- a polygon of the class and the model's rings from F on -/
def plE (np : Nat) (X Y : Nat → Int32) (RP RN : Nat → Nat) (F nr : Nat) (pp : Int32) (RT : Nat → rgT) : Prop :=
  (∀ j, j < nr → rgE np X Y RP RN (F + j) (RT j) ∧ (RT j).2.1 0 = pp ∧ (RT j).2.1 1 = nI j) ∧ ∀ j k, j < nr → k < nr → (RT j).1 0 = (RT k).1 0 → j = k
/-- a ring's end is its beginning -/
def clR (X Y : Nat → Int32) (RP RN : Nat → Nat) (r : Nat) : Prop := 0 < RN r ∧ smP X Y (RP r) (RP r + (RN r - 1)) = true
section
variable {np : Nat} {X Y : Nat → Int32} {RP RN : Nat → Nat} {F nr : Nat} {shp pp : Int32} {pl pl2 : Nat → Int32} {RT : Nat → rgT}
theorem rgO_nn {k : Nat} (h : rgO X Y RP RN F shp pp pl k = none) : clR X Y RP RN (F + k) ∧ 3 ≤ cntF X Y (RP (F + k)) (RN (F + k)) := by
  unfold rgO at h
  by_cases h1 : RN (F + k) = 0 ∨ smP X Y (RP (F + k)) (RP (F + k) + RN (F + k) - 1) = false
  · rw [if_pos h1] at h; cases h
  · rw [if_neg h1] at h
    by_cases h2 : mFew X Y (RP (F + k)) (RN (F + k)) 3 = false
    · refine ⟨⟨by omega, ?_⟩, ?_⟩
      · have : ¬ smP X Y (RP (F + k)) (RP (F + k) + RN (F + k) - 1) = false := fun h9 => h1 (Or.inr h9)
        rw [show RP (F + k) + (RN (F + k) - 1) = RP (F + k) + RN (F + k) - 1 by omega]; exact eq_true_of_ne_false this
      · have := of_decide_eq_false h2; omega
    · rw [if_neg h2] at h; cases h
theorem rings_e (hE : plE np X Y RP RN F nr pp RT) (h7 : pl7 pl pl2) : agr (frR shp pp pl nr RT) (firstO nr (rgO X Y RP RN F shp pp pl2)) := by
  unfold frR
  apply agr_fBm
  intro k hk
  obtain ⟨⟨hnp, hcl, hdf, -⟩, -⟩ := hE.1 k hk
  have hd := (df_3 hdf (by omega)).1
  rw [show RP (F + k) + RN (F + k) - RP (F + k) = RN (F + k) by omega] at hd
  unfold rgBad rgO
  rw [hcl]
  unfold clB
  by_cases h0 : RN (F + k) = 0
  · right
    rw [if_pos (show RP (F + k) + RN (F + k) ≤ RP (F + k) by omega), if_pos rfl, if_pos (Or.inl h0)]
    exact ⟨rfl, agr_s rfl (p1_7 (upd_7 h7))⟩
  · rw [if_neg (show ¬ RP (F + k) + RN (F + k) ≤ RP (F + k) by omega)]
    by_cases h1 : smP X Y (RP (F + k)) (RP (F + k) + RN (F + k) - 1) = false
    · right
      rw [if_pos h1, if_pos (Or.inr h1), if_pos h1]
      exact ⟨rfl, agr_s rfl (p1_7 (upd_7 h7))⟩
    · rw [if_neg (show ¬ (RN (F + k) = 0 ∨ smP X Y (RP (F + k)) (RP (F + k) + RN (F + k) - 1) = false) from fun h9 => h9.elim h0 h1), if_neg h1, if_neg h1]
      by_cases h2 : 3 ≤ (RT k).2.1 2
      · left
        rw [if_pos h2, if_pos]
        · exact ⟨rfl, rfl⟩
        · exact decide_eq_false (by have := hd.mp h2; omega)
      · right
        rw [if_neg h2, if_neg]
        · exact ⟨rfl, agr_s rfl (p1_7 (upd_7 h7))⟩
        · have : ¬ 3 ≤ cntF X Y (RP (F + k)) (RN (F + k)) := fun h9 => h2 (hd.mpr h9)
          unfold mFew; rw [decide_eq_true (by omega)]; decide
theorem fI_cnt {r : Nat} {i j ka kb : Nat} (hsa : mSeg X Y (RP r + ka) = true) (hsb : i = j → mSeg X Y (RP r + kb) = true) {q : Nat} (hq : i = j → q = r) : fI i j (cntS X Y (RP r) ka) ≤ cntS X Y (RP q) kb ↔ fI i j ka ≤ kb := by
  unfold fI
  by_cases h : i = j
  · rw [if_pos h, if_pos h, hq h]
    constructor
    · intro h1
      apply Classical.byContradiction; intro h2
      have := cntS_m (X := X) (Y := Y) (po := RP r) (j := kb) (k := ka) (by omega); omega
    · intro h1; have := cnt_lt (X := X) (Y := Y) (po := RP r) (k := ka) (K := kb) (by omega) hsa; omega
  · rw [if_neg h, if_neg h]; omega
end
section
variable {np : Nat} {X Y : Nat → Int32} {RP RN : Nat → Nat} {r q : Nat} {t u : rgT} {shp : Int32} {pl : Nat → Int32}
/-- a step whose box is apart from a ring's has no fault with any of its steps -/
theorem ap_ring (hB : bdd np X Y) (ht : rgE np X Y RP RN r t) (hu : rgE np X Y RP RN q u) {ka kb : Nat} (hka : ka < RN r - 1) (hkb : kb < RN q - 1) (hsa : mSeg X Y (RP r + ka) = true) (hsb : mSeg X Y (RP q + kb) = true)
    (hap : ¬ bxApart (tS t (cntS X Y (RP r) ka) 5) (tS t (cntS X Y (RP r) ka) 6) (tS t (cntS X Y (RP r) ka) 7) (tS t (cntS X Y (RP r) ka) 8) (u.2.2.2.1 0) (u.2.2.2.1 1) (u.2.2.2.1 2) (u.2.2.2.1 3) = false) : sgC t u (cntS X Y (RP r) ka) (cntS X Y (RP q) kb) = 0 := by
  have hap := eq_true_of_ne_false hap
  have hb := bb_in hkb hsb
  have hQ := hB (RP q + kb) (by have := hu.1; omega)
  rw [rgE_b hu, rgE_S ht hka hsa] at hap
  unfold sgC sgF
  rw [mtFault_1, rgE_S ht hka hsa, rgE_S hu hkb hsb]
  have h1 : bxApart (sgv X Y (RP r) ka 5) (sgv X Y (RP r) ka 6) (sgv X Y (RP r) ka 7) (sgv X Y (RP r) ka 8) (sgv X Y (RP q) kb 5) (sgv X Y (RP q) kb 6) (sgv X Y (RP q) kb 7) (sgv X Y (RP q) kb 8) = true := by
    rw [bxApart_t] at hap ⊢
    have e5 : sgv X Y (RP q) kb 5 = les (X (RP q + kb)) (X (RP q + kb + 1)) := box_lo hQ.1
    have e6 : sgv X Y (RP q) kb 6 = les (Y (RP q + kb)) (Y (RP q + kb + 1)) := box_lo hQ.2
    have e7 : sgv X Y (RP q) kb 7 = mor (X (RP q + kb)) (X (RP q + kb + 1)) := box_hi hQ.1
    have e8 : sgv X Y (RP q) kb 8 = mor (Y (RP q + kb)) (Y (RP q + kb + 1)) := box_hi hQ.2
    rw [e5, e6, e7, e8]
    have l1 := les_s (X (RP q + kb)) (X (RP q + kb + 1))
    have l2 := les_s (Y (RP q + kb)) (Y (RP q + kb + 1))
    have m1 := mor_s (X (RP q + kb)) (X (RP q + kb + 1))
    have m2 := mor_s (Y (RP q + kb)) (Y (RP q + kb + 1))
    omega
  rw [if_pos]
  unfold mtMeet; rw [if_neg (by rw [h1]; decide)]
/-- a segment with those of a ring -/
theorem fsR_e {g : Nat → fT} {i j k9 : Nat} (hB : bdd np X Y) (ht : rgE np X Y RP RN r t) (hu : rgE np X Y RP RN q u) (hct : smP X Y (RP r) (RP r + (RN r - 1)) = true) (hcu : smP X Y (RP q) (RP q + (RN q - 1)) = true) {ka : Nat} (hka : ka < RN r - 1) (hsa : mSeg X Y (RP r + ka) = true)
    (hid : t.1 0 = u.1 0 ↔ r = q) (htu : r = q → t = u)
    (hk9 : ∀ kb, kb < RN q - 1 → mSeg X Y (RP q + kb) = true → (k9 ≤ cntS X Y (RP q) kb ↔ fI i j ka ≤ kb))
    (hg : ∀ kb, kb < RN q - 1 → (mSeg X Y (RP q + kb) = false ∨ kb < fI i j ka ∨ mPr X Y RP RN r (RP r + ka) q (RP q + kb) ≤ 0) → g kb = none)
    (hs : ∀ kb, kb < RN q - 1 → mSeg X Y (RP q + kb) = true → fI i j ka ≤ kb → ¬ mPr X Y RP RN r (RP r + ka) q (RP q + kb) ≤ 0 → agr (some (tellC (mPr X Y RP RN r (RP r + ka) q (RP q + kb)) (t.2.1 0) (u.2.1 0), p2 (p1 (upd pl 0 shp) (t.2.1 0) (t.2.1 1) (nI ka)) (u.2.1 0) (u.2.1 1) (nI kb))) (g kb)) :
    agr (fsR shp pl t u (cntS X Y (RP r) ka) k9) (firstO (RN q - 1) g) := by
  unfold fsR
  by_cases hap : bxApart (tS t (cntS X Y (RP r) ka) 5) (tS t (cntS X Y (RP r) ka) 6) (tS t (cntS X Y (RP r) ka) 7) (tS t (cntS X Y (RP r) ka) 8) (u.2.2.2.1 0) (u.2.2.2.1 1) (u.2.2.2.1 2) (u.2.2.2.1 3) = false
  · rw [if_pos hap, rgE_n hu, en_fB, Option.map_map]
    apply agr_fBm
    intro kb hkb
    by_cases hsb : mSeg X Y (RP q + kb) = true
    · have hC := sgC_e hB ht hu hct hcu hka hkb hsa hsb hid htu
      unfold isC
      rw [hsb, Bool.true_and, hC]
      by_cases h1 : fI i j ka ≤ kb
      · rw [decide_eq_true ((hk9 kb hkb hsb).mpr h1), Bool.true_and]
        by_cases h2 : mPr X Y RP RN r (RP r + ka) q (RP q + kb) = 0
        · left; rw [decide_eq_true h2]; exact ⟨rfl, hg kb hkb (Or.inr (Or.inr (by rw [h2]; decide)))⟩
        · right; rw [decide_eq_false h2]
          have hp : ¬ mPr X Y RP RN r (RP r + ka) q (RP q + kb) ≤ 0 := by
            rcases mPr_v (X := X) (Y := Y) (RP := RP) (RN := RN) (r := r) (a := RP r + ka) (q := q) (b := RP q + kb) with h3 | h3 | h3 | h3
            · exact absurd h3 h2
            all_goals rw [h3]; decide
          refine ⟨rfl, ?_⟩
          have := hs kb hkb hsb h1 hp
          show agr (some (tellC (sgC t u (cntS X Y (RP r) ka) (cntS X Y (RP q) kb)) (t.2.1 0) (u.2.1 0), p2 (p1 (upd pl 0 shp) (t.2.1 0) (t.2.1 1) (tS t (cntS X Y (RP r) ka) 0)) (u.2.1 0) (u.2.1 1) (tS u (cntS X Y (RP q) kb) 0))) (g kb)
          rw [hC, rgE_S ht hka hsa, rgE_S hu hkb hsb]
          show agr (some (_, p2 (p1 (upd pl 0 shp) (t.2.1 0) (t.2.1 1) (nI (RP r + ka - RP r))) (u.2.1 0) (u.2.1 1) (nI (RP q + kb - RP q)))) (g kb)
          rw [Nat.add_sub_cancel_left, Nat.add_sub_cancel_left]; exact this
      · left; rw [decide_eq_false (fun h9 => h1 ((hk9 kb hkb hsb).mp h9))]; exact ⟨rfl, hg kb hkb (Or.inr (Or.inl (by omega)))⟩
    · left; have hsb := eq_false_of_ne_true hsb; rw [hsb]; exact ⟨rfl, hg kb hkb (Or.inl hsb)⟩
  · rw [if_neg hap]
    apply agr_nn rfl
    apply firstO_none
    intro kb hkb
    by_cases hsb : mSeg X Y (RP q + kb) = true
    · exact hg kb hkb (Or.inr (Or.inr (by rw [← sgC_e hB ht hu hct hcu hka hkb hsa hsb hid htu, ap_ring hB ht hu hka hkb hsa hsb hap]; decide)))
    · exact hg kb hkb (Or.inl (eq_false_of_ne_true hsb))
end

/-! a polygon: the pairs of its segments, its holes -/
theorem mPr_3 {X Y : Nat → Int32} {RP RN : Nat → Nat} {r a q b : Nat} (h : (mMeet X Y 0 0 a b).1 = 3) : mPr X Y RP RN r a q b = 3 := by
  unfold mPr mPair; rw [h]; rfl
section
variable {np : Nat} {X Y : Nat → Int32} {RP RN : Nat → Nat} {F nr : Nat} {shp pp : Int32} {pl pl2 : Nat → Int32} {RT : Nat → rgT}
theorem pairs_e (hB : bdd np X Y) (hE : plE np X Y RP RN F nr pp RT) (hcl : ∀ j, j < nr → clR X Y RP RN (F + j)) (h7 : pl7 pl pl2) : agr (firstO nr (ciS false shp pl nr RT)) (firstO nr (prI X Y RP RN F shp pp pl2 nr)) := by
  apply agr_fO
  intro i hi _ _
  obtain ⟨hEi, hpi, hni⟩ := hE.1 i hi
  unfold ciS prI
  rw [rgE_n hEi, en_fO]
  apply agr_fO
  intro ka hka _ _
  by_cases hsa : mSeg X Y (RP (F + i) + ka) = true
  · have hsa' : ¬ mSeg X Y (RP (F + i) + ka) = false := by rw [hsa]; decide
    unfold prA
    rw [if_neg hsa', if_neg hsa']
    apply agr_fO
    intro j hj _ _
    obtain ⟨hEj, hpj, hnj⟩ := hE.1 j hj
    unfold cjS prJ
    by_cases hji : j < i
    · rw [if_pos hji, if_pos hji]; trivial
    · rw [if_neg hji, if_neg hji, if_pos (by rw [hpi, hpj]; simp)]
      refine fsR_e (i := i) (j := j) hB hEi hEj (hcl i hi).2 (hcl j hj).2 hka hsa ⟨fun h => by rw [hE.2 i j hi hj h], fun h => by rw [show i = j by omega]⟩ (fun h => by rw [show i = j by omega]) ?_ ?_ ?_
      · intro kb _ hsb
        exact fI_cnt hsa (fun h => by rw [h]; exact hsb) (fun h => by rw [h])
      · intro kb _ h
        rcases h with h | h | h
        · exact prB_g h
        · exact if_pos h
        · exact prB_n h
      · intro kb _ hsb h1 h2
        rw [prB_s h1 (by rw [hsb]; decide) h2, hpi, hpj, hni, hnj]
        exact agr_s (if_pos rfl) (p2_7 (p1_7 (upd_7 h7)))
  · have hsa := eq_false_of_ne_true hsa
    rw [if_pos hsa, prA_s hsa]; trivial
theorem pr_none (h : firstO nr (prI X Y RP RN F shp pp pl nr) = none) {i j ka kb : Nat} (hi : i < nr) (hj : j < nr) (hij : i ≤ j) (hka : ka < RN (F + i) - 1) (hkb : kb < RN (F + j) - 1) (hsa : mSeg X Y (RP (F + i) + ka) = true) (hsb : mSeg X Y (RP (F + j) + kb) = true) (hf : fI i j ka ≤ kb) : mPr X Y RP RN (F + i) (RP (F + i) + ka) (F + j) (RP (F + j) + kb) ≤ 0 := by
  have h1 := firstO_no (firstO_no h i hi) ka hka
  unfold prA at h1
  rw [if_neg (by rw [hsa]; decide)] at h1
  have h2 := firstO_no h1 j hj
  unfold prJ at h2
  rw [if_neg (by omega)] at h2
  have h3 := firstO_no h2 kb hkb
  unfold prB at h3
  rw [if_neg (by omega), if_neg (by rw [hsb]; decide)] at h3
  apply Classical.byContradiction; intro h9
  rw [if_neg h9] at h3; cases h3
theorem pr_nsh (h : firstO nr (prI X Y RP RN F shp pp pl nr) = none) {i j : Nat} (hi : i < nr) (hj : j < nr) (hij : i ≠ j) : nsh X Y RP RN (F + i) (F + j) := by
  intro ka kb hka hkb hsa hsb h3
  rcases Nat.lt_or_gt_of_ne hij with h1 | h1
  · have := pr_none h hi hj (by omega) hka hkb hsa hsb (by unfold fI; rw [if_neg hij]; omega)
    rw [mPr_3 h3.1] at this; exact absurd this (by decide)
  · have := pr_none h hj hi (by omega) hkb hka hsb hsa (by unfold fI; rw [if_neg (Ne.symm hij)]; omega)
    rw [mPr_3 h3.2] at this; exact absurd this (by decide)
theorem holes_e (hB : bdd np X Y) (hE : plE np X Y RP RN F nr pp RT) (hcl : ∀ j, j < nr → clR X Y RP RN (F + j)) (hsg : ∀ k, k < nr → ∃ k2, k2 < RN (F + k) - 1 ∧ mSeg X Y (RP (F + k) + k2) = true) (hns : ∀ i j, i < nr → j < nr → i ≠ j → nsh X Y RP RN (F + i) (F + j)) (h7 : pl7 pl pl2) :
    agr (firstO nr (hoC shp pp pl RT)) (firstO nr (hoM X Y RP RN F shp pp pl2)) ∧ agr (firstO nr (fun i => firstO nr (phC shp pp pl RT i))) (firstO nr (fun i => firstO nr (phM X Y RP RN F shp pp pl2 i))) := by
  have hin : ∀ i j, i < nr → j < nr → i ≠ j → rIn (RT i) (RT j) = mIn X Y RP RN (F + i) (F + j) := fun i j hi hj hij => in_e hB (hE.1 i hi).1 (hE.1 j hj).1 (hcl j hj).2 (hsg i hi) (hns i j hi hj hij)
  constructor
  · apply agr_fO
    intro i hi _ _
    unfold hoC hoM
    by_cases h0 : i < 1
    · rw [if_pos h0, if_pos h0]; trivial
    · rw [if_neg h0, if_neg h0, hin i 0 hi (by omega) (by omega)]
      show agr (if mIn X Y RP RN (F + i) F = false then _ else _) _
      by_cases h1 : mIn X Y RP RN (F + i) F = false
      · rw [if_pos h1, if_pos h1]; exact agr_s rfl (p1_7 (upd_7 h7))
      · rw [if_neg h1, if_neg h1]; trivial
  · apply agr_fO
    intro i hi _ _
    apply agr_fO
    intro j hj _ _
    unfold phC phM
    by_cases h0 : i < 1
    · rw [if_pos h0, if_pos h0]; trivial
    · by_cases h1 : j < i + 1
      · rw [if_neg h0, if_neg h0, if_pos h1, if_pos h1]; trivial
      · rw [if_neg h0, if_neg h0, if_neg h1, if_neg h1, hin i j hi hj (by omega), hin j i hj hi (by omega)]
        by_cases h2 : mIn X Y RP RN (F + i) (F + j) = false ∧ mIn X Y RP RN (F + j) (F + i) = false
        · rw [if_pos h2, if_pos h2]; trivial
        · rw [if_neg h2, if_neg h2]; exact agr_s rfl (p2_7 (p1_7 (upd_7 h7)))
end
/-! two steps that begin at one place -/
section
variable {np : Nat} {X Y : Nat → Int32} {a b : Nat}
theorem meet_c (hB : bdd np X Y) (ha : a + 1 < np) (hb : b + 1 < np) {x y : Int32} (h1 : onX X Y a x y) (h2 : onX X Y b x y) (hx : x = X a ∧ y = Y a) : (mMeet X Y 0 0 a b).1 ≠ 0 := by
  have A0 := hB a (by omega)
  have B0 := hB b (by omega)
  have B1 := hB (b + 1) hb
  intro h0
  by_cases hc : mSide X Y a (a + 1) (X b) (Y b) = 0 ∧ mSide X Y a (a + 1) (X (b + 1)) (Y (b + 1)) = 0
  · rw [mMeet_o hc] at h0
    rcases mAlong_c (X := X) (Y := Y) (a := a) (b := b) with ⟨h, -⟩ | ⟨-, ⟨-, -, h⟩ | ⟨-, h⟩⟩
    · exact h.elim (on_nap h1.2.1 h2.2.1) (on_nap h1.2.2 h2.2.2)
    · rw [h] at h0; exact absurd h0 (by simp)
    · rw [h, if_pos rfl] at h0; exact absurd h0 (by simp)
  · rw [mMeet_n hc] at h0
    have hE := mEnds_c (a := a) (b := b) hB ha hb
    have hne : (mEnds X Y 0 0 a b).1 ≠ 0 := by
      rcases hE with ⟨-, h, -⟩ | ⟨h, -⟩
      · rw [← hx.1, ← hx.2] at h; exact absurd h2 h
      · rw [h]; decide
    split at h0
    · exact hne h0
    · split at h0
      · exact hne h0
      · exact absurd h0 (by simp)
end
section
variable {np : Nat} {X Y : Nat → Int32} {RP RN : Nat → Nat} {r : Nat}
/-- of a ring without faults no two segments begin at one place -/
theorem no_rep (hB : bdd np X Y) (hnp : RP r + RN r ≤ np) (hcl : smP X Y (RP r) (RP r + (RN r - 1)) = true) {ka kb : Nat} (hka : ka < RN r - 1) (hkb : kb < RN r - 1) (hsa : mSeg X Y (RP r + ka) = true) (hsb : mSeg X Y (RP r + kb) = true) (hp : mPr X Y RP RN r (RP r + ka) r (RP r + kb) ≤ 0) : smP X Y (RP r + ka) (RP r + kb) = false := by
  cases hs : smP X Y (RP r + ka) (RP r + kb) with
  | false => rfl
  | true =>
    exfalso
    rw [smP_iff] at hs
    obtain ⟨ka2, a1, a2, a3, a4, a5⟩ := next_e (X := X) (Y := Y) (po := RP r) (m := RN r) (by omega) hka hsa hcl
    obtain ⟨kb2, b1, b2, b3, b4, b5⟩ := next_e (X := X) (Y := Y) (po := RP r) (m := RN r) (by omega) hkb hsb hcl
    have hna : ¬ (X (RP r + ka) = X (RP r + ka + 1) ∧ Y (RP r + ka) = Y (RP r + ka + 1)) := by rw [mSeg_t] at hsa; rw [i32_eq, i32_eq]; exact hsa
    have hnb : ¬ (X (RP r + kb) = X (RP r + kb + 1) ∧ Y (RP r + kb) = Y (RP r + kb + 1)) := by rw [mSeg_t] at hsb; rw [i32_eq, i32_eq]; exact hsb
    have hpe := pair_eq (nb := false) (RP := RP) (RN := RN) (r := r) (q := r) hB (show RP r + ka + 1 < np by omega) (show RP r + kb + 1 < np by omega) (show RP r + ka2 + 1 < np by omega) (show RP r + kb2 + 1 < np by omega) hsa hsb a2 a4 b4 a5 b5 (by
      intro _
      refine ⟨fun h => absurd h (by decide), fun h => ?_⟩
      rcases h with h | h
      · exact absurd ⟨hs.1.trans ((congrArg X h).symm.trans a5.1.symm), hs.2.trans ((congrArg Y h).symm.trans a5.2.symm)⟩ hna
      · exact absurd ⟨hs.1.symm.trans ((congrArg X h).symm.trans b5.1.symm), hs.2.symm.trans ((congrArg Y h).symm.trans b5.2.symm)⟩ hnb)
    have hm := meet_c hB (show RP r + ka + 1 < np by omega) (show RP r + kb + 1 < np by omega) (x := X (RP r + ka)) (y := Y (RP r + ka)) (onS_f _ _ _ _) (by rw [hs.1, hs.2]; exact onS_f _ _ _ _) ⟨rfl, rfl⟩
    rw [hpe] at hp
    unfold cFt at hp
    rcases meet_eq hB (show RP r + ka + 1 < np by omega) (show RP r + kb + 1 < np by omega) hsa hsb with ⟨h1, h2⟩ | ⟨h1, h2⟩ | ⟨h1, h2⟩ | ⟨h1, h2, -⟩
    · exact hm h2
    · rw [h1, if_neg (show ¬ (3 : Int32) = 0 by decide), if_pos rfl] at hp; exact absurd hp (by decide)
    · rw [h1, if_neg (show ¬ (1 : Int32) = 0 by decide), if_neg (show ¬ (1 : Int32) = 3 by decide), if_pos rfl] at hp; exact absurd hp (by decide)
    · rw [h1, if_neg (show ¬ (2 : Int32) = 0 by decide), if_neg (show ¬ (2 : Int32) = 3 by decide), if_neg (show ¬ (2 : Int32) = 1 by decide), if_pos rfl, if_pos rfl] at hp; exact absurd hp (by decide)
end

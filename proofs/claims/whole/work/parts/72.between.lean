/-! the calls: what holds between them -/
def k13 (v : Int32) : Prop := v = 1 ∨ v = 2 ∨ v = 3
/-- what is open: the class's row and the model's, and how it lies within each other -/
def stO (ns no : Nat) (f g : Nat → Nat → Int32) (OP : Nat → Nat) : Prop :=
  (∀ j, j < no → f 6 j = nI (OP j) ∧ g 11 j = nI (OP j) ∧ OP j < ns) ∧ (∀ j, j + 1 < no → ¬ k13 (f 0 (OP j)) ∧ f 1 (OP (j + 1)) = nI (OP j)) ∧
  (0 < no → k13 (f 0 (OP (no - 1))) → OP (no - 1) + 1 = ns) ∧ ∀ j, j < no → f 0 (OP j) = 6 → ∀ s2, OP j < s2 → s2 < ns → f 1 s2 = nI (OP j)
def jI (ns nc np nr no : Nat) (f g : Nat → Nat → Int32) (q : Nat → Int32) (wh : Int32) (pl : Nat → Int32) (jd : Bool) (FC FP FG RC PF PC RP RN OP : Nat → Nat) (PA : Nat → Int32) : Prop :=
  sR ns nc np nr f g FC FP FG RC PF PC RP RN PA ∧ moN q ns (2 * ns + nr) np nr no ∧ stO ns no f g OP ∧ (jd = false → wh = 0 ∧ ∀ j, j < 7 → pl j = -1) ∧
  (jd = true → no = 0 ∧ 0 < ns ∧ ∃ pl0, (∀ j, j < 7 → pl0 j = -1) ∧ jgD f ns FC FP pl0 wh pl) ∧ ∀ j, j < 7 → g 12 j = pl j
section
variable {ns nc np nr no : Nat} {f g : Nat → Nat → Int32} {q : Nat → Int32} {wh : Int32} {pl : Nat → Int32} {jd : Bool} {FC FP FG RC PF PC RP RN OP : Nat → Nat} {PA : Nat → Int32}
theorem jI_b (h : jI ns nc np nr no f g q wh pl jd FC FP FG RC PF PC RP RN OP PA) : ns ≤ 2048 ∧ np ≤ 4096 ∧ no ≤ 50 ∧ 2 * ns + nr ≤ 4096 ∧ nc ≤ ns + nr := ⟨h.2.1.2.2.2.2.2.1, h.2.1.2.2.2.2.2.2.2.1, h.2.1.2.2.2.2.2.2.2.2.1, h.2.1.2.2.2.2.2.2.1, h.1.2.2.2.2.2.2.1.2.2.2⟩
theorem top_e (h : jI ns nc np nr no f g q wh pl jd FC FP FG RC PF PC RP RN OP PA) (hn : 0 < no) : rwGet (f 6) no (nI no - 1) = nI (OP (no - 1)) := by
  have hb := jI_b h
  rw [show nI no - 1 = nI (no - 1) from nI_s no 1 hn, rwGet_n (by omega) (by omega)]
  exact (h.2.2.1.1 (no - 1) (by omega)).1
theorem out_t (h : jI ns nc np nr no f g q wh pl jd FC FP FG RC PF PC RP RN OP PA) : shOuter f no = topI OP no := by
  unfold shOuter topI
  by_cases h0 : no ≤ 0
  · rw [if_pos h0, if_pos h0]
  · rw [if_neg h0, if_neg h0, top_e h (by omega)]
theorem kind_e (h : jI ns nc np nr no f g q wh pl jd FC FP FG RC PF PC RP RN OP PA) (hn : 0 < no) : shKind f ns no = f 0 (OP (no - 1)) := by
  have hb := jI_b h
  unfold shKind
  rw [if_neg (by omega), top_e h hn, rwGet_n (h.2.2.1.1 (no - 1) (by omega)).2.2 (by omega)]
theorem kind_0 : shKind f ns 0 = 0 := if_pos (Nat.le_refl _)
theorem take_e (h : jI ns nc np nr no f g q wh pl jd FC FP FG RC PF PC RP RN OP PA) {x : Int32} : shTake f ns no x = mTake (f 0) OP ns no x := by
  unfold shTake mTake
  by_cases h0 : no = 0
  · subst h0
    rw [if_pos rfl, kind_0]
    by_cases h1 : ns = 0
    · rw [if_pos h1, if_pos h1]
    · rw [if_neg h1, if_neg h1]; rfl
  · have hs := (h.2.2.1.1 (no - 1) (by omega)).2.2
    rw [if_neg h0, if_neg (show ¬ ns = 0 by omega), kind_e h (by omega)]
    by_cases h1 : no < 50
    · rw [if_pos h1, if_neg (show ¬ 50 ≤ no by omega)]
      by_cases h2 : f 0 (OP (no - 1)) = 7
      · rw [if_pos h2, if_pos h2]
      · rw [if_neg h2, if_neg h2]
        have h3 : f 0 (OP (no - 1)) < 4 ↔ f 0 (OP (no - 1)) ≤ 3 := by
          rw [i32_lt, i32_le]; have e1 : (4 : Int32).toInt = 4 := rfl; have e2 : (3 : Int32).toInt = 3 := rfl; omega
        by_cases h4 : f 0 (OP (no - 1)) ≤ 3
        · rw [if_pos (h3.mpr h4), if_pos h4]
        · rw [if_neg (fun h9 => h4 (h3.mp h9)), if_neg h4]
          have h5 : x - 1 = f 0 (OP (no - 1)) - 4 ↔ x = f 0 (OP (no - 1)) - 3 := ⟨fun h9 => by grind, fun h9 => by grind⟩
          by_cases h6 : x = f 0 (OP (no - 1)) - 3
          · rw [if_pos (h5.mpr h6), if_pos h6]
          · rw [if_neg (fun h9 => h6 (h5.mp h9)), if_neg h6]
    · rw [if_neg h1, if_pos (show 50 ≤ no by omega)]
theorem isCo_e {x : Int32} : isCo x = wiB x (-1000000000) 1000000000 := rfl
theorem x17 {x : Int32} : wiB x 1 7 = false ↔ (x < 1 ∨ ¬ x ≤ 7) := by
  rw [bf_t wiB_t, i32_lt, i32_le]; have e1 : (1 : Int32).toInt = 1 := rfl; have e2 : (7 : Int32).toInt = 7 := rfl; omega
theorem x06 {x : Int32} : wiB x 0 6 = false ↔ (x < 0 ∨ ¬ x < 7) := by
  rw [bf_t wiB_t, i32_lt, i32_lt]; have e1 : (0 : Int32).toInt = 0 := rfl; have e2 : (6 : Int32).toInt = 6 := rfl; have e3 : (7 : Int32).toInt = 7 := rfl; omega
/-- the top of kind 1 to 3 is the last shape, and what of it was told -/
theorem takeP_e (h : jI ns nc np nr no f g q wh pl jd FC FP FG RC PF PC RP RN OP PA) (hn : 0 < no) : shTakeP f ns nc np no = mCan (f 0) PC RC (OP (no - 1)) := by
  have hb := jI_b h
  have hst := h.2.2.1
  have hsR := h.1
  obtain ⟨hV, hS, hX, hR, hB, h6, h7, h8, h9⟩ := hsR
  have hs := (hst.1 (no - 1) (by omega)).2.2
  have htop := hst.2.2.1 hn
  unfold shTakeP mCan
  rw [kind_e h hn]
  by_cases k1 : f 0 (OP (no - 1)) = 1
  · rw [if_pos k1, if_pos k1]
    have hl := htop (Or.inl k1)
    obtain ⟨a1, a2, a3, a4⟩ := (h6 _ hs).1 (Or.inl k1)
    rw [hl, hV.2.1] at a1
    have hc : nc - 1 = FC (OP (no - 1)) := by omega
    have hm : (1 : Int32) ≠ 2 := by decide
    rw [show nI nc - 1 = nI (nc - 1) from nI_s nc 1 (by omega), rwGet_n (by omega) (by omega), hc, hV.2.2.1 _ (by omega), if_neg (show ¬ f 0 (OP (no - 1)) = 2 by rw [k1]; decide), if_neg (show ¬ f 0 (OP (no - 1)) = 3 by rw [k1]; decide)]
    rw [show FC (OP (no - 1)) + 1 = nc by omega, hV.2.2.2.1] at a3
    by_cases hp : PC (OP (no - 1)) = 0
    · rw [if_pos hp, if_pos (by congr 1; omega)]
    · rw [if_neg hp, if_neg (fun h9 => hp (by have := nI_ij (show FP (FC (OP (no - 1))) < 2 ^ 31 by omega) (show np < 2 ^ 31 by omega) h9; omega))]
  · rw [if_neg k1, if_neg k1]
    by_cases k3 : f 0 (OP (no - 1)) = 3
    · rw [if_pos k3, if_neg (show ¬ f 0 (OP (no - 1)) = 2 by rw [k3]; decide), if_pos k3, top_e h hn, rwGet_n hs (by omega), hV.1 _ hs]
      have hl := htop (Or.inr (Or.inr k3))
      have a1 := ((h6 _ hs).2.1 k3).1
      rw [hl, hV.2.1] at a1
      by_cases hp : RC (OP (no - 1)) ≤ 0
      · rw [if_pos hp, if_pos (by rw [show FC (OP (no - 1)) = nc by omega]; exact Int32.le_refl _)]
      · rw [if_neg hp, if_neg]
        intro h9
        have := (nI_lex (a := nc) (b := FC (OP (no - 1))) (by rfl) (by rfl) (by omega) (by omega)).mp h9
        omega
    · rw [if_neg k3, if_neg k3]
theorem takeP_0 : shTakeP f ns nc np 0 = false := by
  unfold shTakeP; rw [kind_0]; rfl
end

/-! the fault of two steps -/
theorem mBeg_e {X Y : Nat → Int32} {mx my : Int32} {a : Nat} : sgBegins (X a) (Y a) mx my = mBeg X Y mx my a := rfl
theorem mBeg_t {X Y : Nat → Int32} {mx my : Int32} {a : Nat} : mBeg X Y mx my a = true ↔ X a = mx ∧ Y a = my := by
  unfold mBeg; by_cases h1 : X a = mx <;> by_cases h2 : Y a = my <;> simp [h1, h2]
/-- the class's fault of two steps: sm, whether they are of one ring; nb, whether they are neighbours; a2 and b2, the steps behind -/
def cFt (X Y : Nat → Int32) (sm : Prop) [Decidable sm] (nb : Bool) (a a2 b b2 : Nat) : Int32 :=
  if (cMt X Y a b).1 = 0 then 0 else if (cMt X Y a b).1 = 3 then 3 else if (cMt X Y a b).1 = 1 then 4 else if sm then (if nb = false then 5 else 0) else
  (if mtCross (cMt X Y a b).2.1 (cMt X Y a b).2.2 (X a) (Y a) (X (a + 1)) (Y (a + 1)) (X (a2 + 1)) (Y (a2 + 1)) (X b) (Y b) (X (b + 1)) (Y (b + 1)) (X (b2 + 1)) (Y (b2 + 1)) = false then 0 else 4)
section
variable {np : Nat} {X Y : Nat → Int32} {a b a2 b2 : Nat}
theorem mCr_eq {RP RN : Nat → Nat} {r q : Nat} {mx my : Int32} (hB : bdd np X Y) (ha : a + 1 < np) (hb : b + 1 < np) (ha2 : a2 + 1 < np) (hb2 : b2 + 1 < np) (hmx : bd mx) (hmy : bd my)
    (na2 : mSeg X Y a2 = true) (ea2 : nxF X Y (RP r) (RN r) (RN r) (a + 1) a = a2) (eb2 : nxF X Y (RP q) (RN q) (RN q) (b + 1) b = b2) (ca : X (a + 1) = X a2 ∧ Y (a + 1) = Y a2)
    (g1 : mBeg X Y mx my a = false) (g2 : mBeg X Y mx my b = false) :
    mtCross mx my (X a) (Y a) (X (a + 1)) (Y (a + 1)) (X (a2 + 1)) (Y (a2 + 1)) (X b) (Y b) (X (b + 1)) (Y (b + 1)) (X (b2 + 1)) (Y (b2 + 1)) = mCr X Y RP RN mx my r a q b := by
  have A0 := hB a (by omega)
  have A1 := hB (a + 1) ha
  have B0 := hB b (by omega)
  have B1 := hB (b + 1) hb
  have C1 := hB (a2 + 1) ha2
  have E1 := hB (b2 + 1) hb2
  have hf : ¬ (X a = mx ∧ Y a = my) := by rw [← mBeg_t, g1]; decide
  have hn2 : ¬ (X a2 = X (a2 + 1) ∧ Y a2 = Y (a2 + 1)) := by rw [mSeg_t] at na2; rw [i32_eq, i32_eq]; exact na2
  -- the way on
  have hl : ∀ {wx wy : Int32}, bd wx → bd wy → sgLeft (X a) (Y a) (X (a + 1)) (Y (a + 1)) (X (a2 + 1)) (Y (a2 + 1)) mx my wx wy = ilf (wx - mx) (wy - my) (X (mWb X Y (RP r) (RN r) mx my a + 1) - mx) (Y (mWb X Y (RP r) (RN r) mx my a + 1) - my) (X a - mx) (Y a - my) := by
    intro wx wy hw1 hw2
    rw [sgLeft_e]
    by_cases h : X (a + 1) = mx ∧ Y (a + 1) = my
    · rw [if_pos h, sgLe_i C1.1 C1.2 A0.1 A0.2 hmx hmy hw1 hw2 (fun h9 => hn2 ⟨ca.1.symm.trans (h.1.trans h9.1.symm), ca.2.symm.trans (h.2.trans h9.2.symm)⟩) hf]
      unfold mWb; rw [if_pos h.1, if_pos h.2, ea2]
    · rw [if_neg h, sgLe_i A1.1 A1.2 A0.1 A0.2 hmx hmy hw1 hw2 h hf]
      have : mWb X Y (RP r) (RN r) mx my a = a := by
        unfold mWb
        by_cases h1 : X (a + 1) = mx
        · rw [if_pos h1, if_neg (fun h2 => h ⟨h1, h2⟩)]
        · rw [if_neg h1]
      rw [this]
  unfold mtCross mCr
  rw [mBeg_e, mBeg_e, if_pos g1, if_pos g2]
  by_cases h : X (b + 1) = mx ∧ Y (b + 1) = my
  · have hw : mWb X Y (RP q) (RN q) mx my b = b2 := by unfold mWb; rw [if_pos h.1, if_pos h.2, eb2]
    rw [if_neg (by rw [if_pos h.1, if_pos h.2]; decide), hl B0.1 B0.2, hl E1.1 E1.2, hw]
  · have hw : mWb X Y (RP q) (RN q) mx my b = b := by
      unfold mWb
      by_cases h1 : X (b + 1) = mx
      · rw [if_pos h1, if_neg (fun h2 => h ⟨h1, h2⟩)]
      · rw [if_neg h1]
    have h0 : ((if X (b + 1) = mx then (if Y (b + 1) = my then 1 else 0) else 0) : Int32) = 0 := by
      by_cases h1 : X (b + 1) = mx
      · rw [if_pos h1, if_neg (fun h2 => h ⟨h1, h2⟩)]
      · rw [if_neg h1]
    rw [if_pos h0, hl B0.1 B0.2, hl B1.1 B1.2, hw]
theorem pair_eq {RP RN : Nat → Nat} {r q : Nat} {nb : Bool} (hB : bdd np X Y) (ha : a + 1 < np) (hb : b + 1 < np) (ha2 : a2 + 1 < np) (hb2 : b2 + 1 < np) (na : mSeg X Y a = true) (nB : mSeg X Y b = true)
    (na2 : mSeg X Y a2 = true) (ea2 : nxF X Y (RP r) (RN r) (RN r) (a + 1) a = a2) (eb2 : nxF X Y (RP q) (RN q) (RN q) (b + 1) b = b2) (ca : X (a + 1) = X a2 ∧ Y (a + 1) = Y a2) (cb : X (b + 1) = X b2 ∧ Y (b + 1) = Y b2)
    (hnb : r = q → (nb = true ↔ (a2 = b ∨ b2 = a))) : mPr X Y RP RN r a q b = cFt X Y (r = q) nb a a2 b b2 := by
  unfold mPr mPair cFt
  rcases meet_eq hB ha hb na nB with ⟨h1, h2⟩ | ⟨h1, h2⟩ | ⟨h1, h2⟩ | ⟨h1, h2, h3, ⟨h4, h5⟩, h6⟩
  · rw [h1, h2]; rfl
  · rw [h1, h2]; rfl
  · rw [h1, h2]; rfl
  · rw [h1, h2, if_pos (show (1 : Int32) ≤ 1 by decide), if_neg (show ¬ (1 : Int32) = 0 by decide), if_neg (show ¬ (2 : Int32) = 0 by decide), if_neg (show ¬ (2 : Int32) = 3 by decide), if_neg (show ¬ (2 : Int32) = 1 by decide), h3]
    by_cases hrq : r = q
    · rw [if_pos hrq, if_pos hrq]
      subst hrq
      have hnb := hnb rfl
      rw [ea2, eb2]
      by_cases g1 : a2 = b
      · have hP := h6 (X b) (Y b) (by rw [← g1, ← ca.1, ← ca.2]; exact onS_t _ _ _ _) (onS_f _ _ _ _)
        rw [if_pos g1, if_neg (by rw [mBeg_t.mpr hP]; decide), if_neg (by rw [hnb.mpr (Or.inl g1)]; decide)]
      · rw [if_neg g1]
        by_cases g2 : b2 = a
        · have hP := h6 (X a) (Y a) (onS_f _ _ _ _) (by rw [← g2, ← cb.1, ← cb.2]; exact onS_t _ _ _ _)
          rw [if_pos g2, if_neg (by rw [if_neg (by rw [mBeg_t.mpr hP]; decide)]; decide), if_neg (by rw [hnb.mpr (Or.inr g2)]; decide)]
        · rw [if_neg g2, if_pos]
          cases h : nb with
          | false => rfl
          | true => exact absurd (hnb.mp h) (fun h9 => h9.elim g1 g2)
    · rw [if_neg hrq, if_neg hrq]
      by_cases g1 : mBeg X Y (mMeet X Y 0 0 a b).2.1 (mMeet X Y 0 0 a b).2.2 a = false
      · by_cases g2 : mBeg X Y (mMeet X Y 0 0 a b).2.1 (mMeet X Y 0 0 a b).2.2 b = false
        · rw [if_pos g1, if_pos g2, mCr_eq hB ha hb ha2 hb2 h4 h5 na2 ea2 eb2 ca g1 g2]
        · rw [if_pos g1, if_neg g2, if_pos]
          unfold mtCross; rw [mBeg_e, mBeg_e, if_pos g1, if_neg g2]
      · rw [if_neg g1, if_pos]
        unfold mtCross; rw [mBeg_e, if_neg g1]
end

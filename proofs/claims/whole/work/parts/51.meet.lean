/-! two steps meet -/
theorem i32_le {a b : Int32} : a ≤ b ↔ a.toInt ≤ b.toInt := Int32.le_iff_toInt_le
theorem i32_lt {a b : Int32} : a < b ↔ a.toInt < b.toInt := Int32.lt_iff_toInt_lt
theorem i32_eq {a b : Int32} : a = b ↔ a.toInt = b.toInt := Int32.toInt_inj.symm
theorem iMin_les {a b : Int32} : iMin a b = les a b := by
  unfold iMin les
  by_cases h1 : b < a
  · rw [if_pos h1, if_pos (by rw [i32_lt] at h1; rw [i32_le]; omega)]
  · rw [if_neg h1]
    by_cases h2 : b ≤ a
    · rw [if_pos h2, i32_eq]; rw [i32_lt] at h1; rw [i32_le] at h2; omega
    · rw [if_neg h2]
theorem iMax_mor {a b : Int32} : iMax a b = mor a b := by
  unfold iMax mor
  by_cases h1 : a < b
  · rw [if_pos h1, if_pos (by rw [i32_lt] at h1; rw [i32_le]; omega)]
  · rw [if_neg h1]
    by_cases h2 : a ≤ b
    · rw [if_pos h2, i32_eq]; rw [i32_lt] at h1; rw [i32_le] at h2; omega
    · rw [if_neg h2]
theorem les_s (x y : Int32) : ((les x y).toInt = x.toInt ∧ x.toInt ≤ y.toInt) ∨ ((les x y).toInt = y.toInt ∧ y.toInt ≤ x.toInt) := by
  unfold les
  by_cases h : y ≤ x
  · rw [if_pos h]; rw [i32_le] at h; omega
  · rw [if_neg h]; rw [i32_le] at h; omega
theorem mor_s (x y : Int32) : ((mor x y).toInt = x.toInt ∧ y.toInt ≤ x.toInt) ∨ ((mor x y).toInt = y.toInt ∧ x.toInt ≤ y.toInt) := by
  unfold mor
  by_cases h : x ≤ y
  · rw [if_pos h]; rw [i32_le] at h; omega
  · rw [if_neg h]; rw [i32_le] at h; omega
theorem les_mx {x : Int32} (h : bd x) : les 1000000000 x = x := by
  have := les_s 1000000000 x
  have h1 := h.2
  rw [i32_eq]; have e : (1000000000 : Int32).toInt = 1000000000 := rfl; omega
theorem mor_mn {x : Int32} (h : bd x) : mor (-1000000000) x = x := by
  have := mor_s (-1000000000) x
  have h1 := h.1
  rw [i32_eq]; have e : (-1000000000 : Int32).toInt = -1000000000 := rfl; omega
theorem box_lo {x y : Int32} (h : bd x) : iMin (iMin 1000000000 x) y = les x y := by rw [iMin_les, iMin_les, les_mx h]
theorem box_hi {x y : Int32} (h : bd x) : iMax (iMax (-1000000000) x) y = mor x y := by rw [iMax_mor, iMax_mor, mor_mn h]
theorem wiB_t {x lo hi : Int32} : wiB x lo hi = true ↔ lo.toInt ≤ x.toInt ∧ x.toInt ≤ hi.toInt := by
  unfold wiB
  by_cases h1 : x < lo
  · rw [if_pos h1]; rw [i32_lt] at h1; simp; omega
  · rw [if_neg h1]
    by_cases h2 : hi < x
    · rw [if_pos h2]; rw [i32_lt] at h2; simp; omega
    · rw [if_neg h2]; rw [i32_lt] at h1 h2; simp; omega
theorem btw_t {x a b : Int32} : btw x a b = true ↔ btI x.toInt a.toInt b.toInt := by
  unfold btw btI
  by_cases h : b ≤ a
  · rw [if_pos h, wiB_t]; rw [i32_le] at h; omega
  · rw [if_neg h, wiB_t]; rw [i32_le] at h; omega
/-- the points up to np are no larger than they may be -/
def bdd (np : Nat) (X Y : Nat → Int32) : Prop := ∀ j, j < np → bd (X j) ∧ bd (Y j)
theorem mSide_e {X Y : Nat → Int32} {a b : Nat} {x y : Int32} : mSide X Y a b x y = sgn (sgSide (X a) (Y a) (X b) (Y b) x y) := rfl
abbrev sdX (X Y : Nat → Int32) (a : Nat) (x y : Int32) : Int := sd (X a).toInt (Y a).toInt (X (a + 1)).toInt (Y (a + 1)).toInt x.toInt y.toInt
abbrev onX (X Y : Nat → Int32) (a : Nat) (x y : Int32) : Prop := onS (X a).toInt (Y a).toInt (X (a + 1)).toInt (Y (a + 1)).toInt x.toInt y.toInt
section
variable {np : Nat} {X Y : Nat → Int32} {a b : Nat} {x y : Int32}
theorem side_i (hB : bdd np X Y) (ha : a + 1 < np) (hx : bd x) (hy : bd y) : (sgSide (X a) (Y a) (X (a + 1)) (Y (a + 1)) x y).toInt = sdX X Y a x y := sgSide_i (hB a (by omega)).1 (hB a (by omega)).2 (hB (a + 1) ha).1 (hB (a + 1) ha).2 hx hy
theorem mSide_c (hB : bdd np X Y) (ha : a + 1 < np) (hx : bd x) (hy : bd y) : sdX X Y a x y < 0 ∧ mSide X Y a (a + 1) x y = -1 ∨ sdX X Y a x y = 0 ∧ mSide X Y a (a + 1) x y = 0 ∨ 0 < sdX X Y a x y ∧ mSide X Y a (a + 1) x y = 1 := by
  rw [mSide_e, ← side_i hB ha hx hy]; exact sgn_c _
theorem mSide_0 (hB : bdd np X Y) (ha : a + 1 < np) (hx : bd x) (hy : bd y) : mSide X Y a (a + 1) x y = 0 ↔ sdX X Y a x y = 0 := by
  rcases mSide_c hB ha hx hy with ⟨h1, h2⟩ | ⟨h1, h2⟩ | ⟨h1, h2⟩
  · rw [h2]; exact ⟨fun h => absurd h (by decide), fun h => by omega⟩
  · rw [h2]; exact ⟨fun _ => h1, fun _ => rfl⟩
  · rw [h2]; exact ⟨fun h => absurd h (by decide), fun h => by omega⟩
theorem mOn_t (hB : bdd np X Y) (ha : a + 1 < np) (hx : bd x) (hy : bd y) : mOn X Y x y a = true ↔ onX X Y a x y := by
  unfold mOn
  by_cases h1 : mSide X Y a (a + 1) x y = 0
  · rw [if_pos h1]; rw [mSide_0 hB ha hx hy] at h1
    by_cases h2 : btw x (X a) (X (a + 1)) = false
    · rw [if_pos h2]; refine ⟨fun h => absurd h (by decide), fun h => ?_⟩
      rw [btw_t.mpr h.2.1] at h2; cases h2
    · rw [if_neg h2]
      by_cases h3 : btw y (Y a) (Y (a + 1)) = false
      · rw [if_pos h3]; refine ⟨fun h => absurd h (by decide), fun h => ?_⟩
        rw [btw_t.mpr h.2.2] at h3; cases h3
      · rw [if_neg h3]; exact ⟨fun _ => ⟨h1, btw_t.mp (eq_true_of_ne_false h2), btw_t.mp (eq_true_of_ne_false h3)⟩, fun _ => rfl⟩
  · rw [if_neg h1]; refine ⟨fun h => absurd h (by decide), fun h => absurd ((mSide_0 hB ha hx hy).mpr h.1) h1⟩
theorem mOn_f (hB : bdd np X Y) (ha : a + 1 < np) (hx : bd x) (hy : bd y) : mOn X Y x y a = false ↔ ¬ onX X Y a x y := by
  rw [← mOn_t hB ha hx hy]; cases mOn X Y x y a <;> simp
end
/-- the ends that lie on the other one -/
def mEnds (X Y : Nat → Int32) (mx my : Int32) (a b : Nat) : Int32 × Int32 × Int32 := (if mOn X Y (X a) (Y a) b = false then (if mOn X Y (X (a + 1)) (Y (a + 1)) b = false then (if mOn X Y (X b) (Y b) a = false then (if mOn X Y (X (b + 1)) (Y (b + 1)) a = false then (0, mx, my) else (1, X (b + 1), Y (b + 1))) else (1, X b, Y b)) else (1, X (a + 1), Y (a + 1))) else (1, X a, Y a))
theorem mMeet_n {X Y : Nat → Int32} {mx my : Int32} {a b : Nat} (h : ¬ (mSide X Y a (a + 1) (X b) (Y b) = 0 ∧ mSide X Y a (a + 1) (X (b + 1)) (Y (b + 1)) = 0)) :
    mMeet X Y mx my a b = if 0 ≤ (mSide X Y a (a + 1) (X b) (Y b) * mSide X Y a (a + 1) (X (b + 1)) (Y (b + 1))) then mEnds X Y mx my a b else (if 0 ≤ (mSide X Y b (b + 1) (X a) (Y a) * mSide X Y b (b + 1) (X (a + 1)) (Y (a + 1))) then mEnds X Y mx my a b else (2, mx, my)) := by
  unfold mMeet mEnds
  by_cases h1 : mSide X Y a (a + 1) (X b) (Y b) = 0
  · rw [if_pos h1, if_neg (fun h2 => h ⟨h1, h2⟩)]
  · rw [if_neg h1]
theorem mMeet_o {X Y : Nat → Int32} {mx my : Int32} {a b : Nat} (h : mSide X Y a (a + 1) (X b) (Y b) = 0 ∧ mSide X Y a (a + 1) (X (b + 1)) (Y (b + 1)) = 0) :
    mMeet X Y mx my a b = if (mAlong X Y a b).1 = 2 then (3, (mAlong X Y a b).2.1, (mAlong X Y a b).2.2) else ((mAlong X Y a b).1, (mAlong X Y a b).2.1, (mAlong X Y a b).2.2) := by
  unfold mMeet; rw [if_pos h.1, if_pos h.2]
section
variable {np : Nat} {X Y : Nat → Int32} {a b : Nat}
theorem mEnds_c (hB : bdd np X Y) (ha : a + 1 < np) (hb : b + 1 < np) :
    ((mEnds X Y 0 0 a b).1 = 0 ∧ ¬ onX X Y b (X a) (Y a) ∧ ¬ onX X Y b (X (a + 1)) (Y (a + 1)) ∧ ¬ onX X Y a (X b) (Y b) ∧ ¬ onX X Y a (X (b + 1)) (Y (b + 1))) ∨
    ((mEnds X Y 0 0 a b).1 = 1 ∧ bd (mEnds X Y 0 0 a b).2.1 ∧ bd (mEnds X Y 0 0 a b).2.2 ∧ onX X Y a (mEnds X Y 0 0 a b).2.1 (mEnds X Y 0 0 a b).2.2 ∧ onX X Y b (mEnds X Y 0 0 a b).2.1 (mEnds X Y 0 0 a b).2.2) := by
  have A0 := hB a (by omega)
  have A1 := hB (a + 1) ha
  have B0 := hB b (by omega)
  have B1 := hB (b + 1) hb
  by_cases h1 : mOn X Y (X a) (Y a) b = false
  · by_cases h2 : mOn X Y (X (a + 1)) (Y (a + 1)) b = false
    · by_cases h3 : mOn X Y (X b) (Y b) a = false
      · by_cases h4 : mOn X Y (X (b + 1)) (Y (b + 1)) a = false
        · left
          have e : mEnds X Y 0 0 a b = (0, 0, 0) := by unfold mEnds; rw [if_pos h1, if_pos h2, if_pos h3, if_pos h4]
          rw [e]; exact ⟨rfl, (mOn_f hB hb A0.1 A0.2).mp h1, (mOn_f hB hb A1.1 A1.2).mp h2, (mOn_f hB ha B0.1 B0.2).mp h3, (mOn_f hB ha B1.1 B1.2).mp h4⟩
        · right
          have e : mEnds X Y 0 0 a b = (1, X (b + 1), Y (b + 1)) := by unfold mEnds; rw [if_pos h1, if_pos h2, if_pos h3, if_neg h4]
          rw [e]; exact ⟨rfl, B1.1, B1.2, (mOn_t hB ha B1.1 B1.2).mp (eq_true_of_ne_false h4), onS_t _ _ _ _⟩
      · right
        have e : mEnds X Y 0 0 a b = (1, X b, Y b) := by unfold mEnds; rw [if_pos h1, if_pos h2, if_neg h3]
        rw [e]; exact ⟨rfl, B0.1, B0.2, (mOn_t hB ha B0.1 B0.2).mp (eq_true_of_ne_false h3), onS_f _ _ _ _⟩
    · right
      have e : mEnds X Y 0 0 a b = (1, X (a + 1), Y (a + 1)) := by unfold mEnds; rw [if_pos h1, if_neg h2]
      rw [e]; exact ⟨rfl, A1.1, A1.2, onS_t _ _ _ _, (mOn_t hB hb A1.1 A1.2).mp (eq_true_of_ne_false h2)⟩
  · right
    have e : mEnds X Y 0 0 a b = (1, X a, Y a) := by unfold mEnds; rw [if_neg h1]
    rw [e]; exact ⟨rfl, A0.1, A0.2, onS_f _ _ _ _, (mOn_t hB hb A0.1 A0.2).mp (eq_true_of_ne_false h1)⟩
end
theorem bxApart_t {b0 b1 b2 b3 c0 c1 c2 c3 : Int32} : bxApart b0 b1 b2 b3 c0 c1 c2 c3 = true ↔ (c2.toInt < b0.toInt ∨ b2.toInt < c0.toInt) ∨ (c3.toInt < b1.toInt ∨ b3.toInt < c1.toInt) := by
  unfold bxApart
  by_cases h1 : c2 < b0
  · rw [if_pos h1]; rw [i32_lt] at h1; simp; omega
  · rw [if_neg h1]
    by_cases h2 : b2 < c0
    · rw [if_pos h2]; rw [i32_lt] at h2; simp; omega
    · rw [if_neg h2]
      by_cases h3 : c3 < b1
      · rw [if_pos h3]; rw [i32_lt] at h3; simp; omega
      · rw [if_neg h3]
        by_cases h4 : c1 ≤ b3
        · rw [if_pos h4]; rw [i32_lt] at h1 h2 h3; rw [i32_le] at h4; simp; omega
        · rw [if_neg h4]; rw [i32_le] at h4; simp; omega
theorem ap_ax {x1 x2 y1 y2 : Int32} : ((mor y1 y2).toInt < (les x1 x2).toInt ∨ (mor x1 x2).toInt < (les y1 y2).toInt) ↔ apX x1.toInt x2.toInt y1.toInt y2.toInt := by
  have h1 := les_s x1 x2
  have h2 := mor_s x1 x2
  have h3 := les_s y1 y2
  have h4 := mor_s y1 y2
  unfold apX; omega
theorem al_ax {x1 x2 y1 y2 : Int32} : (les (mor x1 x2) (mor y1 y2)).toInt < (mor (les x1 x2) (les y1 y2)).toInt ↔ apX x1.toInt x2.toInt y1.toInt y2.toInt := by
  rw [← ap_ax]
  have h1 := les_s (mor x1 x2) (mor y1 y2)
  have h2 := mor_s (les x1 x2) (les y1 y2)
  have h3 := les_s x1 x2
  have h4 := mor_s x1 x2
  have h5 := les_s y1 y2
  have h6 := mor_s y1 y2
  omega
theorem on_nap {c f1 t1 f2 t2 : Int} (h1 : btI c f1 t1) (h2 : btI c f2 t2) : ¬ apX f1 t1 f2 t2 := by unfold btI at *; unfold apX; omega
theorem mtOne_t {u v : Int64} : mtOne u v = true ↔ one2 u.toInt v.toInt := by
  unfold mtOne one2
  by_cases h1 : u ≤ 0
  · rw [if_pos h1]; rw [i64_le] at h1
    by_cases h2 : 0 ≤ u
    · rw [if_pos h2]; rw [i64_ge] at h2; simp; omega
    · rw [if_neg h2]; rw [i64_ge] at h2
      by_cases h3 : 0 ≤ v
      · rw [if_pos h3]; rw [i64_ge] at h3; simp; omega
      · rw [if_neg h3]; rw [i64_ge] at h3; simp; omega
  · rw [if_neg h1]; rw [i64_le] at h1
    by_cases h2 : 0 < v
    · rw [if_pos h2]; rw [i64_gt] at h2; simp; omega
    · rw [if_neg h2]; rw [i64_gt] at h2
      rw [if_pos (show 0 ≤ u by rw [i64_ge]; omega)]; simp; omega
theorem bf_t {b : Bool} {P : Prop} (h : b = true ↔ P) : b = false ↔ ¬ P := by rw [← h]; cases b <;> simp
/-- what the class makes of two steps -/
def cMt (X Y : Nat → Int32) (a b : Nat) : Int32 × Int32 × Int32 := mtMeet 0 0 (X a) (Y a) (X (a + 1)) (Y (a + 1)) (les (X a) (X (a + 1))) (les (Y a) (Y (a + 1))) (mor (X a) (X (a + 1))) (mor (Y a) (Y (a + 1))) (X b) (Y b) (X (b + 1)) (Y (b + 1)) (les (X b) (X (b + 1))) (les (Y b) (Y (b + 1))) (mor (X b) (X (b + 1))) (mor (Y b) (Y (b + 1)))
def mtR (X Y : Nat → Int32) (a b : Nat) : Prop :=
  ((cMt X Y a b).1 = 0 ∧ (mMeet X Y 0 0 a b).1 = 0) ∨ ((cMt X Y a b).1 = 3 ∧ (mMeet X Y 0 0 a b).1 = 3) ∨ ((cMt X Y a b).1 = 1 ∧ (mMeet X Y 0 0 a b).1 = 2) ∨
  ((cMt X Y a b).1 = 2 ∧ (mMeet X Y 0 0 a b).1 = 1 ∧ (cMt X Y a b).2 = (mMeet X Y 0 0 a b).2 ∧ (bd (mMeet X Y 0 0 a b).2.1 ∧ bd (mMeet X Y 0 0 a b).2.2) ∧ ∀ x y : Int32, onX X Y a x y → onX X Y b x y → x = (mMeet X Y 0 0 a b).2.1 ∧ y = (mMeet X Y 0 0 a b).2.2)
theorem mSeg_t {X Y : Nat → Int32} {a : Nat} : mSeg X Y a = true ↔ ¬ ((X a).toInt = (X (a + 1)).toInt ∧ (Y a).toInt = (Y (a + 1)).toInt) := by
  rw [← i32_eq, ← i32_eq, ← smP_iff]; unfold mSeg; cases smP X Y a (a + 1) <;> simp
theorem bd_les {x y : Int32} (hx : bd x) (hy : bd y) : bd (les x y) := by have := les_s x y; unfold bd at *; omega
theorem bd_mor {x y : Int32} (hx : bd x) (hy : bd y) : bd (mor x y) := by have := mor_s x y; unfold bd at *; omega
theorem mAlong_c {X Y : Nat → Int32} {a b : Nat} :
    ((apX (X a).toInt (X (a + 1)).toInt (X b).toInt (X (b + 1)).toInt ∨ apX (Y a).toInt (Y (a + 1)).toInt (Y b).toInt (Y (b + 1)).toInt) ∧ (mAlong X Y a b).1 = 0) ∨
    (¬ (apX (X a).toInt (X (a + 1)).toInt (X b).toInt (X (b + 1)).toInt ∨ apX (Y a).toInt (Y (a + 1)).toInt (Y b).toInt (Y (b + 1)).toInt) ∧
      (mor (les (X a) (X (a + 1))) (les (X b) (X (b + 1))) = les (mor (X a) (X (a + 1))) (mor (X b) (X (b + 1))) ∧ mor (les (Y a) (Y (a + 1))) (les (Y b) (Y (b + 1))) = les (mor (Y a) (Y (a + 1))) (mor (Y b) (Y (b + 1))) ∧ mAlong X Y a b = (1, mor (les (X a) (X (a + 1))) (les (X b) (X (b + 1))), mor (les (Y a) (Y (a + 1))) (les (Y b) (Y (b + 1)))) ∨
       ¬ (mor (les (X a) (X (a + 1))) (les (X b) (X (b + 1))) = les (mor (X a) (X (a + 1))) (mor (X b) (X (b + 1))) ∧ mor (les (Y a) (Y (a + 1))) (les (Y b) (Y (b + 1))) = les (mor (Y a) (Y (a + 1))) (mor (Y b) (Y (b + 1)))) ∧ (mAlong X Y a b).1 = 2)) := by
  have hx := al_ax (x1 := X a) (x2 := X (a + 1)) (y1 := X b) (y2 := X (b + 1))
  have hy := al_ax (x1 := Y a) (x2 := Y (a + 1)) (y1 := Y b) (y2 := Y (b + 1))
  unfold mAlong
  by_cases h1 : les (mor (X a) (X (a + 1))) (mor (X b) (X (b + 1))) < mor (les (X a) (X (a + 1))) (les (X b) (X (b + 1)))
  · rw [if_pos h1]; rw [i32_lt] at h1; exact Or.inl ⟨Or.inl (hx.mp h1), rfl⟩
  · rw [if_neg h1]; rw [i32_lt] at h1
    by_cases h2 : mor (les (Y a) (Y (a + 1))) (les (Y b) (Y (b + 1))) ≤ les (mor (Y a) (Y (a + 1))) (mor (Y b) (Y (b + 1)))
    · rw [if_pos h2]; rw [i32_le] at h2
      right
      refine ⟨fun h9 => h9.elim (fun h8 => h1 (hx.mpr h8)) (fun h8 => by have := hy.mpr h8; omega), ?_⟩
      by_cases h3 : mor (les (X a) (X (a + 1))) (les (X b) (X (b + 1))) = les (mor (X a) (X (a + 1))) (mor (X b) (X (b + 1)))
      · rw [if_pos h3]
        by_cases h4 : mor (les (Y a) (Y (a + 1))) (les (Y b) (Y (b + 1))) = les (mor (Y a) (Y (a + 1))) (mor (Y b) (Y (b + 1)))
        · rw [if_pos h4]; exact Or.inl ⟨h3, h4, rfl⟩
        · rw [if_neg h4]; exact Or.inr ⟨fun h => h4 h.2, rfl⟩
      · rw [if_neg h3]; exact Or.inr ⟨fun h => h3 h.1, rfl⟩
    · rw [if_neg h2]; rw [i32_le] at h2; exact Or.inl ⟨Or.inr (hy.mp (by omega)), rfl⟩
section
variable {np : Nat} {X Y : Nat → Int32} {a b : Nat}
theorem apart_t : bxApart (les (X a) (X (a + 1))) (les (Y a) (Y (a + 1))) (mor (X a) (X (a + 1))) (mor (Y a) (Y (a + 1))) (les (X b) (X (b + 1))) (les (Y b) (Y (b + 1))) (mor (X b) (X (b + 1))) (mor (Y b) (Y (b + 1))) = true ↔ (apX (X a).toInt (X (a + 1)).toInt (X b).toInt (X (b + 1)).toInt ∨ apX (Y a).toInt (Y (a + 1)).toInt (Y b).toInt (Y (b + 1)).toInt) := by
  rw [bxApart_t, ap_ax, ap_ax]
theorem mul_s {p q : Int32} (hp : p = -1 ∨ p = 0 ∨ p = 1) (hq : q = -1 ∨ q = 0 ∨ q = 1) : ¬ 0 ≤ p * q ↔ (p = -1 ∧ q = 1 ∨ p = 1 ∧ q = -1) := by
  rcases hp with rfl | rfl | rfl <;> rcases hq with rfl | rfl | rfl <;> decide
end
section
variable {np : Nat} {X Y : Nat → Int32} {a b : Nat}
theorem cMt_0 (h : bxApart (les (X a) (X (a + 1))) (les (Y a) (Y (a + 1))) (mor (X a) (X (a + 1))) (mor (Y a) (Y (a + 1))) (les (X b) (X (b + 1))) (les (Y b) (Y (b + 1))) (mor (X b) (X (b + 1))) (mor (Y b) (Y (b + 1))) = true) : cMt X Y a b = (0, 0, 0) := by
  unfold cMt mtMeet; rw [if_neg (by rw [h]; decide)]
theorem cMt_n (h : bxApart (les (X a) (X (a + 1))) (les (Y a) (Y (a + 1))) (mor (X a) (X (a + 1))) (mor (Y a) (Y (a + 1))) (les (X b) (X (b + 1))) (les (Y b) (Y (b + 1))) (mor (X b) (X (b + 1))) (mor (Y b) (Y (b + 1))) = false)
    (h1 : ¬ (sgSide (X a) (Y a) (X (a + 1)) (Y (a + 1)) (X b) (Y b) = 0 ∧ sgSide (X a) (Y a) (X (a + 1)) (Y (a + 1)) (X (b + 1)) (Y (b + 1)) = 0)) :
    cMt X Y a b = if mtOne (sgSide (X a) (Y a) (X (a + 1)) (Y (a + 1)) (X b) (Y b)) (sgSide (X a) (Y a) (X (a + 1)) (Y (a + 1)) (X (b + 1)) (Y (b + 1))) = false then (if mtOne (sgSide (X b) (Y b) (X (b + 1)) (Y (b + 1)) (X a) (Y a)) (sgSide (X b) (Y b) (X (b + 1)) (Y (b + 1)) (X (a + 1)) (Y (a + 1))) = false then (if (sgSide (X a) (Y a) (X (a + 1)) (Y (a + 1)) (X b) (Y b)) = 0 then (2, X b, Y b) else (if (sgSide (X a) (Y a) (X (a + 1)) (Y (a + 1)) (X (b + 1)) (Y (b + 1))) = 0 then (2, X (b + 1), Y (b + 1)) else (if (sgSide (X b) (Y b) (X (b + 1)) (Y (b + 1)) (X a) (Y a)) = 0 then (2, X a, Y a) else (if (sgSide (X b) (Y b) (X (b + 1)) (Y (b + 1)) (X (a + 1)) (Y (a + 1))) = 0 then (2, X (a + 1), Y (a + 1)) else (1, 0, 0))))) else (0, 0, 0)) else (0, 0, 0) := by
  unfold cMt mtMeet; rw [if_pos h]
  by_cases h2 : sgSide (X a) (Y a) (X (a + 1)) (Y (a + 1)) (X b) (Y b) = 0
  · rw [if_pos h2, if_neg (fun h3 => h1 ⟨h2, h3⟩)]
  · rw [if_neg h2]
theorem cMt_o (h : bxApart (les (X a) (X (a + 1))) (les (Y a) (Y (a + 1))) (mor (X a) (X (a + 1))) (mor (Y a) (Y (a + 1))) (les (X b) (X (b + 1))) (les (Y b) (Y (b + 1))) (mor (X b) (X (b + 1))) (mor (Y b) (Y (b + 1))) = false)
    (h1 : sgSide (X a) (Y a) (X (a + 1)) (Y (a + 1)) (X b) (Y b) = 0 ∧ sgSide (X a) (Y a) (X (a + 1)) (Y (a + 1)) (X (b + 1)) (Y (b + 1)) = 0) :
    cMt X Y a b = if mor (les (X a) (X (a + 1))) (les (X b) (X (b + 1))) = les (mor (X a) (X (a + 1))) (mor (X b) (X (b + 1))) ∧ mor (les (Y a) (Y (a + 1))) (les (Y b) (Y (b + 1))) = les (mor (Y a) (Y (a + 1))) (mor (Y b) (Y (b + 1))) then (2, mor (les (X a) (X (a + 1))) (les (X b) (X (b + 1))), mor (les (Y a) (Y (a + 1))) (les (Y b) (Y (b + 1)))) else (3, 0, 0) := by
  unfold cMt mtMeet mtLine; rw [if_pos h, if_pos h1.1, if_pos h1.2]
  simp only [iMax_mor, iMin_les]
  by_cases h3 : mor (les (X a) (X (a + 1))) (les (X b) (X (b + 1))) = les (mor (X a) (X (a + 1))) (mor (X b) (X (b + 1)))
  · by_cases h4 : mor (les (Y a) (Y (a + 1))) (les (Y b) (Y (b + 1))) = les (mor (Y a) (Y (a + 1))) (mor (Y b) (Y (b + 1)))
    · simp [h3, h4]
    · simp [h3, h4]
  · simp [h3]
/-- the class and the model find the same of two steps -/
theorem meet_eq (hB : bdd np X Y) (ha : a + 1 < np) (hb : b + 1 < np) (na : mSeg X Y a = true) (nb : mSeg X Y b = true) : mtR X Y a b := by
  have A0 := hB a (by omega)
  have A1 := hB (a + 1) ha
  have B0 := hB b (by omega)
  have B1 := hB (b + 1) hb
  rw [mSeg_t] at na nb
  have sof := side_i hB ha B0.1 B0.2
  have sot := side_i hB ha B1.1 B1.2
  have spf := side_i hB hb A0.1 A0.2
  have spt := side_i hB hb A1.1 A1.2
  have mof := mSide_c hB ha B0.1 B0.2
  have mot := mSide_c hB ha B1.1 B1.2
  have mpf := mSide_c hB hb A0.1 A0.2
  have mpt := mSide_c hB hb A1.1 A1.2
  have hD : sdX X Y b (X a) (Y a) - sdX X Y b (X (a + 1)) (Y (a + 1)) + sdX X Y a (X b) (Y b) - sdX X Y a (X (b + 1)) (Y (b + 1)) = 0 := sd_D (X a).toInt (Y a).toInt (X (a + 1)).toInt (Y (a + 1)).toInt (X b).toInt (Y b).toInt (X (b + 1)).toInt (Y (b + 1)).toInt
  have zof : sgSide (X a) (Y a) (X (a + 1)) (Y (a + 1)) (X b) (Y b) = 0 ↔ sdX X Y a (X b) (Y b) = 0 := by rw [i64_0, sof]
  have zot : sgSide (X a) (Y a) (X (a + 1)) (Y (a + 1)) (X (b + 1)) (Y (b + 1)) = 0 ↔ sdX X Y a (X (b + 1)) (Y (b + 1)) = 0 := by rw [i64_0, sot]
  have zpf : sgSide (X b) (Y b) (X (b + 1)) (Y (b + 1)) (X a) (Y a) = 0 ↔ sdX X Y b (X a) (Y a) = 0 := by rw [i64_0, spf]
  have zpt : sgSide (X b) (Y b) (X (b + 1)) (Y (b + 1)) (X (a + 1)) (Y (a + 1)) = 0 ↔ sdX X Y b (X (a + 1)) (Y (a + 1)) = 0 := by rw [i64_0, spt]
  have kof := mSide_0 hB ha B0.1 B0.2
  have kot := mSide_0 hB ha B1.1 B1.2
  -- where the model says that they cross
  have hcr : ¬ 0 ≤ (mSide X Y a (a + 1) (X b) (Y b) * mSide X Y a (a + 1) (X (b + 1)) (Y (b + 1))) ↔ (sdX X Y a (X b) (Y b) < 0 ∧ 0 < sdX X Y a (X (b + 1)) (Y (b + 1)) ∨ 0 < sdX X Y a (X b) (Y b) ∧ sdX X Y a (X (b + 1)) (Y (b + 1)) < 0) := by
    rcases mof with ⟨h1, h2⟩ | ⟨h1, h2⟩ | ⟨h1, h2⟩ <;> rcases mot with ⟨h3, h4⟩ | ⟨h3, h4⟩ | ⟨h3, h4⟩ <;> rw [h2, h4] <;> first | exact ⟨fun _ => by omega, fun _ => by decide⟩ | exact ⟨fun h => absurd (by decide) h, fun h => by omega⟩
  have hcs : ¬ 0 ≤ (mSide X Y b (b + 1) (X a) (Y a) * mSide X Y b (b + 1) (X (a + 1)) (Y (a + 1))) ↔ (sdX X Y b (X a) (Y a) < 0 ∧ 0 < sdX X Y b (X (a + 1)) (Y (a + 1)) ∨ 0 < sdX X Y b (X a) (Y a) ∧ sdX X Y b (X (a + 1)) (Y (a + 1)) < 0) := by
    rcases mpf with ⟨h1, h2⟩ | ⟨h1, h2⟩ | ⟨h1, h2⟩ <;> rcases mpt with ⟨h3, h4⟩ | ⟨h3, h4⟩ | ⟨h3, h4⟩ <;> rw [h2, h4] <;> first | exact ⟨fun _ => by omega, fun _ => by decide⟩ | exact ⟨fun h => absurd (by decide) h, fun h => by omega⟩
  have hE := mEnds_c (a := a) (b := b) hB ha hb
  have hnE : ¬ (sdX X Y a (X b) (Y b) = 0 ∧ sdX X Y a (X (b + 1)) (Y (b + 1)) = 0) → (mMeet X Y 0 0 a b = mEnds X Y 0 0 a b ∧ ((0 ≤ (mSide X Y a (a + 1) (X b) (Y b) * mSide X Y a (a + 1) (X (b + 1)) (Y (b + 1)))) ∨ (0 ≤ (mSide X Y b (b + 1) (X a) (Y a) * mSide X Y b (b + 1) (X (a + 1)) (Y (a + 1)))))) ∨ (mMeet X Y 0 0 a b = (2, 0, 0) ∧ ¬ (0 ≤ (mSide X Y a (a + 1) (X b) (Y b) * mSide X Y a (a + 1) (X (b + 1)) (Y (b + 1)))) ∧ ¬ (0 ≤ (mSide X Y b (b + 1) (X a) (Y a) * mSide X Y b (b + 1) (X (a + 1)) (Y (a + 1))))) := by
    intro hc
    rw [mMeet_n (by rw [kof, kot]; exact hc)]
    by_cases h1 : 0 ≤ (mSide X Y a (a + 1) (X b) (Y b) * mSide X Y a (a + 1) (X (b + 1)) (Y (b + 1)))
    · rw [if_pos h1]; exact Or.inl ⟨rfl, Or.inl h1⟩
    · rw [if_neg h1]
      by_cases h2 : 0 ≤ (mSide X Y b (b + 1) (X a) (Y a) * mSide X Y b (b + 1) (X (a + 1)) (Y (a + 1)))
      · rw [if_pos h2]; exact Or.inl ⟨rfl, Or.inr h2⟩
      · rw [if_neg h2]; exact Or.inr ⟨rfl, h1, h2⟩
  unfold mtR
  by_cases hap : bxApart (les (X a) (X (a + 1))) (les (Y a) (Y (a + 1))) (mor (X a) (X (a + 1))) (mor (Y a) (Y (a + 1))) (les (X b) (X (b + 1))) (les (Y b) (Y (b + 1))) (mor (X b) (X (b + 1))) (mor (Y b) (Y (b + 1))) = true
  · left
    rw [cMt_0 hap]; refine ⟨rfl, ?_⟩
    rw [apart_t] at hap
    by_cases hc : sdX X Y a (X b) (Y b) = 0 ∧ sdX X Y a (X (b + 1)) (Y (b + 1)) = 0
    · rw [mMeet_o (by rw [kof, kot]; exact hc)]
      rcases mAlong_c (X := X) (Y := Y) (a := a) (b := b) with ⟨-, h⟩ | ⟨h, -⟩
      · rw [h]; rfl
      · exact absurd hap h
    · rcases hnE hc with ⟨h1, -⟩ | ⟨-, h1, h2⟩
      · rw [h1]
        rcases hE with ⟨h, -⟩ | ⟨-, -, -, h1, h2⟩
        · exact h
        · exact absurd hap (fun h9 => h9.elim (on_nap h1.2.1 h2.2.1) (on_nap h1.2.2 h2.2.2))
      · rw [hcr] at h1; rw [hcs] at h2
        have := cross_ap (f1x := (X a).toInt) (f1y := (Y a).toInt) (t1x := (X (a + 1)).toInt) (t1y := (Y (a + 1)).toInt) (f2x := (X b).toInt) (f2y := (Y b).toInt) (t2x := (X (b + 1)).toInt) (t2y := (Y (b + 1)).toInt) h1.symm h2.symm
        exact absurd hap (fun h9 => h9.elim this.1 this.2)
  · have hapf := eq_false_of_ne_true hap
    rw [apart_t] at hap
    by_cases hc : sdX X Y a (X b) (Y b) = 0 ∧ sdX X Y a (X (b + 1)) (Y (b + 1)) = 0
    · rw [cMt_o hapf (by rw [zof, zot]; exact hc), mMeet_o (by rw [kof, kot]; exact hc)]
      rcases mAlong_c (X := X) (Y := Y) (a := a) (b := b) with ⟨h, -⟩ | ⟨-, ⟨h1, h2, h3⟩ | ⟨h1, h2⟩⟩
      · exact absurd h hap
      · rw [if_pos ⟨h1, h2⟩, h3, if_neg (show ¬ (1 : Int32) = 2 by decide)]
        refine Or.inr (Or.inr (Or.inr ⟨rfl, rfl, rfl, ⟨bd_mor (bd_les A0.1 A1.1) (bd_les B0.1 B1.1), bd_mor (bd_les A0.2 A1.2) (bd_les B0.2 B1.2)⟩, fun x y hx hy => ?_⟩))
        show x = mor (les (X a) (X (a + 1))) (les (X b) (X (b + 1))) ∧ y = mor (les (Y a) (Y (a + 1))) (les (Y b) (Y (b + 1)))
        have k : ∀ {v x1 x2 y1 y2 : Int32}, btI v.toInt x1.toInt x2.toInt → btI v.toInt y1.toInt y2.toInt → mor (les x1 x2) (les y1 y2) = les (mor x1 x2) (mor y1 y2) → v = mor (les x1 x2) (les y1 y2) := by
          intro v x1 x2 y1 y2 q1 q2 q3
          rw [i32_eq] at q3 ⊢
          have h1 := les_s (mor x1 x2) (mor y1 y2)
          have h2 := mor_s (les x1 x2) (les y1 y2)
          have h3 := les_s x1 x2
          have h4 := mor_s x1 x2
          have h5 := les_s y1 y2
          have h6 := mor_s y1 y2
          unfold btI at q1 q2
          omega
        exact ⟨k hx.2.1 hy.2.1 h1, k hx.2.2 hy.2.2 h2⟩
      · rw [if_neg h1, h2, if_pos rfl]; exact Or.inr (Or.inl ⟨rfl, rfl⟩)
    · rw [cMt_n hapf (by rw [zof, zot]; exact hc)]
      by_cases ho : one2 (sdX X Y a (X b) (Y b)) (sdX X Y a (X (b + 1)) (Y (b + 1)))
      · rw [if_neg (by rw [mtOne_t.mpr (by rw [sof, sot]; exact ho)]; decide)]
        left; refine ⟨rfl, ?_⟩
        rcases hnE hc with ⟨h1, -⟩ | ⟨-, h1, h2⟩
        · rw [h1]
          rcases hE with ⟨h, -⟩ | ⟨-, -, -, h1, h2⟩
          · exact h
          · exact absurd ho (no_one h2 h1.1 nb)
        · rw [hcr] at h1; unfold one2 at ho; omega
      · rw [if_pos ((bf_t mtOne_t).mpr (by rw [sof, sot]; exact ho))]
        by_cases hq : one2 (sdX X Y b (X a) (Y a)) (sdX X Y b (X (a + 1)) (Y (a + 1)))
        · rw [if_neg (by rw [mtOne_t.mpr (by rw [spf, spt]; exact hq)]; decide)]
          left; refine ⟨rfl, ?_⟩
          rcases hnE hc with ⟨h1, -⟩ | ⟨-, h1, h2⟩
          · rw [h1]
            rcases hE with ⟨h, -⟩ | ⟨-, -, -, h1, h2⟩
            · exact h
            · exact absurd hq (no_one h1 h2.1 na)
          · rw [hcs] at h2; unfold one2 at hq; omega
        · rw [if_pos ((bf_t mtOne_t).mpr (by rw [spf, spt]; exact hq))]
          have hne : ¬ sdX X Y a (X b) (Y b) = sdX X Y a (X (b + 1)) (Y (b + 1)) := by unfold one2 at ho; omega
          have hzp : ¬ (sdX X Y b (X a) (Y a) = 0 ∧ sdX X Y b (X (a + 1)) (Y (a + 1)) = 0) := by omega
          -- a point of both, where the class says so, is the model's
          have key : ∀ x y : Int32, onX X Y a x y → onX X Y b x y → (¬ onX X Y b (X a) (Y a) → ¬ onX X Y b (X (a + 1)) (Y (a + 1)) → ¬ onX X Y a (X b) (Y b) → ¬ onX X Y a (X (b + 1)) (Y (b + 1)) → False) → ((0 ≤ (mSide X Y a (a + 1) (X b) (Y b) * mSide X Y a (a + 1) (X (b + 1)) (Y (b + 1)))) ∨ (0 ≤ (mSide X Y b (b + 1) (X a) (Y a) * mSide X Y b (b + 1) (X (a + 1)) (Y (a + 1))))) →
              ((2, x, y) : Int32 × Int32 × Int32).1 = 2 ∧ (mMeet X Y 0 0 a b).1 = 1 ∧ ((2, x, y) : Int32 × Int32 × Int32).2 = (mMeet X Y 0 0 a b).2 ∧ (bd (mMeet X Y 0 0 a b).2.1 ∧ bd (mMeet X Y 0 0 a b).2.2) ∧ ∀ x y : Int32, onX X Y a x y → onX X Y b x y → x = (mMeet X Y 0 0 a b).2.1 ∧ y = (mMeet X Y 0 0 a b).2.2 := by
            intro x y hx hy hno hle
            have hm : mMeet X Y 0 0 a b = mEnds X Y 0 0 a b := by
              rcases hnE hc with ⟨h1, -⟩ | ⟨-, h1, h2⟩
              · exact h1
              · exact absurd hle (fun h9 => h9.elim h1 h2)
            rw [hm]
            rcases hE with ⟨-, h1, h2, h3, h4⟩ | ⟨h1, h2, h3, h4, h5⟩
            · exact (hno h1 h2 h3 h4).elim
            · have hu : ∀ x y : Int32, onX X Y a x y → onX X Y b x y → x = (mEnds X Y 0 0 a b).2.1 ∧ y = (mEnds X Y 0 0 a b).2.2 := by
                intro x y hx hy
                have := uniq hne hx.1 hy.1 h4.1 h5.1
                rw [i32_eq, i32_eq]; exact this
              exact ⟨rfl, h1, Prod.ext (hu x y hx hy).1 (hu x y hx hy).2, ⟨h2, h3⟩, hu⟩
          by_cases h1 : sdX X Y a (X b) (Y b) = 0
          · rw [if_pos (zof.mpr h1)]
            have hon := on_of h1 (sd_f _ _ _ _) hq hzp
            exact Or.inr (Or.inr (Or.inr (key _ _ hon (onS_f _ _ _ _) (fun _ _ h3 _ => h3 hon) (Or.inl (Classical.byContradiction fun h9 => by rw [hcr] at h9; omega)))))
          · rw [if_neg (fun h9 => h1 (zof.mp h9))]
            by_cases h2 : sdX X Y a (X (b + 1)) (Y (b + 1)) = 0
            · rw [if_pos (zot.mpr h2)]
              have hon := on_of h2 (sd_t _ _ _ _) hq hzp
              exact Or.inr (Or.inr (Or.inr (key _ _ hon (onS_t _ _ _ _) (fun _ _ _ h4 => h4 hon) (Or.inl (Classical.byContradiction fun h9 => by rw [hcr] at h9; omega)))))
            · rw [if_neg (fun h9 => h2 (zot.mp h9))]
              by_cases h3 : sdX X Y b (X a) (Y a) = 0
              · rw [if_pos (zpf.mpr h3)]
                have hon := on_of h3 (sd_f _ _ _ _) ho hc
                exact Or.inr (Or.inr (Or.inr (key _ _ (onS_f _ _ _ _) hon (fun h1 _ _ _ => h1 hon) (Or.inr (Classical.byContradiction fun h9 => by rw [hcs] at h9; omega)))))
              · rw [if_neg (fun h9 => h3 (zpf.mp h9))]
                by_cases h4 : sdX X Y b (X (a + 1)) (Y (a + 1)) = 0
                · rw [if_pos (zpt.mpr h4)]
                  have hon := on_of h4 (sd_t _ _ _ _) ho hc
                  exact Or.inr (Or.inr (Or.inr (key _ _ (onS_t _ _ _ _) hon (fun _ h2 _ _ => h2 hon) (Or.inr (Classical.byContradiction fun h9 => by rw [hcs] at h9; omega)))))
                · rw [if_neg (fun h9 => h4 (zpt.mp h9))]
                  refine Or.inr (Or.inr (Or.inl ⟨rfl, ?_⟩))
                  rcases hnE hc with ⟨-, h5⟩ | ⟨h5, -⟩
                  · exfalso
                    unfold one2 at ho hq
                    rcases h5 with h5 | h5
                    · have := hcr.mpr (by omega); exact this h5
                    · have := hcs.mpr (by omega); exact this h5
                  · rw [h5]
end

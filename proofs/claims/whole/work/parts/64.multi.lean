/-! a MULTIPOLYGON, the same -/
section
variable {np : Nat} {X Y : Nat → Int32} {RP RN : Nat → Nat} {ns : Nat} {FG RC : Nat → Nat} {WH PA pl pl2 : Nat → Int32} {w cn : Nat} {PT : Nat → pT} {NR OF : Nat → Nat} {RTA : Nat → rgT}
theorem mPart_f {s : Nat} (h : WH s ≠ nI w) : mPart WH RC s w = false := by unfold mPart; rw [if_neg h]
theorem mPart_0 {s : Nat} (h : RC s = 0) : mPart WH RC s w = false := by unfold mPart; rw [if_pos (show RC s ≤ 0 by omega)]; simp
theorem mPart_t {s : Nat} (h : WH s = nI w) (h2 : RC s ≠ 0) : ¬ mPart WH RC s w = false := by unfold mPart; rw [if_pos h, if_neg (by omega)]; decide
theorem rcP_p {s : Nat} (h : WH s = nI w) : rcP WH RC w s = RC s := by
  unfold rcP
  by_cases h2 : RC s = 0
  · rw [if_pos (mPart_0 h2), h2]
  · rw [if_neg (mPart_t h h2)]
/-- the parts of the shape w are those behind it -/
def ptsE (ns : Nat) (WH PA : Nat → Int32) (w cn : Nat) : Prop := w + 1 + cn ≤ ns ∧ (∀ s, s < ns → (WH s = nI w ↔ (w + 1 ≤ s ∧ s < w + 1 + cn))) ∧ ∀ j, j < cn → PA (w + 1 + j) = nI j
theorem pts_w (h : ptsE ns WH PA w cn) {j : Nat} (hj : j < cn) : WH (w + 1 + j) = nI w := (h.2.1 _ (by have := h.1; omega)).mpr (by omega)
theorem pts_n (h : ptsE ns WH PA w cn) {s : Nat} (hs : s < ns) (ho : s < w + 1 ∨ w + 1 + cn ≤ s) : WH s ≠ nI w := fun h9 => by have := (h.2.1 s hs).mp h9; omega
theorem plQ_sh (h : ptsE ns WH PA w cn) : firstO ns (plQ X Y RP RN ns FG RC WH PA pl w) = firstO cn (fun j => plQ X Y RP RN ns FG RC WH PA pl w (w + 1 + j)) := firstO_sh h.1 (fun s hs ho => plQ_g (mPart_f (pts_n h hs ho)))
theorem plS_sh (h : ptsE ns WH PA w cn) : firstO ns (plS X Y RP RN ns FG RC WH PA pl w) = firstO cn (fun j => plS X Y RP RN ns FG RC WH PA pl w (w + 1 + j)) := firstO_sh h.1 (fun s hs ho => plS_g (mPart_f (pts_n h hs ho)))
theorem plT_sh (h : ptsE ns WH PA w cn) {s : Nat} : firstO ns (plT X Y RP RN ns FG RC WH PA pl w s) = firstO cn (fun j => plT X Y RP RN ns FG RC WH PA pl w s (w + 1 + j)) := firstO_sh h.1 (fun t ht ho => plT_g (mPart_f (pts_n h ht ho)))
theorem rcP_f {s : Nat} (h : WH s ≠ nI w) : rcP WH RC w s = 0 := by unfold rcP; rw [if_pos (mPart_f h)]
theorem apO_sh (h : ptsE ns WH PA w cn) : apO X Y RP RN ns FG RC WH PA pl w = firstO cn (fun i => firstO (RC (w + 1 + i)) (apI X Y RP RN ns FG RC WH PA pl w (w + 1 + i))) := by
  unfold apO
  rw [firstO_sh h.1 (fun s hs ho => by rw [rcP_f (pts_n h hs ho)]; rfl)]
  exact firstO_c (fun i hi => by rw [rcP_p (pts_w h hi)])
theorem agO_sh (h : ptsE ns WH PA w cn) {s i ka : Nat} : agO X Y RP RN ns FG RC WH PA pl w s i ka = firstO cn (fun j => if w + 1 + j < s + 1 then none else firstO (RC (w + 1 + j)) (agJ X Y RP RN ns FG RC WH PA pl w s i ka (w + 1 + j))) := by
  unfold agO
  rw [firstO_sh h.1 (fun t ht ho => by unfold agT; rw [rcP_f (pts_n h ht ho)]; show (if _ then _ else none) = none; simp)]
  exact firstO_c (fun j hj => by show agT X Y RP RN ns FG RC WH PA pl w s i ka (w + 1 + j) = _; unfold agT; rw [rcP_p (pts_w h hj)])
end
/-- the parts' rings: of the class and of the model -/
def mpE (np : Nat) (X Y : Nat → Int32) (RP RN : Nat → Nat) (FG RC : Nat → Nat) (w cn : Nat) (NR : Nat → Nat) (PT : Nat → pT) : Prop :=
  (∀ j, j < cn → NR j = RC (w + 1 + j) ∧ plE np X Y RP RN (FG (w + 1 + j)) (RC (w + 1 + j)) (nI j) (PT j).2.2.2 ∧ ctg RP RN (FG (w + 1 + j)) (RC (w + 1 + j)) ∧ RC (w + 1 + j) < 2 ^ 31) ∧
  (∀ j k, j < k → k < cn → FG (w + 1 + j) + RC (w + 1 + j) ≤ FG (w + 1 + k)) ∧
  (∀ j k a b, j < cn → k < cn → a < NR j → b < NR k → ((PT j).2.2.2 a).1 0 = ((PT k).2.2.2 b).1 0 → j = k) ∧ cn < 2 ^ 31
section
variable {np : Nat} {X Y : Nat → Int32} {RP RN : Nat → Nat} {ns : Nat} {FG RC : Nat → Nat} {WH PA pl pl2 : Nat → Int32} {w cn : Nat} {PT : Nat → pT} {NR OF : Nat → Nat} {RTA : Nat → rgT}
theorem nI_ij {i j : Nat} (hi : i < 2 ^ 31) (hj : j < 2 ^ 31) (h : nI i = nI j) : i = j := by
  have := congrArg Int32.toInt h; rw [nI_toInt hi, nI_toInt hj] at this; omega
theorem M1 (hB : bdd np X Y) (hP : ptsE ns WH PA w cn) (hM : mpE np X Y RP RN FG RC w cn NR PT) (h7 : pl7 pl pl2) : agr (firstO cn (fun j => paM (nI w) pl (NR j) (nI j) (PT j).2.2.2)) (firstO ns (plQ X Y RP RN ns FG RC WH PA pl2 w)) := by
  rw [plQ_sh hP]
  apply agr_fO
  intro j hj _ _
  obtain ⟨h1, h2, h3, h4⟩ := hM.1 j hj
  unfold plQ
  rw [if_neg (by omega), h1, hP.2.2 j hj]
  have hp := poly_e (shp := nI w) hB h2 h3 h4 h7
  by_cases h0 : RC (w + 1 + j) = 0
  · rw [if_pos (mPart_0 h0)]
    rw [h0] at hp ⊢
    unfold poM at hp; rw [if_pos rfl] at hp; exact hp
  · rw [if_neg (mPart_t (pts_w hP hj) h0)]; exact hp
theorem po_of (hP : ptsE ns WH PA w cn) (h : firstO ns (plQ X Y RP RN ns FG RC WH PA pl w) = none) {j : Nat} (hj : j < cn) (h0 : RC (w + 1 + j) ≠ 0) : firstO (RC (w + 1 + j)) (rgO X Y RP RN (FG (w + 1 + j)) (nI w) (PA (w + 1 + j)) pl) = none := by
  have := firstO_no h (w + 1 + j) (by have := hP.1; omega)
  unfold plQ at this
  rw [if_neg (by omega), if_neg (mPart_t (pts_w hP hj) h0)] at this
  unfold poM at this; rw [if_neg h0] at this
  exact (oe_n this).1
theorem M2 (hB : bdd np X Y) (hP : ptsE ns WH PA w cn) (hM : mpE np X Y RP RN FG RC w cn NR PT) (h7 : pl7 pl pl2) (h0 : OF 0 = 0) (hO : ∀ j, j < cn → OF (j + 1) = OF j + NR j) (hA : ∀ j, j < cn → ∀ b, b < NR j → RTA (OF j + b) = (PT j).2.2.2 b)
    (hcl : ∀ j b, j < cn → b < RC (w + 1 + j) → clR X Y RP RN (FG (w + 1 + j) + b)) : agr (firstO (OF cn) (ciS true (nI w) pl (OF cn) RTA)) (apO X Y RP RN ns FG RC WH PA pl2 w) := by
  have hmo : ∀ {a b : Nat}, a ≤ b → b ≤ cn → OF a ≤ OF b := fun hab hb => ofM hO hab hb
  rw [firstO_fl h0 hO, apO_sh hP]
  apply agr_fO
  intro i hi _ _
  obtain ⟨i1, i2, i3, i4⟩ := hM.1 i hi
  rw [i1]
  apply agr_fO
  intro x hx _ _
  have hRi : RTA (OF i + x) = (PT i).2.2.2 x := hA i hi x (by omega)
  obtain ⟨e1, e2, e3⟩ := i2.1 x hx
  unfold ciS apI
  rw [hRi, rgE_n e1, en_fO]
  apply agr_fO
  intro ka hka _ _
  unfold apA
  by_cases hsa : mSeg X Y (RP (FG (w + 1 + i) + x) + ka) = true
  · have hsa' : ¬ mSeg X Y (RP (FG (w + 1 + i) + x) + ka) = false := by rw [hsa]; decide
    rw [if_neg hsa', if_neg hsa', firstO_fl h0 hO, agO_sh hP]
    apply agr_fO
    intro j hj _ _
    obtain ⟨j1, j2, j3, j4⟩ := hM.1 j hj
    by_cases hij : i < j
    · rw [if_neg (by omega), j1]
      apply agr_fO
      intro b hb _ _
      have hRj : RTA (OF j + b) = (PT j).2.2.2 b := hA j hj b (by omega)
      obtain ⟨f1, f2, f3⟩ := j2.1 b hb
      have hlt : OF i + x < OF j + b := by
        have h1 := hO i hi
        have h2 := hmo (a := i + 1) (b := j) (by omega) (by omega)
        omega
      have hne : (nI i : Int32) ≠ nI j := fun h9 => by have := nI_ij (by have := hM.2.2.2; omega) (by have := hM.2.2.2; omega) h9; omega
      have hrq : FG (w + 1 + i) + x ≠ FG (w + 1 + j) + b := by have := hM.2.1 i j hij hj; omega
      unfold cjS
      rw [if_neg (by omega), hRi, hRj, e2, f2, if_pos (by rw [decide_eq_false hne]; rfl)]
      have hfI : fI (OF i + x) (OF j + b) (cntS X Y (RP (FG (w + 1 + i) + x)) ka) = 0 := by unfold fI; rw [if_neg (by omega)]
      rw [hfI]
      unfold agJ
      refine fsR_e (i := 0) (j := 1) hB e1 f1 (hcl i x hi hx).2 (hcl j b hj hb).2 hka hsa ⟨fun h => absurd (hM.2.2.1 i j x b hi hj (by omega) (by omega) h) (by omega), fun h => absurd h hrq⟩ (fun h => absurd h hrq) ?_ ?_ ?_
      · intro kb _ _; have : fI 0 1 ka = 0 := rfl; omega
      · intro kb _ h
        rcases h with h | h | h
        · exact agB_g h
        · have : fI 0 1 ka = 0 := rfl; omega
        · exact agB_n h
      · intro kb _ hsb _ h2
        rw [agB_s (by rw [hsb]; decide) h2, e2, f2, e3, f3, tell_d hrq hne h2, hP.2.2 i hi, hP.2.2 j hj]
        exact agr_s rfl (p2_7 (p1_7 (upd_7 h7)))
    · rw [if_pos (by omega)]
      apply agr_nn _ rfl
      rw [j1]
      apply firstO_none
      intro b hb
      have hRj : RTA (OF j + b) = (PT j).2.2.2 b := hA j hj b (by omega)
      obtain ⟨f1, f2, f3⟩ := j2.1 b hb
      unfold cjS
      by_cases e : j = i
      · subst e
        rw [hRi, hRj, e2, f2]
        split
        · rfl
        · rw [if_neg (by simp)]
      · have hlt : OF j + b < OF i + x := by
          have h1 := hO j hj
          have h2 := hmo (a := j + 1) (b := i) (by omega) (by omega)
          omega
        rw [if_pos hlt]
  · have hsa := eq_false_of_ne_true hsa
    rw [if_pos hsa, if_pos hsa]; trivial
theorem ap_nsh (hP : ptsE ns WH PA w cn) (h : apO X Y RP RN ns FG RC WH PA pl w = none) {i j x b : Nat} (hi : i < cn) (hj : j < cn) (hij : i < j) (hx : x < RC (w + 1 + i)) (hb : b < RC (w + 1 + j)) {ka kb : Nat} (hka : ka < RN (FG (w + 1 + i) + x) - 1) (hkb : kb < RN (FG (w + 1 + j) + b) - 1) (hsa : mSeg X Y (RP (FG (w + 1 + i) + x) + ka) = true) (hsb : mSeg X Y (RP (FG (w + 1 + j) + b) + kb) = true) :
    mPr X Y RP RN (FG (w + 1 + i) + x) (RP (FG (w + 1 + i) + x) + ka) (FG (w + 1 + j) + b) (RP (FG (w + 1 + j) + b) + kb) ≤ 0 := by
  rw [apO_sh hP] at h
  have h1 := firstO_no (firstO_no (firstO_no h i hi) x hx) ka hka
  unfold apA at h1
  rw [if_neg (by rw [hsa]; decide), agO_sh hP] at h1
  have h2 := firstO_no h1 j hj
  rw [if_neg (by omega)] at h2
  have h3 := firstO_no (firstO_no h2 b hb) kb hkb
  unfold agB at h3
  rw [if_neg (by rw [hsb]; decide)] at h3
  apply Classical.byContradiction; intro h9
  rw [if_neg h9] at h3; cases h3
theorem ap_ns (hP : ptsE ns WH PA w cn) (h : apO X Y RP RN ns FG RC WH PA pl w = none) {i j x b : Nat} (hi : i < cn) (hj : j < cn) (hij : i ≠ j) (hx : x < RC (w + 1 + i)) (hb : b < RC (w + 1 + j)) : nsh X Y RP RN (FG (w + 1 + i) + x) (FG (w + 1 + j) + b) := by
  intro ka kb hka hkb hsa hsb h3
  rcases Nat.lt_or_gt_of_ne hij with h1 | h1
  · have := ap_nsh hP h hi hj h1 hx hb hka hkb hsa hsb
    rw [mPr_3 h3.1] at this; exact absurd this (by decide)
  · have := ap_nsh hP h hj hi h1 hb hx hkb hka hsb hsa
    rw [mPr_3 h3.2] at this; exact absurd this (by decide)
theorem plIn_e (hB : bdd np X Y) {F G n1 n2 : Nat} {q1 q2 : Int32} {R1 R2 : Nat → rgT} (h1 : plE np X Y RP RN F n1 q1 R1) (h2 : plE np X Y RP RN G n2 q2 R2) (z1 : n1 ≠ 0) (z2 : n2 ≠ 0) (hcl : ∀ b, b < n2 → clR X Y RP RN (G + b)) (hsg : ∃ k2, k2 < RN F - 1 ∧ mSeg X Y (RP F + k2) = true) (hns : ∀ b, b < n2 → nsh X Y RP RN F (G + b)) : plIn n1 R1 n2 R2 = mIns X Y RP RN F G n2 := by
  have hin : ∀ b, b < n2 → rIn (R1 0) (R2 b) = mIn X Y RP RN F (G + b) := fun b hb => in_e hB (h1.1 0 (by omega)).1 (h2.1 b hb).1 (hcl b hb).2 hsg (hns b hb)
  unfold plIn mIns
  rw [if_neg (by omega), hin 0 (by omega)]
  show (mIn X Y RP RN F G && _) = _
  congr 2
  rw [Bool.eq_iff_iff, anyB_iff, anyB_iff]
  constructor
  · rintro ⟨b, g1, g2⟩; exact ⟨b, g1, by rw [← hin b g1]; exact g2⟩
  · rintro ⟨b, g1, g2⟩; exact ⟨b, g1, by rw [hin b g1]; exact g2⟩
theorem M3 (hB : bdd np X Y) (hP : ptsE ns WH PA w cn) (hM : mpE np X Y RP RN FG RC w cn NR PT) (h7 : pl7 pl pl2) (hq : firstO ns (plQ X Y RP RN ns FG RC WH PA pl2 w) = none) (ha : apO X Y RP RN ns FG RC WH PA pl2 w = none) :
    agr (firstO cn (fun i => firstO cn (ppC (nI w) pl NR PT i))) (firstO ns (plS X Y RP RN ns FG RC WH PA pl2 w)) := by
  rw [plS_sh hP]
  apply agr_fO
  intro i hi _ _
  obtain ⟨i1, i2, i3, i4⟩ := hM.1 i hi
  unfold plS
  rw [if_neg (by omega)]
  by_cases zi : RC (w + 1 + i) = 0
  · rw [if_pos (mPart_0 zi)]
    apply agr_nn _ rfl
    apply firstO_none
    intro j _
    unfold ppC plIn
    split
    · rfl
    · rw [if_pos]
      rw [if_pos (Or.inl (by rw [i1]; exact zi)), if_pos (Or.inr (by rw [i1]; exact zi))]; exact ⟨rfl, rfl⟩
  · rw [if_neg (mPart_t (pts_w hP hi) zi), plT_sh hP]
    apply agr_fO
    intro j hj _ _
    obtain ⟨j1, j2, j3, j4⟩ := hM.1 j hj
    unfold ppC plT
    by_cases hij : j < i + 1
    · rw [if_pos hij, if_pos (by omega)]; trivial
    · rw [if_neg hij, if_neg (show ¬ w + 1 + j < w + 1 + i + 1 by omega)]
      by_cases zj : RC (w + 1 + j) = 0
      · rw [if_pos (mPart_0 zj), if_pos]
        · trivial
        · unfold plIn
          rw [if_pos (Or.inr (by rw [j1]; exact zj)), if_pos (Or.inl (by rw [j1]; exact zj))]; exact ⟨rfl, rfl⟩
      · rw [if_neg (mPart_t (pts_w hP hj) zj)]
        have ri := po_of hP hq hi zi
        have rj := po_of hP hq hj zj
        have e1 : plIn (NR i) (PT i).2.2.2 (NR j) (PT j).2.2.2 = mIns X Y RP RN (FG (w + 1 + i)) (FG (w + 1 + j)) (RC (w + 1 + j)) := by
          rw [i1, j1]
          exact plIn_e hB i2 j2 zi zj (cl_of rj) (rgO_seg ri 0 (by omega)) (fun b hb => ap_ns hP ha (x := 0) hi hj (by omega) (by omega) hb)
        have e2 : plIn (NR j) (PT j).2.2.2 (NR i) (PT i).2.2.2 = mIns X Y RP RN (FG (w + 1 + j)) (FG (w + 1 + i)) (RC (w + 1 + i)) := by
          rw [i1, j1]
          exact plIn_e hB j2 i2 zj zi (cl_of ri) (rgO_seg rj 0 (by omega)) (fun b hb => ap_ns hP ha (x := 0) hj hi (by omega) (by omega) hb)
        rw [e1, e2]
        by_cases h2 : mIns X Y RP RN (FG (w + 1 + i)) (FG (w + 1 + j)) (RC (w + 1 + j)) = false ∧ mIns X Y RP RN (FG (w + 1 + j)) (FG (w + 1 + i)) (RC (w + 1 + i)) = false
        · rw [if_pos h2, if_pos h2]; trivial
        · rw [if_neg h2, if_neg h2, hP.2.2 i hi, hP.2.2 j hj]; exact agr_s rfl (p2_7 (p1_7 (upd_7 h7)))
theorem multi_e (hB : bdd np X Y) (hP : ptsE ns WH PA w cn) (hM : mpE np X Y RP RN FG RC w cn NR PT) (h7 : pl7 pl pl2) (h0 : OF 0 = 0) (hO : ∀ j, j < cn → OF (j + 1) = OF j + NR j)
    (hA : firstO cn (fun j => paM (nI w) pl (NR j) (nI j) (PT j).2.2.2) = none → 2 ≤ cn → ∀ j, j < cn → ∀ b, b < NR j → RTA (OF j + b) = (PT j).2.2.2 b) :
    agr (insM (nI w) pl cn NR PT (OF cn) RTA) (plO X Y RP RN ns FG RC WH PA pl2 w) := by
  unfold insM plO
  refine agr_oe (M1 hB hP hM h7) (fun hn hq => ?_)
  by_cases hc : cn ≤ 1
  · rw [if_pos hc]
    apply agr_nn rfl
    refine oe_nn ?_ ?_
    · rw [apO_sh hP]
      refine firstO_none (fun i hi => firstO_none (fun x hx => firstO_none (fun ka hka => ?_)))
      unfold apA
      split
      · rfl
      · rw [agO_sh hP]
        exact firstO_none (fun j hj => if_pos (by omega))
    · rw [plS_sh hP]
      refine firstO_none (fun i hi => ?_)
      unfold plS
      split
      · rfl
      · split
        · rfl
        · rw [plT_sh hP]
          exact firstO_none (fun j hj => if_pos (by omega))
  · rw [if_neg hc]
    have hcl : ∀ j b, j < cn → b < RC (w + 1 + j) → clR X Y RP RN (FG (w + 1 + j) + b) := fun j b hj hb => cl_of (po_of hP hq hj (by omega)) b hb
    refine agr_oe (M2 hB hP hM h7 h0 hO (hA hn (by omega)) hcl) (fun _ ha => M3 hB hP hM h7 hq ha)
end

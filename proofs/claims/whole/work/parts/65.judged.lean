/-! the shapes of the class and of the model -/
/-- the rows of the class (f; FC, FP: where chains and points begin) and the model's arrays (g; rings, points, parts) tell the same shapes -/
def sR (ns nc np nr : Nat) (f g : Nat → Nat → Int32) (FC FP FG RC PF PC RP RN : Nat → Nat) (PA : Nat → Int32) : Prop :=
  shV ns nc np f FC FP ∧ moS ns np nr g FG RC PF PC (f 0) (f 1) PA ∧ moX np g (f 4) (f 5) ∧ moR np nr g RP RN ∧ bdd np (f 4) (f 5) ∧
  (∀ s, s < ns → ((f 0 s = 1 ∨ f 0 s = 2) → FC (s + 1) = FC s + 1 ∧ PF s = FP (FC s) ∧ PF s + PC s = FP (FC s + 1) ∧ RC s = 0) ∧
    (f 0 s = 3 → FC (s + 1) = FC s + RC s ∧ ∀ k, k < RC s → RP (FG s + k) = FP (FC s + k) ∧ RP (FG s + k) + RN (FG s + k) = FP (FC s + k + 1)) ∧
    (¬ (f 0 s = 1 ∨ f 0 s = 2 ∨ f 0 s = 3) → FC (s + 1) = FC s ∧ RC s = 0) ∧ FG (s + 1) = FG s + RC s) ∧
  (FC 0 = 0 ∧ FG 0 = 0 ∧ FG ns = nr ∧ nc ≤ ns + nr) ∧
  (∀ s, s < ns → f 1 s = -1 ∨ ∃ w, w < s ∧ f 1 s = nI w) ∧
  ∀ w s, w < s → s < ns → f 0 w = 6 → f 1 s = nI w → (∀ s2, w < s2 → s2 < s → f 1 s2 = nI w) ∧ f 0 s = 3 ∧ PA s = nI (s - w - 1)
section
variable {ns nc np nr : Nat} {f g : Nat → Nat → Int32} {FC FP FG RC PF PC RP RN : Nat → Nat} {PA : Nat → Int32}
theorem sR_pl (h : sR ns nc np nr f g FC FP FG RC PF PC RP RN PA) {s : Nat} (hs : s < ns) (h3 : f 0 s = 3) {pt : Int32} {RT : Nat → rgT} (hD : plD (f 4) (f 5) FP (FC s) (FC (s + 1) - FC s) pt RT) :
    FC (s + 1) - FC s = RC s ∧ plE np (f 4) (f 5) RP RN (FG s) (RC s) pt RT ∧ ctg RP RN (FG s) (RC s) ∧ RC s < 2 ^ 31 := by
  obtain ⟨h1, h2, h3', h4, h5, h6, h7, h8, h9⟩ := h
  obtain ⟨a1, a2⟩ := (h6 s hs).2.1 h3
  have hFR := (h2.2 s hs).2.2.2.2.2.2.2.2
  have hnr := h4.1
  have hrc : FC (s + 1) - FC s = RC s := by omega
  rw [hrc] at hD
  refine ⟨hrc, ⟨fun j hj => ?_, hD.2⟩, fun j hj => ?_, by omega⟩
  · obtain ⟨b1, b2, b3⟩ := hD.1 j hj
    obtain ⟨c1, c2⟩ := a2 j hj
    refine ⟨⟨(h4.2 (FG s + j) (by omega)).2.2, ?_⟩, b2, b3⟩
    rw [c2, c1]; exact b1
  · rw [(a2 (j + 1) hj).1, (a2 j (by omega)).2, ← Nat.add_assoc]
theorem sR_fg (h : sR ns nc np nr f g FC FP FG RC PF PC RP RN PA) {s t : Nat} (hst : s < t) (ht : t < ns) : FG s + RC s ≤ FG t := by
  obtain ⟨h1, h2, h3, h4, h5, h6, h7, h8, h9⟩ := h
  induction t with
  | zero => omega
  | succ t ih =>
    have := (h6 t (by omega)).2.2.2
    by_cases e : s = t
    · subst e; omega
    · have := ih (by omega) (by omega); omega
theorem ln_7 {pl pl2 : Nat → Int32} {v : Int32} (h7 : pl7 pl pl2) (hm : ∀ j, j < 7 → pl2 j = -1) : pl7 (upd pl 0 v) (p1 (upd pl2 0 v) (-1) (-1) (-1)) := by
  intro j hj
  have h1 := h7 j hj
  have h2 := hm j hj
  simp only [p1, upd]
  by_cases e3 : j = 3
  · subst e3; exact h1.trans h2
  · by_cases e2 : j = 2
    · subst e2; exact h1.trans h2
    · by_cases e1 : j = 1
      · subst e1; exact h1.trans h2
      · rw [if_neg e3, if_neg e2, if_neg e1]
        by_cases e0 : j = 0
        · rw [if_pos e0, if_pos e0]
        · rw [if_neg e0, if_neg e0]; exact h1
theorem ins_e (h : sR ns nc np nr f g FC FP FG RC PF PC RP RN PA) {pl pl2 : Nat → Int32} (h7 : pl7 pl pl2) (hm : ∀ j, j < 7 → pl2 j = -1) {si : Nat} (hsi : si < ns) {o : fT} (hi : insN f ns FC FP pl si o)
    (hbef : ∀ i, i < si → jgS (f 4) (f 5) RP RN ns FG RC PF PC (f 0) (f 1) PA pl2 i = none) : agr o (jgS (f 4) (f 5) RP RN ns FG RC PF PC (f 0) (f 1) PA pl2 si) := by
  have hh := h
  obtain ⟨h1, h2, h3, h4, h5, h6, h7', h8, h9⟩ := h
  have hns := h2.1
  have rk : rwGet (f 0) ns (nI si) = f 0 si := rwGet_n hsi (by omega)
  obtain ⟨cn, hc, hd⟩ := hi
  have k2 : (2 : Int32) ≠ 3 := by decide
  rcases hd with ⟨k1, dv, d1, d2⟩ | ⟨k1, PT, RTA, d1, d2, d3⟩
  · rw [rk] at k1
    obtain ⟨a1, a2, a3, a4⟩ := (h6 si hsi).1 (Or.inr k1)
    have hle : FP (FC si) ≤ FP (FC si + 1) := by omega
    have hdf := (df_3 d1 hle).2
    rw [← a2, ← a3, show PF si + PC si - PF si = PC si by omega] at hdf
    rw [d2]
    unfold lnM jgS
    rw [if_pos k1]
    by_cases hp : PC si ≤ 0
    · rw [if_pos hp, if_neg (fun h9 => by have := hdf.mp h9; omega)]; trivial
    · rw [if_neg hp]
      by_cases hv : dv = 1
      · have := hdf.mp hv
        rw [if_pos hv, if_neg]
        · exact agr_s rfl (ln_7 h7 hm)
        · unfold mFew; rw [decide_eq_true this.2]; decide
      · rw [if_neg hv, if_pos]
        · trivial
        · exact decide_eq_false (fun h9 => hv (hdf.mpr ⟨by omega, h9⟩))
  · rw [rk] at k1
    rw [d3]
    rcases hc with ⟨c1, hc⟩ | ⟨c1, c2, c3⟩ | ⟨c1, c2, c3, c4⟩
    · rw [rk] at c1
      rw [jgS_3 c1]
      have hfi : shFi f ns si = si := if_neg (by rw [rk, c1]; decide)
      rw [hfi] at d1 d2
      have rw1 : rwGet (f 1) ns (nI si) = f 1 si := rwGet_n hsi (by omega)
      rw [rw1] at hc
      rcases hc with ⟨c2, c3⟩ | ⟨c2, c3⟩
      · subst c3
        apply agr_nn
        · rfl
        · -- its MULTIPOLYGON was right
          rcases h8 si hsi with hw | ⟨w, hw1, hw2⟩
          · rw [hw, show rwGet (f 0) ns (-1) = 0 from if_pos (by decide)] at c2; exact absurd c2 (by decide)
          · rw [hw2, rwGet_n (show w < ns by omega) (by omega)] at c2
            have hq := hbef w hw1
            rw [jgS_6 c2] at hq
            unfold plO at hq
            have hq := firstO_no (oe_n hq).1 si hsi
            unfold plQ at hq
            rw [if_neg (by omega)] at hq
            by_cases z : RC si = 0
            · unfold poM; rw [if_pos z]
            · rw [if_neg (mPart_t hw2 z)] at hq
              exact poM_n hq
      · subst c3
        have hD := d1.1 0 (by omega)
        rw [Nat.add_zero] at hD
        obtain ⟨e1, e2, e3, e4⟩ := sR_pl hh hsi c1 (show plD (f 4) (f 5) FP (FC si) (FC (si + 1) - FC si) (nI 0) (PT 0).2.2.2 from hD)
        have hp := poly_e (shp := nI si) h5 e2 e3 e4 h7
        unfold insM
        rw [if_pos (by omega)]
        have e5 : nrF FC (shFi f ns si) 0 = RC si := by rw [hfi]; exact e1
        show agr (oe (match (none : fT) with | some x => some x | none => paM (nI si) pl (nrF FC (shFi f ns si) 0) (nI 0) (PT 0).2.2.2) none) _
        rw [e5]
        show agr (oe (paM (nI si) pl (RC si) (nI 0) (PT 0).2.2.2) none) _
        cases hpa : paM (nI si) pl (RC si) (nI 0) (PT 0).2.2.2 <;> rw [hpa] at hp <;> exact hp
    · rw [rk] at c1 c2
      subst c3
      rw [jgS_0 k1 c1 c2]
      exact agr_nn rfl rfl
    · rw [rk] at c1
      rw [jgS_6 c1]
      have hfi : shFi f ns si = si + 1 := if_pos (by rw [rk]; exact c1)
      have c3 : ∀ j, si < j → j < si + 1 + cn → f 1 j = nI si := fun j a b => by have := c3 j a b; rw [rwGet_n (show j < ns by omega) (by omega)] at this; exact this
      rw [hfi] at d1 d2 ⊢
      have hP : ptsE ns (f 1) PA si cn := by
        refine ⟨c2, fun s hs => ⟨fun hs1 => ?_, fun hs1 => c3 s (by omega) (by omega)⟩, fun j hj => ?_⟩
        · have hgt : si < s := by
            rcases h8 s hs with hw | ⟨w, hw1, hw2⟩
            · rw [hw] at hs1
              have := (nI_toInt (show si < 2 ^ 31 by omega)).symm.trans (congrArg Int32.toInt hs1.symm)
              rw [show (-1 : Int32).toInt = -1 from rfl] at this; omega
            · have := nI_ij (show w < 2 ^ 31 by omega) (show si < 2 ^ 31 by omega) (hw2.symm.trans hs1); omega
          refine ⟨by omega, ?_⟩
          apply Classical.byContradiction; intro h10
          have hlt : si + 1 + cn < ns := by omega
          have c4 := c4.resolve_left (by omega)
          rw [rwGet_n hlt (by omega)] at c4
          by_cases e : s = si + 1 + cn
          · rw [← e] at c4; exact c4 hs1
          · exact c4 ((h9 si s hgt hs c1 hs1).1 (si + 1 + cn) (by omega) (by omega))
        · have := (h9 si (si + 1 + j) (by omega) (by omega) c1 (c3 _ (by omega) (by omega))).2.2
          rw [this]; congr 1; omega
      have hk3 : ∀ j, j < cn → f 0 (si + 1 + j) = 3 := fun j hj => (h9 si (si + 1 + j) (by omega) (by omega) c1 (c3 _ (by omega) (by omega))).2.1
      have hpl : ∀ j, j < cn → FC (si + 1 + j + 1) - FC (si + 1 + j) = RC (si + 1 + j) ∧ plE np (f 4) (f 5) RP RN (FG (si + 1 + j)) (RC (si + 1 + j)) (nI j) (PT j).2.2.2 ∧ ctg RP RN (FG (si + 1 + j)) (RC (si + 1 + j)) ∧ RC (si + 1 + j) < 2 ^ 31 := fun j hj => sR_pl hh (by omega) (hk3 j hj) (d1.1 j hj)
      have hM : mpE np (f 4) (f 5) RP RN FG RC si cn (nrF FC (si + 1)) PT := by
        refine ⟨fun j hj => ?_, fun j k hjk hk => sR_fg hh (by omega) (by omega), d1.2, by omega⟩
        obtain ⟨e1, e2, e3, e4⟩ := hpl j hj
        exact ⟨e1, e2, e3, e4⟩
      have hmo := h1.2.2.2.2.1
      have hFm : ∀ j, j ≤ cn → FC (si + 1) ≤ FC (si + 1 + j) := fun j hj => up_mono hmo (by omega) (by omega)
      refine multi_e (OF := fun j => FC (si + 1 + j) - FC (si + 1)) h5 hP hM h7 (by simp) (fun j hj => ?_) d2
      show FC (si + 1 + (j + 1)) - FC (si + 1) = FC (si + 1 + j) - FC (si + 1) + (FC (si + 1 + j + 1) - FC (si + 1 + j))
      have := hFm j (by omega)
      have := hmo (si + 1 + j) (by omega)
      rw [show si + 1 + (j + 1) = si + 1 + j + 1 by omega]; omega
/-- what the class finds is what the model finds -/
theorem jud_e (h : sR ns nc np nr f g FC FP FG RC PF PC RP RN PA) {pl pl2 plr : Nat → Int32} {wh : Int32} (h7 : pl7 pl pl2) (hm : ∀ j, j < 7 → pl2 j = -1) (hj : jgD f ns FC FP pl wh plr) :
    agr (if wh = 0 then none else some (wh, plr)) (firstO ns (jgS (f 4) (f 5) RP RN ns FG RC PF PC (f 0) (f 1) PA pl2)) ∧ (wh = 0 → pl = plr) := by
  have hno : ∀ n, n ≤ ns → (∀ j, j < n → insN f ns FC FP pl j none) → ∀ j, j < n → jgS (f 4) (f 5) RP RN ns FG RC PF PC (f 0) (f 1) PA pl2 j = none := by
    intro n
    induction n with
    | zero => intro _ _ j hj; omega
    | succ n ih =>
      intro hn hall
      have ih := ih (by omega) (fun j hj => hall j (by omega))
      intro j hj
      by_cases e : j = n
      · subst e; exact (agr_n (ins_e h h7 hm (by omega) (hall j (by omega)) ih)).mp rfl
      · exact ih j (by omega)
  rcases hj with ⟨a1, a2, a3⟩ | ⟨a1, si, a2, a3, a4⟩
  · rw [if_pos a1]
    exact ⟨agr_nn rfl (firstO_none (hno ns (Nat.le_refl _) a3)), fun _ => a2⟩
  · rw [if_neg a1]
    refine ⟨?_, fun h9 => absurd h9 a1⟩
    have hb := hno si (by omega) a3
    have he := ins_e h h7 hm a2 a4 hb
    cases hs : jgS (f 4) (f 5) RP RN ns FG RC PF PC (f 0) (f 1) PA pl2 si with
    | none => rw [hs] at he; exact he.elim
    | some z => rw [firstO_some a2 hs hb]; rw [hs] at he; exact he
end

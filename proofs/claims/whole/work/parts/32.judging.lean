/-! ShapeJudge.judge -/
theorem firstO_P {α : Type} {n : Nat} {g : Nat → Option α} {x : α} (h : firstO n g = some x) : ∃ i, i < n ∧ g i = some x ∧ ∀ j, j < i → g j = none := by
  induction n with
  | zero => cases h
  | succ n ih =>
    cases h1 : firstO n g with
    | some y =>
      have h2 : some y = some x := by rw [← h]; simp [firstO, h1]
      obtain ⟨i, q1, q2, q3⟩ := ih (by rw [h1, h2])
      exact ⟨i, by omega, q2, q3⟩
    | none => exact ⟨n, by omega, by rw [← h, firstO_s h1], firstO_n h1⟩
theorem firstB_P {n i : Nat} {f : Nat → Bool} (h : firstB n f = some i) : i < n ∧ f i = true ∧ ∀ j, j < i → f j = false := by
  induction n with
  | zero => cases h
  | succ n ih =>
    cases h1 : firstB n f with
    | some y =>
      have h2 : some y = some i := by rw [← h]; simp [firstB, h1]
      obtain ⟨q1, q2, q3⟩ := ih (by rw [h1, h2])
      exact ⟨by omega, q2, q3⟩
    | none =>
      by_cases h2 : f n = true
      · have h3 : some n = some i := by rw [← h]; simp [firstB, h1, h2]
        cases h3
        exact ⟨by omega, h2, firstB_n h1⟩
      · simp [firstB, h1, h2] at h
theorem oe_some {a b : fT} {q : Int32 × (Nat → Int32)} (h : oe a b = some q) : a = some q ∨ a = none ∧ b = some q := by
  cases a with
  | none => exact Or.inr ⟨rfl, h⟩
  | some p => exact Or.inl h
theorem fsR_nz {shp : Int32} {pl : Nat → Int32} {t u : rgT} {i k0 : Nat} {q : Int32 × (Nat → Int32)} (h : fsR shp pl t u i k0 = some q) : ¬ q.1 = 0 := by
  unfold fsR at h
  split at h
  · cases h1 : firstB (u.1 4) (isC t u i k0) with
    | none => rw [h1] at h; cases h
    | some j =>
      rw [h1] at h
      cases h
      have h2 := (firstB_P h1).2.1
      unfold isC at h2
      simp only [Bool.and_eq_true, Bool.not_eq_true', decide_eq_false_iff_not] at h2
      show ¬ tellC _ _ _ = 0
      unfold tellC
      split
      · exact h2.2
      · split <;> decide
  · cases h
theorem ciS_nz {fl : Bool} {shp : Int32} {pl : Nat → Int32} {nr : Nat} {RT : Nat → rgT} {q : Int32 × (Nat → Int32)} (h : firstO nr (ciS fl shp pl nr RT) = some q) : ¬ q.1 = 0 := by
  obtain ⟨i, -, h1, -⟩ := firstO_P h
  obtain ⟨k, -, h2, -⟩ := firstO_P h1
  obtain ⟨j, -, h3, -⟩ := firstO_P h2
  unfold cjS at h3
  split at h3
  · cases h3
  · split at h3
    · exact fsR_nz h3
    · cases h3
theorem paM_nz {shp : Int32} {pl : Nat → Int32} {nr : Nat} {pp : Int32} {RT : Nat → rgT} {q : Int32 × (Nat → Int32)} (h : paM shp pl nr pp RT = some q) : ¬ q.1 = 0 := by
  rcases oe_some h with h | ⟨-, h⟩
  · unfold frR at h
    cases h1 : firstB nr (fun i => rgBad (RT i)) with
    | none => rw [h1] at h; cases h
    | some j => rw [h1] at h; cases h; show ¬ (if _ then _ else _) = _; split <;> decide
  rcases oe_some h with h | ⟨-, h⟩
  · exact ciS_nz h
  rcases oe_some h with h | ⟨-, h⟩
  · obtain ⟨i, -, h1, -⟩ := firstO_P h
    unfold hoC at h1
    split at h1
    · cases h1
    · split at h1
      · cases h1; exact (by decide : ¬ (6 : Int32) = 0)
      · cases h1
  rcases oe_some h with h | ⟨-, h⟩
  · obtain ⟨i, -, h1, -⟩ := firstO_P h
    obtain ⟨j, -, h2, -⟩ := firstO_P h1
    unfold phC at h2
    split at h2
    · cases h2
    · split at h2
      · cases h2
      · split at h2
        · cases h2
        · cases h2; exact (by decide : ¬ (7 : Int32) = 0)
  unfold whM at h
  split at h
  · cases h
  · split at h
    · cases h
    · cases h; exact (by decide : ¬ (8 : Int32) = 0)
theorem insM_nz {shp : Int32} {pl : Nat → Int32} {cn nrA : Nat} {NR : Nat → Nat} {PT : Nat → pT} {RTA : Nat → rgT} {q : Int32 × (Nat → Int32)} (h : insM shp pl cn NR PT nrA RTA = some q) : ¬ q.1 = 0 := by
  rcases oe_some h with h | ⟨-, h⟩
  · obtain ⟨i, -, h1, -⟩ := firstO_P h
    exact paM_nz h1
  split at h
  · cases h
  rcases oe_some h with h | ⟨-, h⟩
  · exact ciS_nz h
  obtain ⟨i, -, h1, -⟩ := firstO_P h
  obtain ⟨j, -, h2, -⟩ := firstO_P h1
  unfold ppC at h2
  split at h2
  · cases h2
  · split at h2
    · cases h2
    · cases h2; exact (by decide : ¬ (11 : Int32) = 0)
theorem insD_nz {f : Nat → Nat → Int32} {ns : Nat} {FC FP : Nat → Nat} {si fi cn : Nat} {pl : Nat → Int32} {q : Int32 × (Nat → Int32)} (h : insD f ns FC FP si fi cn pl (some q)) : ¬ q.1 = 0 := by
  rcases h with ⟨-, dv, -, h⟩ | ⟨-, PT, RTA, -, -, h⟩
  · unfold lnM at h
    split at h
    · cases h; exact (by decide : ¬ (2 : Int32) = 0)
    · cases h
  · exact insM_nz h.symm
/-- inspecting the j-th shape finds o -/
def insN (f : Nat → Nat → Int32) (ns : Nat) (FC FP : Nat → Nat) (pl : Nat → Int32) (j : Nat) (o : fT) : Prop := ∃ cn, shCnt f ns j cn ∧ insD f ns FC FP j (shFi f ns j) cn pl o
def jgI (f : Nat → Nat → Int32) (ns : Nat) (FC FP : Nat → Nat) (pl : Nat → Int32) (i : Nat) (wh : Int32) (pl2 : Nat → Int32) : Prop :=
  wh = 0 ∧ pl = pl2 ∧ (∀ j, j < i → insN f ns FC FP pl j none) ∨ ¬ wh = 0 ∧ ∃ si, si < i ∧ (∀ j, j < si → insN f ns FC FP pl j none) ∧ insN f ns FC FP pl si (some (wh, pl2))
/-- what judging finds: the first shape with a fault tells -/
def jgD (f : Nat → Nat → Int32) (ns : Nat) (FC FP : Nat → Nat) (pl : Nat → Int32) (wh : Int32) (pl2 : Nat → Int32) : Prop := jgI f ns FC FP pl ns wh pl2
theorem jgI_0 {f : Nat → Nat → Int32} {ns : Nat} {FC FP : Nat → Nat} {pl : Nat → Int32} {wh : Int32} (h : wh = 0) : jgI f ns FC FP pl 0 wh pl := Or.inl ⟨h, rfl, fun j hj => absurd hj (Nat.not_lt_zero _)⟩
theorem jgI_n {f : Nat → Nat → Int32} {ns : Nat} {FC FP : Nat → Nat} {pl pl2 : Nat → Int32} {i : Nat} {wh : Int32} (h : jgI f ns FC FP pl i wh pl2) (hm : fdMade wh = false) : (wh = 0 ∧ ∀ j, j < i → insN f ns FC FP pl j none) ∧ pl = pl2 := by
  have h0 : wh = 0 := by
    unfold fdMade at hm
    by_cases h9 : wh = 0
    · exact h9
    · simp [h9] at hm
  rcases h with ⟨-, h1, h2⟩ | ⟨h1, -⟩
  · exact ⟨⟨h0, h2⟩, h1⟩
  · exact absurd h0 h1
theorem jgI_s {f : Nat → Nat → Int32} {ns : Nat} {FC FP : Nat → Nat} {pl pl2 : Nat → Int32} {i cn : Nat} {wh wh2 : Int32} {b : Bool} {o : fT} (h : wh = 0 ∧ ∀ j, j < i → insN f ns FC FP pl j none) (hc : shCnt f ns i cn) (_ : i < ns) (hd : insD f ns FC FP i (shFi f ns i) cn pl o) (hr : inR o wh pl b wh2 pl2) : jgI f ns FC FP pl (i + 1) wh2 pl2 := by
  cases o with
  | none =>
    refine Or.inl ⟨hr.2.1.symm.trans h.1, hr.2.2, fun j hj => ?_⟩
    by_cases e : j = i
    · rw [e]; exact ⟨cn, hc, hd⟩
    · exact h.2 j (by omega)
  | some q =>
    have e1 : (wh2, pl2) = q := by rw [hr.2.1, hr.2.2]
    refine Or.inr ⟨by rw [hr.2.1]; exact insD_nz hd, i, by omega, h.2, cn, hc, ?_⟩
    rw [e1]; exact hd
theorem jgI_e {f : Nat → Nat → Int32} {ns : Nat} {FC FP : Nat → Nat} {pl pl2 : Nat → Int32} {i : Nat} {wh : Int32} (h : jgI f ns FC FP pl i wh pl2) (he : i = ns ∨ ¬ fdMade wh = false) (hi : i ≤ ns) : jgD f ns FC FP pl wh pl2 := by
  rcases h with ⟨h0, h1, h2⟩ | ⟨h1, si, h2, h3⟩
  · rcases he with he | he
    · subst he; exact Or.inl ⟨h0, h1, h2⟩
    · exact absurd (by rw [h0]; rfl) he
  · exact Or.inr ⟨h1, si, by omega, h3⟩
theorem shCnt_ex (f : Nat → Nat → Int32) (ns si : Nat) (hs : si < ns) : ∃ cn, shCnt f ns si cn := by
  by_cases h3 : rwGet (f 0) ns (nI si) = 3
  · by_cases h6 : rwGet (f 0) ns (rwGet (f 1) ns (nI si)) = 6
    · exact ⟨0, Or.inl ⟨h3, Or.inl ⟨h6, rfl⟩⟩⟩
    · exact ⟨1, Or.inl ⟨h3, Or.inr ⟨h6, rfl⟩⟩⟩
  · by_cases h6 : rwGet (f 0) ns (nI si) = 6
    · have key : ∀ k, si + 1 + k ≤ ns → (∀ j, si < j → j < si + 1 + k → rwGet (f 1) ns (nI j) = nI si) → ∃ cn, shCnt f ns si cn := by
        intro k
        induction hm : ns - k using Nat.strongRecOn generalizing k with
        | ind m ih =>
          intro h1 h2
          by_cases he : ns ≤ si + 1 + k
          · exact ⟨k, Or.inr (Or.inr ⟨h6, h1, h2, Or.inl he⟩)⟩
          · by_cases h4 : rwGet (f 1) ns (nI (si + 1 + k)) = nI si
            · refine ih (ns - (k + 1)) (by omega) (k + 1) rfl (by omega) (fun j h5 h7 => ?_)
              by_cases e : j = si + 1 + k
              · rw [e]; exact h4
              · exact h2 j h5 (by omega)
            · exact ⟨k, Or.inr (Or.inr ⟨h6, h1, h2, Or.inr h4⟩)⟩
      exact key 0 (by omega) (fun j h1 h2 => by omega)
    · exact ⟨0, Or.inr (Or.inl ⟨h3, h6, rfl⟩)⟩
/-- up to where polygons have been looked at with their whole -/
def covI (f : Nat → Nat → Int32) (ns i cov : Nat) : Prop := i ≤ cov ∧ cov ≤ ns ∧ ∀ j, i ≤ j → j < cov → rwGet (f 0) ns (nI j) = 3 ∧ rwGet (f 0) ns (rwGet (f 1) ns (nI j)) = 6
theorem covI_0 {f : Nat → Nat → Int32} {ns : Nat} : covI f ns 0 0 := ⟨Nat.le_refl _, Nat.zero_le _, fun j h1 h2 => by omega⟩
theorem cov_s {f : Nat → Nat → Int32} {ns nc np i cov cn : Nat} {FC FP : Nat → Nat} (h : covI f ns i cov) (hc : shCnt f ns i cn) (hV : shV ns nc np f FC FP) (hi : i < ns) (hm3 : ∀ j, j < ns → rwGet (f 0) ns (rwGet (f 1) ns (nI j)) = 6 → rwGet (f 0) ns (nI j) = 3) :
    ∃ cov2, covI f ns (i + 1) cov2 ∧ 2 + 3 * cn + 3 * (FC (shFi f ns i + cn) - FC (shFi f ns i)) + 2 * (FP (FC (shFi f ns i + cn)) - FP (FC (shFi f ns i))) + (2 * i + 3 * cov + 3 * FC cov + 2 * FP (FC cov)) ≤ 2 * (i + 1) + 3 * cov2 + 3 * FC cov2 + 2 * FP (FC cov2) ∧
      3 * cn + 14 * (FC (shFi f ns i + cn) - FC (shFi f ns i)) + 13 * (FP (FC (shFi f ns i + cn)) - FP (FC (shFi f ns i))) + (3 * cov + 14 * FC cov + 13 * FP (FC cov)) ≤ 3 * cov2 + 14 * FC cov2 + 13 * FP (FC cov2) := by
  obtain ⟨g1, g2, g3⟩ := h
  by_cases hcv : i < cov
  · obtain ⟨k1, k2⟩ := g3 i (Nat.le_refl _) hcv
    have hcn : cn = 0 := by
      rcases hc with ⟨-, ⟨-, h⟩ | ⟨h, -⟩⟩ | ⟨h, -⟩ | ⟨h, -⟩
      · exact h
      · exact absurd k2 h
      · exact absurd k1 h
      · rw [k1] at h; exact absurd h (by decide)
    subst hcn
    refine ⟨cov, ⟨by omega, g2, fun j h1 h2 => g3 j (by omega) h2⟩, ?_, ?_⟩ <;> simp only [Nat.add_zero] <;> omega
  · have e : cov = i := by omega
    subst e
    by_cases h6 : rwGet (f 0) ns (nI cov) = 6
    · have hf : shFi f ns cov = cov + 1 := if_pos h6
      rw [hf]
      rcases hc with ⟨h, -⟩ | ⟨-, h, -⟩ | ⟨-, q1, q2, -⟩
      · rw [h6] at h; exact absurd h (by decide)
      · exact absurd h6 h
      · have f1 : FC cov ≤ FC (cov + 1) := shV_f hV (by omega) (by omega)
        have f2 : FC (cov + 1) ≤ FC (cov + 1 + cn) := shV_f hV (by omega) (by omega)
        have f3 : FC (cov + 1 + cn) ≤ nc := shV_c hV (by omega)
        have f4 : FP (FC cov) ≤ FP (FC (cov + 1)) := shV_m hV f1 (by omega)
        have f5 : FP (FC (cov + 1)) ≤ FP (FC (cov + 1 + cn)) := shV_m hV f2 f3
        refine ⟨cov + 1 + cn, ⟨by omega, q1, fun j h1 h2 => ?_⟩, by omega, by omega⟩
        have h7 : rwGet (f 0) ns (rwGet (f 1) ns (nI j)) = 6 := by rw [q2 j (by omega) h2]; exact h6
        exact ⟨hm3 j (by omega) h7, h7⟩
    · have hf : shFi f ns cov = cov := if_neg h6
      rw [hf]
      have hcn : cn ≤ 1 := by
        rcases hc with ⟨-, ⟨-, h⟩ | ⟨-, h⟩⟩ | ⟨-, -, h⟩ | ⟨h, -⟩
        · omega
        · omega
        · omega
        · exact absurd h h6
      have f1 : FC cov ≤ FC (cov + 1) := shV_f hV (by omega) (by omega)
      have f3 : FC (cov + 1) ≤ nc := shV_c hV (by omega)
      have f4 : FP (FC cov) ≤ FP (FC (cov + 1)) := shV_m hV f1 (by omega)
      refine ⟨cov + 1, ⟨by omega, by omega, fun j h1 h2 => by omega⟩, ?_, ?_⟩
      · rcases (show cn = 0 ∨ cn = 1 by omega) with h | h
        · subst h; simp only [Nat.add_zero]; omega
        · subst h; omega
      · rcases (show cn = 0 ∨ cn = 1 by omega) with h | h
        · subst h; simp only [Nat.add_zero]; omega
        · subst h; omega
theorem inK4_o {dT : Nat → ClassId} {ah ah2 : hA} {ins sh fd pa mt : Nat} {shp wh : Int32} {pl : Nat → Int32} {mx my : Int32} (hi : inA dT ah ins sh fd pa mt shp wh pl mx my) (hk : inK4 ah ah2 ins fd pa mt) {a : Nat} {e : va_E} (h : ah a = some e) (h1 : ∀ fs, e ≠ .inr (2, fs)) (h2 : ∀ fs, e ≠ .inr (1, fs)) (h3 : ∀ (n : Nat) (f : Nat → Int32), e ≠ .inl (dT 0, n, .inl f)) (h4 : ∀ fs, e ≠ .inr (3, fs)) : ah2 a = some e :=
  hk a e h (h_ne h hi.1 (h1 _)) (h_ne h hi.2.1 (h2 _)) (h_ne h hi.2.2.1 (h3 _ _)) (h_ne h hi.2.2.2 (h4 _))
theorem shA_K4 {dT : Nat → ClassId} {ah ah2 : hA} {ins sh fd pa mt rc : Nat} {shp wh : Int32} {pl : Nat → Int32} {mx my : Int32} {RO RA cap v : Nat → Nat} {f : Nat → Nat → Int32} (hi : inA dT ah ins sh fd pa mt shp wh pl mx my) (hk : inK4 ah ah2 ins fd pa mt) (hs : shA dT ah sh RO RA cap v f rc) (hp : ∀ k, k < 7 → RA k ≠ pa) : shA dT ah2 sh RO RA cap v f rc :=
  ⟨inK4_o hi hk hs.1 (by simp) (by simp) (by simp) (by simp), fun k h => ⟨inK4_o hi hk (hs.2.1 k h).1 (by simp) (by simp) (by simp) (by simp), hk _ _ (hs.2.1 k h).2.1 (h_ne (hs.2.1 k h).2.1 hi.1 (by simp)) (h_ne (hs.2.1 k h).2.1 hi.2.1 (by simp)) (hp k h) (h_ne (hs.2.1 k h).2.1 hi.2.2.2 (by simp)), (hs.2.1 k h).2.2⟩, hs.2.2⟩
theorem cjK_in {ah ah1 ah2 : hA} {sj sh fd ins pa mt : Nat} {RO RA : Nat → Nat} (h1 : cjK ah ah1 sj sh fd ins pa mt RO RA) (h2 : inK4 ah1 ah2 ins fd pa mt) : cjK ah ah2 sj sh fd ins pa mt RO RA := fun a e h n1 n2 n3 n4 n5 n6 n7 => h2 a e (h1 a e h n1 n2 n3 n4 n5 n6 n7) n4 n3 n5 n6
set_option maxHeartbeats 4000000 in
set_option maxRecDepth 100000 in
theorem c_X9_judge (l : Launch) (D : va_G) (dT : Nat → ClassId) (ah : hA) (sz : Nat) (hlt : l.stackTraces = false) (sj sh fd ins pa mt : Nat) (RO RA cap : Nat → Nat) (ns nc np no rc : Nat) (f : Nat → Nat → Int32) (wh : Int32) (pl : Nat → Int32) (jd : Bool) (hj : cjA dT ah sj sh fd ins pa mt RO RA cap ns nc np no rc f wh pl jd) (FC FP : Nat → Nat) (hV : shV ns nc np f FC FP) (hln : ∀ si, si < ns → rwGet (f 0) ns (nI si) = 2 → FC si < nc) (hm3 : ∀ j, j < ns → rwGet (f 0) ns (rwGet (f 1) ns (nI j)) = 6 → rwGet (f 0) ns (nI j) = 3) (hw0 : jd = false → wh = 0) : hMetX l yX9_judge cX9_judge 2 (some .int) ({ frames := 7, cells := (1 + (if jd = true then 0 else 5 * ns + 3 * nc + 2 * np)), slots := (6 + (if jd = true then 0 else 3 * ns + 14 * nc + 13 * np)), locals := 181 }) D dT [.ref sj] ah sz (fun r ah2 => ¬ shWhole ns no = false ∧ ∃ (wh2 : Int32) (pl2 : Nat → Int32), r = some (.int wh2) ∧ cjA dT ah2 sj sh fd ins pa mt RO RA cap ns nc np no rc f wh2 pl2 true ∧ cjK ah ah2 sj sh fd ins pa mt RO RA ∧ (jd = true → wh2 = wh ∧ pl2 = pl) ∧ (jd = false → jgD f ns FC FP pl wh2 pl2)) (fun E => E = "java/lang/IllegalStateException" ∧ shWhole ns no = false) (1 + (if jd = true then 0 else 5 * ns + 3 * nc + 2 * np)) (6 + (if jd = true then 0 else 3 * ns + 14 * nc + 13 * np)) := by
  refine h_metX (by decide) (Nat.le_of_ble_eq_true rfl) ?_
  intro p e s m below meth c ls R Q args hav hR hQ hB hl hsz hw hX9 hET
  obtain ⟨hx, hb, hml, hr, hts, hown, hlk, hin, hK⟩ := hB
  have hown : s.vm.findClass RX9 = some m.cls := hown
  have hl : lv_has ls 2 [(0, .ref sj)] := hl
  obtain ⟨hsj, ⟨shp, mx, my, hi9⟩, hs, hpa⟩ := hj
  have hb0 : ns ≤ cap 0 ∧ 32 ≤ cap 0 ∧ cap 0 ≤ 40000 := (hs.2.1 0 (by omega)).2.2
  have hb1 : ns ≤ cap 1 ∧ 32 ≤ cap 1 ∧ cap 1 ≤ 40000 := (hs.2.1 1 (by omega)).2.2
  have hb2 : ns ≤ cap 2 ∧ 32 ≤ cap 2 ∧ cap 2 ≤ 40000 := (hs.2.1 2 (by omega)).2.2
  have hb3 : nc ≤ cap 3 ∧ 32 ≤ cap 3 ∧ cap 3 ≤ 40000 := (hs.2.1 3 (by omega)).2.2
  have hb4 : np ≤ cap 4 ∧ 32 ≤ cap 4 ∧ cap 4 ≤ 40000 := (hs.2.1 4 (by omega)).2.2
  have hb5 : np ≤ cap 5 ∧ 32 ≤ cap 5 ∧ cap 5 ≤ 40000 := (hs.2.1 5 (by omega)).2.2
  have hb6 : no ≤ cap 6 ∧ 32 ≤ cap 6 ∧ cap 6 ≤ 40000 := (hs.2.1 6 (by omega)).2.2
  refine lv_aload_n hx hb dX9_judge_0 rfl (lv_at hl 0 rfl) ?_
  refine h_get (ci := 9) (v := .ref sh) (C := RX9) (T := TX9) (N := 4) hx hb hts kl_X9 hown hK hw hsj rfl 0 (by decide) (hts _ kf_X9_10) rfl rfl dX9_judge_1 ?_
  refine h_callV (n := 0) (ci := 8) (b := sh) (As := []) (rest := []) ⟨hx, hb, hml, hown, hts⟩ hK hw (c_X8_isWhole l D dT ah s.heap.size sh RO RA cap ns nc np no rc f hs ) ko_X8_isWhole km_X9_105 ki_X8_isWhole ks_X8_isWhole kn_X8 (by decide +kernel) rfl hs.1 rfl hl.1 rfl (by simp [Value.category]) dX9_judge_4 (by rw [hR]; exact ⟨rfl, rfl, Nat.le_of_ble_eq_true rfl, Nat.le_of_ble_eq_true rfl, (by dsimp only; omega), (by dsimp only; omega)⟩) (fun r_1 ah_2 H_3 L_4 st_5 hp hw hst => ?_)
  obtain ⟨rfl, rfl⟩ := hp
  have hst : st_5 = [.int (bI (shWhole ns no))] := hst
  subst hst
  refine lv_if_ne (tgt := 20) hx hb dX9_judge_7 (by decide) (fun c_6 => ?_) (fun c_6 => ?_)
  · skip
    have c_6 : ¬ (shWhole ns no = false) := (not_congr bI_0).mp c_6
    refine lv_aload_n hx hb dX9_judge_20 rfl (lv_at hl 0 rfl) ?_
    refine h_get (ci := 9) (v := .int (bI jd)) (C := RX9) (T := TX9) (N := 4) hx hb hts kl_X9 hown hK hw hsj rfl 3 (by decide) (hts _ kf_X9_40) rfl rfl dX9_judge_21 ?_
    refine lv_if_ne (tgt := 69) hx hb dX9_judge_24 (by decide) (fun c_7 => ?_) (fun c_7 => ?_)
    · skip
      have c_7 : ¬ (jd = false) := (not_congr bI_0).mp c_7
      refine lv_aload_n hx hb dX9_judge_69 rfl (lv_at hl 0 rfl) ?_
      refine h_get (ci := 9) (v := .ref fd) (C := RX9) (T := TX9) (N := 4) hx hb hts kl_X9 hown hK hw hsj rfl 1 (by decide) (hts _ kf_X9_19) rfl rfl dX9_judge_70 ?_
      refine h_callV (n := 0) (ci := 1) (b := fd) (As := []) (rest := []) ⟨hx, hb, hml, hown, hts⟩ hK hw (c_X1_what l D dT ah H_3.size fd pa wh pl hi9.2.1 hi9.2.2.1) ko_X1_what km_X9_120 ki_X1_what ks_X1_what kn_X1 (by decide +kernel) rfl hi9.2.1 rfl hl.1 rfl (by simp [Value.category]) dX9_judge_73 (by rw [hR]; exact ⟨rfl, rfl, Nat.le_of_ble_eq_true rfl, Nat.le_of_ble_eq_true rfl, (by dsimp only; omega), (by dsimp only; omega)⟩) (fun r_8 ah_9 H_10 L_11 st_12 hp hw hst => ?_)
      obtain ⟨rfl, rfl⟩ := hp
      have hst : st_12 = [.int wh] := hst
      subst hst
      rw [hQ]
      exact vx_ret (h_iret hx hb hr hlk hsz hw (by omega) (by omega) dX9_judge_76 ⟨c_6, _, _, rfl, ⟨by rw [show jd = true from nF c_7] at hsj; exact hsj, ⟨shp, mx, my, hi9⟩, hs, hpa⟩, (fun a e9 h1 _ _ _ _ _ _ _ => h1), (fun _ => ⟨rfl, rfl⟩), fun h9 => absurd h9 c_7⟩)
    · skip
      have c_7 : jd = false := bI_0.mp c_7
      have hjm : (if jd = true then 0 else 5 * ns + 3 * nc + 2 * np) = 5 * ns + 3 * nc + 2 * np := if_neg (by rw [c_7]; decide)
      have hjs : (if jd = true then 0 else 3 * ns + 14 * nc + 13 * np) = 3 * ns + 14 * nc + 13 * np := if_neg (by rw [c_7]; decide)
      refine lv_aload_n hx hb dX9_judge_27 rfl (lv_at hl 0 rfl) ?_
      refine lv_iconst (v := 1) hx hb dX9_judge_28 (by decide) ?_
      refine h_put (ci := 9) (v := .int 1) (C := RX9) (T := TX9) (N := 4) hx hb hts kl_X9 tyX9 tyX9_ok nmX9 hown hK hw hsj rfl 3 (by decide) (hts _ kf_X9_40) rfl rfl (tyX9_ok 3 (by decide)) rfl rfl (Nat.le_of_ble_eq_true rfl) dX9_judge_29 (fun H_13 L_14 hw => ?_)
      obtain ⟨ah_15, eah_15⟩ : ∃ z9 : hA, z9 = hup ah sj (.inr (9, [.ref sh, .ref fd, .ref ins, .int 1])) := ⟨_, rfl⟩
      have hw : hW D ah s.heap ah_15 H_13 L_14 := by rw [eah_15]; exact hw
      have hc_16 := (show ah_15 ins = _ from (by rw [eah_15]; exact hup_n (h_ne hi9.1 hsj (by simp)))).trans hi9.1
      have hc_17 := (show ah_15 fd = _ from (by rw [eah_15]; exact hup_n (h_ne hi9.2.1 hsj (by simp)))).trans hi9.2.1
      have hc_18 := (show ah_15 pa = _ from (by rw [eah_15]; exact hup_n (h_ne hi9.2.2.1 hsj (by simp)))).trans hi9.2.2.1
      have hc_19 := (show ah_15 mt = _ from (by rw [eah_15]; exact hup_n (h_ne hi9.2.2.2 hsj (by simp)))).trans hi9.2.2.2
      have hc_20 : ah_15 sj = some (.inr (9, [.ref sh, .ref fd, .ref ins, .int 1])) := by rw [eah_15]; exact hup_s
      have hc_21 := (show ah_15 sh = _ from (by rw [eah_15]; exact hup_n (h_ne hs.1 hsj (by simp)))).trans hs.1
      have hs32 := shA_hup_o (e := .inr (9, [.ref sh, .ref fd, .ref ins, .int 1])) hs hsj (by unfold shK; simp)
      rw [← eah_15] at hs32
      have hi32 : inA dT ah_15 ins sh fd pa mt shp wh pl mx my := ⟨hc_16, hc_17, hc_18, hc_19⟩
      have hK32 : cjK ah ah_15 sj sh fd ins pa mt RO RA := fun a e9 h1 n1 _ _ _ _ _ _ => by rw [eah_15]; exact (hup_n n1).trans h1
      refine lv_iconst (v := 0) hx hb dX9_judge_32 (by decide) ?_
      refine lv_istore_n (lv' := [(1, .int 0), (0, .ref sj)]) hx hb dX9_judge_33 rfl hl (by decide) rfl (fun ls hl => ?_)
      have LP34 : ∀ (k34 : Nat) (i : Nat) (cov : Nat) (wh4 : Int32) (pl4 : Nat → Int32) (shp4 : Int32) (mx4 : Int32) (my4 : Int32) (ah34 : hA) (ls : Array Slot) (H34 : Heap) (L34 : List Loc), (ns - i < k34) → (i ≤ ns) → (covI f ns i cov) → (ah34 sj = some (.inr (9, [.ref sh, .ref fd, .ref ins, .int (bI true)]))) → (inA dT ah34 ins sh fd pa mt shp4 wh4 pl4 mx4 my4) → (shA dT ah34 sh RO RA cap (v7 ns ns ns nc np np no) f rc) → (cjK ah ah34 sj sh fd ins pa mt RO RA) → (jgI f ns FC FP pl i wh4 pl4) → lv_has ls 2 [(1, .int (nI i)), (0, .ref sj)] → hW D ah s.heap ah34 H34 L34 → W p l e R s m args below meth c H34 L34 (2 * i + 3 * cov + 3 * FC cov + 2 * FP (FC cov)) (3 * cov + 14 * FC cov + 13 * FP (FC cov)) Q (F0 m 34 ls []) := by
        intro k34
        induction k34 with
        | zero => intro i cov wh4 pl4 shp4 mx4 my4 ah34 ls H34 L34 hk; exact absurd hk (Nat.not_lt_zero _)
        | succ k34 ih34 =>
          intro i cov wh4 pl4 shp4 mx4 my4 ah34 ls H34 L34 hk34 hi34n hcv hsj34 hi34 hs34 hK34 hjg hl hw
          have hb34 := hcv.2.1
          have hb35 : FC cov ≤ nc := shV_c hV hcv.2.1
          have hb36 : FP (FC cov) ≤ np := shV_n hV hb35
          refine lv_iload_n hx hb dX9_judge_34 rfl (lv_at hl 0 rfl) ?_
          refine lv_aload_n hx hb dX9_judge_35 rfl (lv_at hl 1 rfl) ?_
          refine h_get (ci := 9) (v := .ref sh) (C := RX9) (T := TX9) (N := 4) hx hb hts kl_X9 hown hK hw hsj34 rfl 0 (by decide) (hts _ kf_X9_10) rfl rfl dX9_judge_36 ?_
          refine h_callV (n := 0) (ci := 8) (b := sh) (As := []) (rest := [.int (nI i)]) ⟨hx, hb, hml, hown, hts⟩ hK hw (c_X8_count l D dT ah34 H34.size sh RO RA cap ns nc np no rc f hs34) ko_X8_count km_X9_110 ki_X8_count ks_X8_count kn_X8 (by decide +kernel) rfl hs34.1 rfl hl.1 rfl (by simp [Value.category]) dX9_judge_39 (by rw [hR]; exact ⟨rfl, rfl, Nat.le_of_ble_eq_true rfl, Nat.le_of_ble_eq_true rfl, (by dsimp only; omega), (by dsimp only; omega)⟩) (fun r_22 ah_23 H_24 L_25 st_26 hp hw hst => ?_)
          obtain ⟨rfl, rfl⟩ := hp
          have hst : st_26 = [.int (nI ns), .int (nI i)] := hst
          subst hst
          refine lv_icmp_ge (tgt := 69) hx hb dX9_judge_42 (by decide) (fun c_27 => ?_) (fun c_27 => ?_)
          · skip
            have c_27 : ns ≤ i := (nI_lex (by rfl) (by rfl) (by omega) (by omega)).mp c_27
            refine lv_aload_n hx hb dX9_judge_69 rfl (lv_at hl 1 rfl) ?_
            refine h_get (ci := 9) (v := .ref fd) (C := RX9) (T := TX9) (N := 4) hx hb hts kl_X9 hown hK hw hsj34 rfl 1 (by decide) (hts _ kf_X9_19) rfl rfl dX9_judge_70 ?_
            refine h_callV (n := 0) (ci := 1) (b := fd) (As := []) (rest := []) ⟨hx, hb, hml, hown, hts⟩ hK hw (c_X1_what l D dT ah34 H_24.size fd pa wh4 pl4 hi34.2.1 hi34.2.2.1) ko_X1_what km_X9_120 ki_X1_what ks_X1_what kn_X1 (by decide +kernel) rfl hi34.2.1 rfl hl.1 rfl (by simp [Value.category]) dX9_judge_73 (by rw [hR]; exact ⟨rfl, rfl, Nat.le_of_ble_eq_true rfl, Nat.le_of_ble_eq_true rfl, (by dsimp only; omega), (by dsimp only; omega)⟩) (fun r_28 ah_29 H_30 L_31 st_32 hp hw hst => ?_)
            obtain ⟨rfl, rfl⟩ := hp
            have hst : st_32 = [.int wh4] := hst
            subst hst
            rw [hQ]
            exact vx_ret (h_iret hx hb hr hlk hsz hw (by omega) (by omega) dX9_judge_76 ⟨c_6, _, _, rfl, ⟨hsj34, ⟨shp4, mx4, my4, hi34⟩, hs34, hpa⟩, hK34, (fun h9 => absurd (h9.symm.trans c_7) (by decide)), fun _ => jgI_e hjg (Or.inl (by omega)) hi34n⟩)
          · skip
            have c_27 : ¬ (ns ≤ i) := (not_congr (nI_lex (by rfl) (by rfl) (by omega) (by omega))).mp c_27
            refine lv_aload_n hx hb dX9_judge_45 rfl (lv_at hl 1 rfl) ?_
            refine h_get (ci := 9) (v := .ref fd) (C := RX9) (T := TX9) (N := 4) hx hb hts kl_X9 hown hK hw hsj34 rfl 1 (by decide) (hts _ kf_X9_19) rfl rfl dX9_judge_46 ?_
            refine h_callV (n := 0) (ci := 1) (b := fd) (As := []) (rest := []) ⟨hx, hb, hml, hown, hts⟩ hK hw (c_X1_isMade l D dT ah34 H_24.size fd pa wh4 pl4 hi34.2.1 hi34.2.2.1) ko_X1_isMade km_X9_113 ki_X1_isMade ks_X1_isMade kn_X1 (by decide +kernel) rfl hi34.2.1 rfl hl.1 rfl (by simp [Value.category]) dX9_judge_49 (by rw [hR]; exact ⟨rfl, rfl, Nat.le_of_ble_eq_true rfl, Nat.le_of_ble_eq_true rfl, (by dsimp only; omega), (by dsimp only; omega)⟩) (fun r_33 ah_34 H_35 L_36 st_37 hp hw hst => ?_)
            obtain ⟨rfl, rfl⟩ := hp
            have hst : st_37 = [.int (bI (fdMade wh4))] := hst
            subst hst
            refine lv_if_ne (tgt := 69) hx hb dX9_judge_52 (by decide) (fun c_38 => ?_) (fun c_38 => ?_)
            · skip
              have c_38 : ¬ (fdMade wh4 = false) := (not_congr bI_0).mp c_38
              refine lv_aload_n hx hb dX9_judge_69 rfl (lv_at hl 1 rfl) ?_
              refine h_get (ci := 9) (v := .ref fd) (C := RX9) (T := TX9) (N := 4) hx hb hts kl_X9 hown hK hw hsj34 rfl 1 (by decide) (hts _ kf_X9_19) rfl rfl dX9_judge_70 ?_
              refine h_callV (n := 0) (ci := 1) (b := fd) (As := []) (rest := []) ⟨hx, hb, hml, hown, hts⟩ hK hw (c_X1_what l D dT ah34 H_35.size fd pa wh4 pl4 hi34.2.1 hi34.2.2.1) ko_X1_what km_X9_120 ki_X1_what ks_X1_what kn_X1 (by decide +kernel) rfl hi34.2.1 rfl hl.1 rfl (by simp [Value.category]) dX9_judge_73 (by rw [hR]; exact ⟨rfl, rfl, Nat.le_of_ble_eq_true rfl, Nat.le_of_ble_eq_true rfl, (by dsimp only; omega), (by dsimp only; omega)⟩) (fun r_39 ah_40 H_41 L_42 st_43 hp hw hst => ?_)
              obtain ⟨rfl, rfl⟩ := hp
              have hst : st_43 = [.int wh4] := hst
              subst hst
              rw [hQ]
              exact vx_ret (h_iret hx hb hr hlk hsz hw (by omega) (by omega) dX9_judge_76 ⟨c_6, _, _, rfl, ⟨hsj34, ⟨shp4, mx4, my4, hi34⟩, hs34, hpa⟩, hK34, (fun h9 => absurd (h9.symm.trans c_7) (by decide)), fun _ => jgI_e hjg (Or.inr c_38) hi34n⟩)
            · skip
              have c_38 : fdMade wh4 = false := bI_0.mp c_38
              obtain ⟨hno34, rfl⟩ := jgI_n hjg c_38
              obtain ⟨cn, hcn⟩ := shCnt_ex f ns i (by omega)
              obtain ⟨cov2, hcv2, hcst, hcss⟩ := cov_s hcv hcn hV (by omega) hm3
              have hb37 := hcv2.2.1
              have hb38 : FC cov2 ≤ nc := shV_c hV hcv2.2.1
              have hb39 : FP (FC cov2) ≤ np := shV_n hV hb38
              refine lv_aload_n hx hb dX9_judge_55 rfl (lv_at hl 1 rfl) ?_
              refine h_get (ci := 9) (v := .ref ins) (C := RX9) (T := TX9) (N := 4) hx hb hts kl_X9 hown hK hw hsj34 rfl 2 (by decide) (hts _ kf_X9_28) rfl rfl dX9_judge_56 ?_
              refine lv_iload_n hx hb dX9_judge_59 rfl (lv_at hl 0 rfl) ?_
              refine h_callV (n := 1) (ci := 2) (b := ins) (As := [.int (nI i)]) (rest := []) ⟨hx, hb, hml, hown, hts⟩ hK hw (c_X2_inspect l D dT ah34 H_35.size ins sh fd pa mt shp4 wh4 pl mx4 my4 hi34 RO RA cap ns nc np no rc f hs34 i FC FP hV (by omega) cn hcn (shFi f ns i) rfl (hln i (by omega))) ko_X2_inspect km_X9_116 ki_X2_inspect ks_X2_inspect kn_X2 (by decide +kernel) rfl hi34.1 rfl hl.1 rfl (by simp [Value.category]) dX9_judge_60 (by rw [hR]; exact ⟨rfl, rfl, Nat.le_of_ble_eq_true rfl, Nat.le_of_ble_eq_true rfl, (by dsimp only; omega), (by dsimp only; omega)⟩) (fun r_44 ah_45 H_46 L_47 st_48 hp hw hst => ?_)
              obtain ⟨b9, wh9, pl9, mx9, my9, o9, rfl, hi63, hK63, hR63, hD63⟩ := hp
              have hsj63 := inK4_o hi34 hK63 hsj34 (by simp) (by simp) (by simp) (by simp)
              have hs63 := shA_K4 hi34 hK63 hs34 hpa
              have hst : st_48 = [] := hst
              subst hst
              refine lv_iinc (v := nI (i + 1)) (lv' := [(1, .int (nI (i + 1))), (0, .ref sj)]) hx hb dX9_judge_63 hl (k := 0) rfl (nI_c _ 1) (by decide) rfl (fun ls hl => ?_)
              refine lv_goto (tgt := 34) hx hb dX9_judge_66 (by decide) ?_
              refine W.widen (k := 2 * (i + 1) + 3 * cov2 + 3 * FC cov2 + 2 * FP (FC cov2)) (n := 3 * cov2 + 14 * FC cov2 + 13 * FP (FC cov2)) (by omega) (by omega) ?_
              exact ih34 (i + 1) cov2 wh9 pl9 (nI i) mx9 my9 ah_45 ls _ _ (by omega) (by omega) hcv2 hsj63 hi63 hs63 (cjK_in hK34 hK63) (jgI_s hno34 hcn (by omega) hD63 hR63) (lv_sub hl [0, 1] rfl) hw
      refine W.widen (k := 2 * 0 + 3 * 0 + 3 * FC 0 + 2 * FP (FC 0)) (n := 3 * 0 + 14 * FC 0 + 13 * FP (FC 0)) (by omega) (by omega) ?_
      exact LP34 ((ns - 0) + 1) 0 0 wh pl shp mx my ah_15 ls _ _ (Nat.lt_succ_self _) (by omega) covI_0 hc_20 hi32 hs32 hK32 (jgI_0 (hw0 (by simpa using c_7))) (lv_sub hl [0, 1] rfl) hw
  · skip
    have c_6 : shWhole ns no = false := bI_0.mp c_6
    rw [hQ]
    exact h_throw hx hb hlt hown (by decide +kernel) hts kc_X9_55 kn_ISE hX9 (List.mem_of_getElem? (i := 8) rfl) xl_ISE xg_ISE hw (by rw [hml]; exact hl.1) hsz dX9_judge_10 dX9_judge_13 dX9_judge_14 dX9_judge_16 dX9_judge_19 hET (by rw [hR]; exact Nat.le_of_ble_eq_true rfl) (by rw [hR]; exact Nat.le_of_ble_eq_true rfl) (by rw [hR]; dsimp only; omega) (by rw [hR]; dsimp only; omega) hlk (⟨rfl, c_6⟩) (by omega) (by omega)

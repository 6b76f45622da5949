/-! ShapeJudge$Inspector -/
abbrev tG (t : rgT) : Nat → Nat := t.2.2.2.2.2.1
abbrev tB (t : rgT) : Nat → Nat := t.2.2.2.2.2.2.1
abbrev tS (t : rgT) : Nat → Nat → Int32 := t.2.2.2.2.2.2.2
def nxI (n i : Nat) : Nat := if i + 1 = n then 0 else i + 1
theorem nxI_lt {n i : Nat} (hi : i < n) : nxI n i < n := by unfold nxI; by_cases h : i + 1 = n <;> simp [h] <;> omega
theorem rgA_sg {dT : Nat → ClassId} {ah : hA} {t : rgT} {i : Nat} (h : rgA dT ah t) (h2 : 2 ≤ t.1 4) (hi : i < t.1 4) : ah (tG t i) = some (.inr (7, [.ref (t.1 0), .int (tS t i 0), .int (tS t i 1), .int (tS t i 2), .int (tS t i 3), .int (tS t i 4), .ref (tB t i), .ref (tG t (nxI (t.1 4) i))])) ∧ ah (tB t i) = some (.inr (0, [.int (tS t i 5), .int (tS t i 6), .int (tS t i 7), .int (tS t i 8)])) := by
  obtain ⟨-, g2, g3⟩ := h.2.2.2.2.2 i hi
  refine ⟨g2.trans ?_, g3⟩
  rw [show rgN (t.1 4) t.2.2.2.2.2.1 i = some (tG t (nxI (t.1 4) i)) from by unfold rgN nxI; rw [if_neg (by omega)]]; rfl
/-- the inspector, the finding with its places, the meeting -/
def inA (dT : Nat → ClassId) (ah : hA) (ins sh fd pa mt : Nat) (shp wh : Int32) (pl : Nat → Int32) (mx my : Int32) : Prop :=
  ah ins = some (.inr (2, [.ref sh, .ref fd, .ref mt, .int shp])) ∧ ah fd = some (.inr (1, [.int wh, .ref pa])) ∧ ah pa = some (.inl (dT 0, 7, .inl pl)) ∧ ah mt = some (.inr (3, [.int mx, .int my]))
/-- what inspecting leaves alone -/
def inK (ah ah2 : hA) (fd pa mt : Nat) : Prop := ∀ a e, ah a = some e → a ≠ fd → a ≠ pa → a ≠ mt → ah2 a = some e
theorem inK_r {ah : hA} {fd pa mt : Nat} : inK ah ah fd pa mt := fun _ _ h _ _ _ => h
theorem inK_t {ah ah1 ah2 : hA} {fd pa mt : Nat} (h1 : inK ah ah1 fd pa mt) (h2 : inK ah1 ah2 fd pa mt) : inK ah ah2 fd pa mt := fun a e h n1 n2 n3 => h2 a e (h1 a e h n1 n2 n3) n1 n2 n3
def jg (dT : Nat → ClassId) (e : va_E) : Prop := (∀ fs, e ≠ .inr (1, fs)) ∧ (∀ fs, e ≠ .inr (3, fs)) ∧ ∀ (n : Nat) (f : Nat → Int32), e ≠ .inl (dT 0, n, .inl f)
theorem inK_j {dT : Nat → ClassId} {ah ah2 : hA} {ins sh fd pa mt : Nat} {shp wh : Int32} {pl : Nat → Int32} {mx my : Int32} (hi : inA dT ah ins sh fd pa mt shp wh pl mx my) (hk : inK ah ah2 fd pa mt) {a : Nat} {e : va_E} (h : ah a = some e) (hj : jg dT e) : ah2 a = some e :=
  hk a e h (h_ne h hi.2.1 (hj.1 _)) (h_ne h hi.2.2.1 (hj.2.2 _ _)) (h_ne h hi.2.2.2 (hj.2.1 _))
theorem rgA_j {dT : Nat → ClassId} {ah ah2 : hA} {t : rgT} (hk : ∀ a e, ah a = some e → jg dT e → ah2 a = some e) (h : rgA dT ah t) : rgA dT ah2 t := by
  obtain ⟨h1, h2, h3, h4, h5, h6⟩ := h
  refine ⟨hk _ _ h1 ⟨by simp, by simp, by simp⟩, hk _ _ h2 ⟨by simp, by simp, by simp⟩, hk _ _ h3 ⟨by simp, by simp, by simp⟩, h4, h5, fun i hi => ?_⟩
  obtain ⟨g1, g2, g3⟩ := h6 i hi
  exact ⟨g1, hk _ _ g2 ⟨by simp, by simp, by simp⟩, hk _ _ g3 ⟨by simp, by simp, by simp⟩⟩
theorem plA_j {dT : Nat → ClassId} {ah ah2 : hA} {pg ra nr : Nat} {pp : Int32} {FR : Nat → Option Nat} {RT : Nat → rgT} (hk : ∀ a e, ah a = some e → jg dT e → ah2 a = some e) (h : plA dT ah pg ra nr pp FR RT) : plA dT ah2 pg ra nr pp FR RT :=
  ⟨hk _ _ h.1 ⟨by simp, by simp, by simp⟩, hk _ _ h.2.1 ⟨by simp, by simp, by simp⟩, h.2.2.1, fun i hi => ⟨(h.2.2.2 i hi).1, rgA_j hk (h.2.2.2 i hi).2⟩⟩
/-- what is found: the fault and the places -/
abbrev fT : Type := Option (Int32 × (Nat → Int32))
def inR (o : fT) (wh : Int32) (pl : Nat → Int32) (b : Bool) (wh2 : Int32) (pl2 : Nat → Int32) : Prop := match o with
  | none => b = false ∧ wh = wh2 ∧ pl = pl2
  | some q => b = true ∧ wh2 = q.1 ∧ pl2 = q.2
theorem inR_f {o : fT} {wh wh2 : Int32} {pl pl2 : Nat → Int32} {b : Bool} (h : inR o wh pl b wh2 pl2) (hb : b = false) : o = none ∧ wh = wh2 ∧ pl = pl2 := by
  cases o with
  | none => exact ⟨rfl, h.2⟩
  | some q => exact absurd (h.1.symm.trans hb) (by decide)
theorem inR_t {o : fT} {wh wh2 : Int32} {pl pl2 : Nat → Int32} {b : Bool} (h : inR o wh pl b wh2 pl2) (hb : ¬ b = false) : o = some (wh2, pl2) := by
  cases o with
  | none => exact absurd h.1 hb
  | some q => rw [h.2.1, h.2.2]
def p1 (pl : Nat → Int32) (a b c : Int32) : Nat → Int32 := upd (upd (upd pl 1 a) 2 b) 3 c
def p2 (pl : Nat → Int32) (a b c : Int32) : Nat → Int32 := upd (upd (upd pl 4 a) 5 b) 6 c
def firstO {α : Type} : Nat → (Nat → Option α) → Option α
  | 0, _ => none
  | n + 1, g => match firstO n g with
    | some x => some x
    | none => g n
theorem firstO_none {α : Type} {n : Nat} {g : Nat → Option α} (h : ∀ i, i < n → g i = none) : firstO n g = none := by
  induction n with
  | zero => rfl
  | succ n ih => simp [firstO, ih (fun i hi => h i (by omega)), h n (by omega)]
theorem firstO_some {α : Type} {n i : Nat} {g : Nat → Option α} {x : α} (hi : i < n) (hf : g i = some x) (h : ∀ j, j < i → g j = none) : firstO n g = some x := by
  induction n with
  | zero => omega
  | succ n ih =>
    by_cases e : i = n
    · subst e; simp [firstO, firstO_none h, hf]
    · simp [firstO, ih (by omega)]
theorem lt_o {α : Type} {g : Nat → Option α} {i : Nat} (h : ∀ j, j < i → g j = none) (hi : g i = none) : ∀ j, j < i + 1 → g j = none := fun j hj => by
  by_cases e : j = i
  · rw [e]; exact hi
  · exact h j (by omega)
/-- a ring that is not closed, or has too few points -/
def rgBad (t : rgT) : Bool := if t.2.2.1 = false then true else (if 3 ≤ t.2.1 2 then false else true)
theorem rgBad_1 {t : rgT} (h : t.2.2.1 = false) : rgBad t = true := if_pos h
theorem rgBad_2 {t : rgT} (h : ¬ 3 ≤ t.2.1 2) : rgBad t = true := by unfold rgBad; by_cases h1 : t.2.2.1 = false <;> simp [h1, h]
theorem rgBad_f {t : rgT} (h : ¬ t.2.2.1 = false) (h2 : 3 ≤ t.2.1 2) : rgBad t = false := by unfold rgBad; simp [h, h2]
def frR (shp pp : Int32) (pl : Nat → Int32) (nr : Nat) (RT : Nat → rgT) : fT := (firstB nr (fun i => rgBad (RT i))).map (fun i => (if (RT i).2.2.1 = false then 1 else 2, p1 (upd pl 0 shp) pp (nI i) (-1)))
def hoC (shp pp : Int32) (pl : Nat → Int32) (RT : Nat → rgT) (i : Nat) : fT := if i < 1 then none else if rIn (RT i) (RT 0) = false then some (6, p1 (upd pl 0 shp) pp (nI i) (-1)) else none
theorem hoC_n {shp pp : Int32} {pl : Nat → Int32} {RT : Nat → rgT} {i : Nat} (h : ¬ rIn (RT i) (RT 0) = false) : hoC shp pp pl RT i = none := by unfold hoC; simp [h]
theorem hoC_s {shp pp : Int32} {pl : Nat → Int32} {RT : Nat → rgT} {i : Nat} (h1 : 1 ≤ i) (h : rIn (RT i) (RT 0) = false) : hoC shp pp pl RT i = some (6, p1 (upd pl 0 shp) pp (nI i) (-1)) := by unfold hoC; rw [if_neg (by omega), if_pos h]
def phC (shp pp : Int32) (pl : Nat → Int32) (RT : Nat → rgT) (i j : Nat) : fT := if i < 1 then none else if j < i + 1 then none else if rIn (RT i) (RT j) = false ∧ rIn (RT j) (RT i) = false then none else some (7, p2 (p1 (upd pl 0 shp) pp (nI i) (-1)) pp (nI j) (-1))
theorem phC_n {shp pp : Int32} {pl : Nat → Int32} {RT : Nat → rgT} {i j : Nat} (h : rIn (RT i) (RT j) = false) (h' : rIn (RT j) (RT i) = false) : phC shp pp pl RT i j = none := by unfold phC; simp [h, h']
theorem phC_l {shp pp : Int32} {pl : Nat → Int32} {RT : Nat → rgT} {i j : Nat} (h : j < i + 1) : phC shp pp pl RT i j = none := by unfold phC; simp [h]
theorem phC_s {shp pp : Int32} {pl : Nat → Int32} {RT : Nat → rgT} {i j : Nat} (h1 : 1 ≤ i) (h2 : i + 1 ≤ j) (h : ¬ rIn (RT i) (RT j) = false ∨ ¬ rIn (RT j) (RT i) = false) : phC shp pp pl RT i j = some (7, p2 (p1 (upd pl 0 shp) pp (nI i) (-1)) pp (nI j) (-1)) := by
  unfold phC; rw [if_neg (by omega), if_neg (by omega), if_neg (by rintro ⟨q1, q2⟩; rcases h with h | h; exact h q1; exact h q2)]
def whM (shp pp : Int32) (pl : Nat → Int32) (nr : Nat) (RT : Nat → rgT) : fT := if nr < 2 then none else if plSplit nr RT = false then none else some (8, p1 (upd pl 0 shp) pp (-1) (-1))
def ppC (shp : Int32) (pl : Nat → Int32) (NR : Nat → Nat) (PT : Nat → pT) (i j : Nat) : fT := if j < i + 1 then none else if plIn (NR i) (PT i).2.2.2 (NR j) (PT j).2.2.2 = false ∧ plIn (NR j) (PT j).2.2.2 (NR i) (PT i).2.2.2 = false then none else some (11, p2 (p1 (upd pl 0 shp) (nI i) (-1) (-1)) (nI j) (-1) (-1))
theorem ppC_n {shp : Int32} {pl : Nat → Int32} {NR : Nat → Nat} {PT : Nat → pT} {i j : Nat} (h : plIn (NR i) (PT i).2.2.2 (NR j) (PT j).2.2.2 = false) (h' : plIn (NR j) (PT j).2.2.2 (NR i) (PT i).2.2.2 = false) : ppC shp pl NR PT i j = none := by unfold ppC; simp [h, h']
theorem ppC_l {shp : Int32} {pl : Nat → Int32} {NR : Nat → Nat} {PT : Nat → pT} {i j : Nat} (h : j < i + 1) : ppC shp pl NR PT i j = none := by unfold ppC; simp [h]
theorem ppC_s {shp : Int32} {pl : Nat → Int32} {NR : Nat → Nat} {PT : Nat → pT} {i j : Nat} (h2 : i + 1 ≤ j) (h : ¬ plIn (NR i) (PT i).2.2.2 (NR j) (PT j).2.2.2 = false ∨ ¬ plIn (NR j) (PT j).2.2.2 (NR i) (PT i).2.2.2 = false) : ppC shp pl NR PT i j = some (11, p2 (p1 (upd pl 0 shp) (nI i) (-1) (-1)) (nI j) (-1) (-1)) := by
  unfold ppC; rw [if_neg (by omega), if_neg (by rintro ⟨q1, q2⟩; rcases h with h | h; exact h q1; exact h q2)]
/-- the polygons that are looked at together -/
def mpA (dT : Nat → ClassId) (ah : hA) (qa cn : Nat) (FQ : Nat → Option Nat) (PT : Nat → pT) (NR : Nat → Nat) (PP : Nat → Int32) : Prop :=
  ah qa = some (.inl (dT 4, cn, .inr (.inr (.inr (.inr FQ))))) ∧ ∀ j, j < cn → FQ j = some (PT j).1 ∧ plA dT ah (PT j).1 (PT j).2.1 (NR j) (PP j) (PT j).2.2.1 (PT j).2.2.2
def tellC (x a b : Int32) : Int32 := if a = b then x else (if x = 3 then 9 else 10)
/-- the fault of two segments of rings -/
def sgF (mx my : Int32) (t u : rgT) (i j : Nat) : Int32 × Int32 × Int32 :=
  mtFault mx my (tG t i) (tG t (nxI (t.1 4) i)) (t.1 0) (tS t i 1) (tS t i 2) (tS t i 3) (tS t i 4) (tS t i 5) (tS t i 6) (tS t i 7) (tS t i 8) (tS t (nxI (t.1 4) i) 3) (tS t (nxI (t.1 4) i) 4)
    (tG u j) (tG u (nxI (u.1 4) j)) (u.1 0) (tS u j 1) (tS u j 2) (tS u j 3) (tS u j 4) (tS u j 5) (tS u j 6) (tS u j 7) (tS u j 8) (tS u (nxI (u.1 4) j) 3) (tS u (nxI (u.1 4) j) 4)
def sgC (t u : rgT) (i j : Nat) : Int32 := (sgF 0 0 t u i j).1
theorem mtMeet_f (fx1 fy1 tx1 ty1 bx0p by0p bx1p by1p fx2 fy2 tx2 ty2 bx0q by0q bx1q by1q : Int32) : ∃ (c x y : Int32) (fl : Bool), (fl = true ↔ c = 2) ∧ (c = 0 ∨ c = 1 ∨ c = 2 ∨ c = 3) ∧ ∀ mx my, mtMeet mx my fx1 fy1 tx1 ty1 bx0p by0p bx1p by1p fx2 fy2 tx2 ty2 bx0q by0q bx1q by1q = (c, if fl = true then x else mx, if fl = true then y else my) := by
  by_cases h1 : bxApart bx0p by0p bx1p by1p bx0q by0q bx1q by1q = false
  · by_cases h2 : sgSide fx1 fy1 tx1 ty1 fx2 fy2 = 0
    · by_cases h3 : sgSide fx1 fy1 tx1 ty1 tx2 ty2 = 0
      · by_cases h4 : ((if iMax bx0p bx0q = iMin bx1p bx1q then (if iMax by0p by0q = iMin by1p by1q then 1 else 0) else 0) : Int32) = 0
        · exact ⟨3, 0, 0, false, by simp, by simp, fun mx my => by unfold mtMeet mtLine; rw [if_pos h1, if_pos h2, if_pos h3, if_pos h4]; rfl⟩
        · exact ⟨2, iMax bx0p bx0q, iMax by0p by0q, true, by simp, by simp, fun mx my => by unfold mtMeet mtLine; rw [if_pos h1, if_pos h2, if_pos h3, if_neg h4]; rfl⟩
      · by_cases h4 : mtOne (sgSide fx1 fy1 tx1 ty1 fx2 fy2) (sgSide fx1 fy1 tx1 ty1 tx2 ty2) = false
        · by_cases h5 : mtOne (sgSide fx2 fy2 tx2 ty2 fx1 fy1) (sgSide fx2 fy2 tx2 ty2 tx1 ty1) = false
          · exact ⟨2, fx2, fy2, true, by simp, by simp, fun mx my => by unfold mtMeet; rw [if_pos h1, if_pos h2, if_neg h3, if_pos h4, if_pos h5, if_pos h2]; rfl⟩
          · exact ⟨0, 0, 0, false, by simp, by simp, fun mx my => by unfold mtMeet; rw [if_pos h1, if_pos h2, if_neg h3, if_pos h4, if_neg h5]; rfl⟩
        · exact ⟨0, 0, 0, false, by simp, by simp, fun mx my => by unfold mtMeet; rw [if_pos h1, if_pos h2, if_neg h3, if_neg h4]; rfl⟩
    · by_cases h4 : mtOne (sgSide fx1 fy1 tx1 ty1 fx2 fy2) (sgSide fx1 fy1 tx1 ty1 tx2 ty2) = false
      · by_cases h5 : mtOne (sgSide fx2 fy2 tx2 ty2 fx1 fy1) (sgSide fx2 fy2 tx2 ty2 tx1 ty1) = false
        · by_cases h3 : sgSide fx1 fy1 tx1 ty1 tx2 ty2 = 0
          · exact ⟨2, tx2, ty2, true, by simp, by simp, fun mx my => by unfold mtMeet; rw [if_pos h1, if_neg h2, if_pos h4, if_pos h5, if_neg h2, if_pos h3]; rfl⟩
          · by_cases h6 : sgSide fx2 fy2 tx2 ty2 fx1 fy1 = 0
            · exact ⟨2, fx1, fy1, true, by simp, by simp, fun mx my => by unfold mtMeet; rw [if_pos h1, if_neg h2, if_pos h4, if_pos h5, if_neg h2, if_neg h3, if_pos h6]; rfl⟩
            · by_cases h7 : sgSide fx2 fy2 tx2 ty2 tx1 ty1 = 0
              · exact ⟨2, tx1, ty1, true, by simp, by simp, fun mx my => by unfold mtMeet; rw [if_pos h1, if_neg h2, if_pos h4, if_pos h5, if_neg h2, if_neg h3, if_neg h6, if_pos h7]; rfl⟩
              · exact ⟨1, 0, 0, false, by simp, by simp, fun mx my => by unfold mtMeet; rw [if_pos h1, if_neg h2, if_pos h4, if_pos h5, if_neg h2, if_neg h3, if_neg h6, if_neg h7]; rfl⟩
        · exact ⟨0, 0, 0, false, by simp, by simp, fun mx my => by unfold mtMeet; rw [if_pos h1, if_neg h2, if_pos h4, if_neg h5]; rfl⟩
      · exact ⟨0, 0, 0, false, by simp, by simp, fun mx my => by unfold mtMeet; rw [if_pos h1, if_neg h2, if_neg h4]; rfl⟩
  · exact ⟨0, 0, 0, false, by simp, by simp, fun mx my => by unfold mtMeet; rw [if_neg h1]; rfl⟩
theorem mtFault_c {mx my : Int32} {g1 nx1 rg1 : Nat} {fx1 fy1 tx1 ty1 bx0p by0p bx1p by1p tx3 ty3 : Int32} {g2 nx2 rg2 : Nat} {fx2 fy2 tx2 ty2 bx0q by0q bx1q by1q tx4 ty4 : Int32} :
    (mtFault mx my g1 nx1 rg1 fx1 fy1 tx1 ty1 bx0p by0p bx1p by1p tx3 ty3 g2 nx2 rg2 fx2 fy2 tx2 ty2 bx0q by0q bx1q by1q tx4 ty4).1 = (mtFault 0 0 g1 nx1 rg1 fx1 fy1 tx1 ty1 bx0p by0p bx1p by1p tx3 ty3 g2 nx2 rg2 fx2 fy2 tx2 ty2 bx0q by0q bx1q by1q tx4 ty4).1 := by
  obtain ⟨c, x, y, fl, h1, h2, h3⟩ := mtMeet_f fx1 fy1 tx1 ty1 bx0p by0p bx1p by1p fx2 fy2 tx2 ty2 bx0q by0q bx1q by1q
  unfold mtFault
  rw [h3 mx my, h3 0 0]
  by_cases e0 : c = 0
  · rw [if_pos e0, if_pos e0]
  · by_cases e3 : c = 3
    · rw [if_neg e0, if_neg e0, if_pos e3, if_pos e3]
    · by_cases e1 : c = 1
      · rw [if_neg e0, if_neg e0, if_neg e3, if_neg e3, if_pos e1, if_pos e1]
      · have e2 : fl = true := h1.mpr (by rcases h2 with h | h | h | h; exact absurd h e0; exact absurd h e1; exact h; exact absurd h e3)
        rw [if_neg e0, if_neg e0, if_neg e3, if_neg e3, if_neg e1, if_neg e1, if_pos e2, if_pos e2, if_pos e2, if_pos e2]
theorem sgF_c {mx my : Int32} {t u : rgT} {i j : Nat} : (sgF mx my t u i j).1 = sgC t u i j := mtFault_c
def isC (t u : rgT) (i k0 j : Nat) : Bool := decide (k0 ≤ j) && !decide (sgC t u i j = 0)
theorem isC_l {t u : rgT} {i k0 j : Nat} (h : j < k0) : isC t u i k0 j = false := by unfold isC; simp [show ¬ k0 ≤ j by omega]
theorem isC_f {t u : rgT} {i k0 j : Nat} {mx my : Int32} (h : (sgF mx my t u i j).1 = 0) : isC t u i k0 j = false := by rw [sgF_c] at h; unfold isC; simp [h]
theorem isC_t {t u : rgT} {i k0 j : Nat} {mx my : Int32} (hk : k0 ≤ j) (h : ¬ (sgF mx my t u i j).1 = 0) : isC t u i k0 j = true := by rw [sgF_c] at h; unfold isC; simp [h, hk]
def fsR (shp : Int32) (pl : Nat → Int32) (t u : rgT) (i k0 : Nat) : fT :=
  if bxApart (tS t i 5) (tS t i 6) (tS t i 7) (tS t i 8) (u.2.2.2.1 0) (u.2.2.2.1 1) (u.2.2.2.1 2) (u.2.2.2.1 3) = false then (firstB (u.1 4) (isC t u i k0)).map (fun j => (tellC (sgC t u i j) (t.2.1 0) (u.2.1 0), p2 (p1 (upd pl 0 shp) (t.2.1 0) (t.2.1 1) (tS t i 0)) (u.2.1 0) (u.2.1 1) (tS u j 0))) else none
theorem fsR_a {shp : Int32} {pl : Nat → Int32} {t u : rgT} {i k0 : Nat} (h : ¬ bxApart (tS t i 5) (tS t i 6) (tS t i 7) (tS t i 8) (u.2.2.2.1 0) (u.2.2.2.1 1) (u.2.2.2.1 2) (u.2.2.2.1 3) = false) : fsR shp pl t u i k0 = none := if_neg h
theorem fsR_n {shp : Int32} {pl : Nat → Int32} {t u : rgT} {i k0 : Nat} (h : ∀ j, j < u.1 4 → isC t u i k0 j = false) : fsR shp pl t u i k0 = none := by unfold fsR; rw [firstB_none h]; split <;> rfl
theorem fsR_s {shp : Int32} {pl : Nat → Int32} {t u : rgT} {i k0 k : Nat} (hk : k < u.1 4) (h : bxApart (tS t i 5) (tS t i 6) (tS t i 7) (tS t i 8) (u.2.2.2.1 0) (u.2.2.2.1 1) (u.2.2.2.1 2) (u.2.2.2.1 3) = false) (hc : isC t u i k0 k = true) (hp : ∀ j, j < k → isC t u i k0 j = false) :
    fsR shp pl t u i k0 = some (tellC (sgC t u i k) (t.2.1 0) (u.2.1 0), p2 (p1 (upd pl 0 shp) (t.2.1 0) (t.2.1 1) (tS t i 0)) (u.2.1 0) (u.2.1 1) (tS u k 0)) := by
  unfold fsR; rw [if_pos h, firstB_some hk hc hp]; rfl
set_option maxHeartbeats 4000000 in
set_option maxRecDepth 100000 in
theorem c_X2_inspectRings (l : Launch) (D : va_G) (dT : Nat → ClassId) (ah : hA) (sz : Nat) (ins sh fd pa mt : Nat) (shp wh : Int32) (pl : Nat → Int32) (mx my : Int32) (hi9 : inA dT ah ins sh fd pa mt shp wh pl mx my) (pg ra nr : Nat) (pp : Int32) (FR : Nat → Option Nat) (RT : Nat → rgT) (hp9 : plA dT ah pg ra nr pp FR RT) : hMet l yX2_inspectRings cX2_inspectRings 4 (some .boolean) ({ frames := 2, cells := 0, slots := 0, locals := 47 }) D dT [.ref ins, .ref pg] ah sz (fun r ah2 => ∃ (b : Bool) (wh2 : Int32) (pl2 : Nat → Int32) (mx2 my2 : Int32), r = some (.int (bI b)) ∧ inA dT ah2 ins sh fd pa mt shp wh2 pl2 mx2 my2 ∧ inK ah ah2 fd pa mt ∧ inR (frR shp pp pl nr RT) wh pl b wh2 pl2) 0 0 := by
  refine h_met (by decide) (Nat.le_of_ble_eq_true rfl) ?_
  intro p e s m below meth c ls R Q args hav hR hQ hB hl hsz hw
  obtain ⟨hx, hb, hml, hr, hts, hown, hlk, hin, hK⟩ := hB
  have hown : s.vm.findClass RX2 = some m.cls := hown
  have hl : lv_has ls 4 [(0, .ref ins), (1, .ref pg)] := hl
  have hp90 := hp9
  obtain ⟨hpg, hra, hnr, hpl⟩ := hp90
  refine lv_iconst (v := 0) hx hb dX2_inspectRings_0 (by decide) ?_
  refine lv_istore_n (lv' := [(2, .int 0), (0, .ref ins), (1, .ref pg)]) hx hb dX2_inspectRings_1 rfl hl (by decide) rfl (fun ls hl => ?_)
  have LP2 : ∀ (k2 : Nat) (i : Nat) (ls : Array Slot) (H2 : Heap) (L2 : List Loc), (nr - i < k2) → (i ≤ nr) → (∀ j, j < i → rgBad (RT j) = false) → lv_has ls 4 [(2, .int (nI i)), (0, .ref ins), (1, .ref pg)] → hW D ah s.heap ah H2 L2 → W p l e R s m args below meth c H2 L2 (0) (0) Q (F0 m 2 ls []) := by
    intro k2
    induction k2 with
    | zero => intro i ls H2 L2 hk; exact absurd hk (Nat.not_lt_zero _)
    | succ k2 ih2 =>
      intro i ls H2 L2 hk2 hi hpv hl hw
      refine lv_iload_n hx hb dX2_inspectRings_2 rfl (lv_at hl 0 rfl) ?_
      refine lv_aload_n hx hb dX2_inspectRings_3 rfl (lv_at hl 2 rfl) ?_
      refine h_getN (ci := 4) (v := .ref ra) (C := RX4) (T := TX4) (N := 2) hx hb hts kl_X4 hown hK hw hpg rfl 1 (by decide) (va_Nw.use rfl (hK.2.1 _ (List.mem_of_getElem? (i := 34) rfl))) rfl rfl dX2_inspectRings_4 ?_
      refine h_alen hx hb hK hw 3 rfl hra dX2_inspectRings_7 ?_
      refine lv_icmp_ge (tgt := 77) hx hb dX2_inspectRings_8 (by decide) (fun c_1 => ?_) (fun c_1 => ?_)
      · skip
        have c_1 : nr ≤ i := (nI_lex (by rfl) (by rfl) (by omega) (by omega)).mp c_1
        refine lv_iconst (v := 0) hx hb dX2_inspectRings_77 (by decide) ?_
        rw [hQ]
        exact h_zret hx hb hr hlk hsz hw (by simp) (by simp) dX2_inspectRings_78 (by decide) ⟨false, _, _, _, _, rfl, ⟨hi9.1, hi9.2.1, hi9.2.2.1, hi9.2.2.2⟩, (fun a e9 h1 h2 h3 h4 => (by exact h1)), (by rw [show frR shp pp pl nr RT = none from by unfold frR; rw [firstB_none (fun j hj => hpv j (by omega))]; rfl]; exact ⟨rfl, rfl, rfl⟩)⟩
      · skip
        have c_1 : ¬ (nr ≤ i) := (not_congr (nI_lex (by rfl) (by rfl) (by omega) (by omega))).mp c_1
        refine lv_aload_n hx hb dX2_inspectRings_11 rfl (lv_at hl 2 rfl) ?_
        refine h_getN (ci := 4) (v := .ref ra) (C := RX4) (T := TX4) (N := 2) hx hb hts kl_X4 hown hK hw hpg rfl 1 (by decide) (va_Nw.use rfl (hK.2.1 _ (List.mem_of_getElem? (i := 34) rfl))) rfl rfl dX2_inspectRings_12 ?_
        refine lv_iload_n hx hb dX2_inspectRings_15 rfl (lv_at hl 0 rfl) ?_
        obtain ⟨hr_2_f, hr_2_g⟩ := hpl i (by omega)
        have hr_2_g : rgAt dT ah ((RT i).1 0) ((RT i).1 1) ((RT i).1 2) ((RT i).1 3) ((RT i).1 4) ((RT i).2.1 0) ((RT i).2.1 1) ((RT i).2.1 2) ((RT i).2.2.1) ((RT i).2.2.2.1) ((RT i).2.2.2.2.1) ((RT i).2.2.2.2.2.1) ((RT i).2.2.2.2.2.2.1) ((RT i).2.2.2.2.2.2.2) := hr_2_g
        refine h_aald hx hb hK hw 3 rfl hra i rfl (by omega) (by omega) hr_2_f dX2_inspectRings_16 ?_
        refine lv_astore_n (lv' := [(3, .ref ((RT i).1 0)), (2, .int (nI i)), (0, .ref ins), (1, .ref pg)]) hx hb dX2_inspectRings_17 rfl hl (by decide) rfl (fun ls hl => ?_)
        refine lv_aload_n hx hb dX2_inspectRings_18 rfl (lv_at hl 0 rfl) ?_
        refine h_getN (ci := 5) (v := .int (bI ((RT i).2.2.1))) (C := RX5) (T := TX5) (N := 7) hx hb hts kl_X5 hown hK hw hr_2_g.1 rfl 5 (by decide) (va_Nw.use rfl (hK.2.1 _ (List.mem_of_getElem? (i := 12) rfl))) rfl rfl dX2_inspectRings_19 ?_
        refine lv_if_eq (tgt := 33) hx hb dX2_inspectRings_22 (by decide) (fun c_3 => ?_) (fun c_3 => ?_)
        · skip
          have c_3 : (RT i).2.2.1 = false := bI_0.mp c_3
          refine lv_aload_n hx hb dX2_inspectRings_33 rfl (lv_at hl 2 rfl) ?_
          refine h_get (ci := 2) (v := .ref fd) (C := RX2) (T := TX2) (N := 4) hx hb hts kl_X2 hown hK hw hi9.1 rfl 1 (by decide) (hts _ kf_X2_15) rfl rfl dX2_inspectRings_34 ?_
          refine lv_aload_n hx hb dX2_inspectRings_37 rfl (lv_at hl 0 rfl) ?_
          refine h_getN (ci := 5) (v := .int (bI ((RT i).2.2.1))) (C := RX5) (T := TX5) (N := 7) hx hb hts kl_X5 hown hK hw hr_2_g.1 rfl 5 (by decide) (va_Nw.use rfl (hK.2.1 _ (List.mem_of_getElem? (i := 12) rfl))) rfl rfl dX2_inspectRings_38 ?_
          have J_6 : ∀ (v_5 : Int32) (ls : Array Slot), lv_has ls 4 [(3, .ref ((RT i).1 0)), (2, .int (nI i)), (0, .ref ins), (1, .ref pg)] → v_5 = (if (RT i).2.2.1 = false then 1 else 2) → W p l e R s m args below meth c H2 L2 (0) (0) Q (F0 m 49 ls [.int v_5, .ref fd]) := by
            intro v_5 ls hl ev_5
            refine lv_aload_n hx hb dX2_inspectRings_49 rfl (lv_at hl 2 rfl) ?_
            refine h_get (ci := 2) (v := .int shp) (C := RX2) (T := TX2) (N := 4) hx hb hts kl_X2 hown hK hw hi9.1 rfl 3 (by decide) (hts _ kf_X2_26) rfl rfl dX2_inspectRings_50 ?_
            refine h_callV (n := 2) (ci := 1) (b := fd) (As := [.int v_5, .int shp]) (rest := []) ⟨hx, hb, hml, hown, hts⟩ hK hw (c_X1_tell l D dT ah H2.size fd pa wh pl hi9.2.1 hi9.2.2.1 v_5 shp) ko_X1_tell km_X2_77 ki_X1_tell ks_X1_tell kn_X1 (by decide +kernel) rfl hi9.2.1 rfl hl.1 rfl (by simp [Value.category]) dX2_inspectRings_53 (by rw [hR]; exact ⟨rfl, rfl, Nat.le_of_ble_eq_true rfl, Nat.le_of_ble_eq_true rfl, by simp, by simp⟩) (fun r_7 ah_8 H_9 L_10 st_11 hp hw hst => ?_)
            obtain ⟨rfl, eah_8⟩ := hp
            obtain ⟨am_12, eam_12⟩ : ∃ z9 : hA, z9 = hup ah fd (.inr (1, [.int v_5, .ref pa])) := ⟨_, rfl⟩
            rw [← eam_12] at eah_8
            have hc_13 := (show am_12 ins = _ from (by rw [eam_12]; exact hup_n (h_ne hi9.1 hi9.2.1 (by simp)))).trans hi9.1
            have hc_14 : am_12 fd = some (.inr (1, [.int v_5, .ref pa])) := by rw [eam_12]; exact hup_s
            have hc_15 := (show am_12 pa = _ from (by rw [eam_12]; exact hup_n (h_ne hi9.2.2.1 hi9.2.1 (by simp)))).trans hi9.2.2.1
            have hc_16 := (show am_12 mt = _ from (by rw [eam_12]; exact hup_n (h_ne hi9.2.2.2 hi9.2.1 (by simp)))).trans hi9.2.2.2
            have hc_17 := (show am_12 pg = _ from (by rw [eam_12]; exact hup_n (h_ne hpg hi9.2.1 (by simp)))).trans hpg
            have hc_18 := (show am_12 ra = _ from (by rw [eam_12]; exact hup_n (h_ne hra hi9.2.1 (by simp)))).trans hra
            have hc_19 := (show am_12 ((RT i).1 0) = _ from (by rw [eam_12]; exact hup_n (h_ne hr_2_g.1 hi9.2.1 (by simp)))).trans hr_2_g.1
            have hc_20 := (show am_12 ((RT i).1 1) = _ from (by rw [eam_12]; exact hup_n (h_ne hr_2_g.2.1 hi9.2.1 (by simp)))).trans hr_2_g.2.1
            have hc_21 := (show am_12 ((RT i).1 2) = _ from (by rw [eam_12]; exact hup_n (h_ne hr_2_g.2.2.1 hi9.2.1 (by simp)))).trans hr_2_g.2.2.1
            have hc_22 := (show ah_8 ins = _ from (by rw [eah_8]; exact hup_n (h_ne hc_13 hc_15 (by simp)))).trans hc_13
            have hc_23 := (show ah_8 fd = _ from (by rw [eah_8]; exact hup_n (h_ne hc_14 hc_15 (by simp)))).trans hc_14
            have hc_24 : ah_8 pa = some (.inl (dT 0, 7, .inl (upd pl 0 shp))) := by rw [eah_8]; exact hup_s
            have hc_25 := (show ah_8 mt = _ from (by rw [eah_8]; exact hup_n (h_ne hc_16 hc_15 (by simp)))).trans hc_16
            have hc_26 := (show ah_8 pg = _ from (by rw [eah_8]; exact hup_n (h_ne hc_17 hc_15 (by simp)))).trans hc_17
            have hc_27 := (show ah_8 ra = _ from (by rw [eah_8]; exact hup_n (h_ne hc_18 hc_15 (by simp)))).trans hc_18
            have hc_28 := (show ah_8 ((RT i).1 0) = _ from (by rw [eah_8]; exact hup_n (h_ne hc_19 hc_15 (by simp)))).trans hc_19
            have hc_29 := (show ah_8 ((RT i).1 1) = _ from (by rw [eah_8]; exact hup_n (h_ne hc_20 hc_15 (by simp)))).trans hc_20
            have hc_30 := (show ah_8 ((RT i).1 2) = _ from (by rw [eah_8]; exact hup_n (h_ne hc_21 hc_15 (by simp)))).trans hc_21
            have hst : st_11 = [] := hst
            subst hst
            refine lv_aload_n hx hb dX2_inspectRings_56 rfl (lv_at hl 2 rfl) ?_
            refine h_get (ci := 2) (v := .ref fd) (C := RX2) (T := TX2) (N := 4) hx hb hts kl_X2 hown hK hw hc_22 rfl 1 (by decide) (hts _ kf_X2_15) rfl rfl dX2_inspectRings_57 ?_
            refine lv_aload_n hx hb dX2_inspectRings_60 rfl (lv_at hl 3 rfl) ?_
            refine h_getN (ci := 4) (v := .int pp) (C := RX4) (T := TX4) (N := 2) hx hb hts kl_X4 hown hK hw hc_26 rfl 0 (by decide) (va_Nw.use rfl (hK.2.1 _ (List.mem_of_getElem? (i := 33) rfl))) rfl rfl dX2_inspectRings_61 ?_
            refine lv_iload_n hx hb dX2_inspectRings_64 rfl (lv_at hl 1 rfl) ?_
            refine lv_iconst (v := (-1)) hx hb dX2_inspectRings_65 (by decide) ?_
            refine h_callV (n := 3) (ci := 1) (b := fd) (As := [.int pp, .int (nI i), .int (-1)]) (rest := []) ⟨hx, hb, hml, hown, hts⟩ hK hw (c_X1_tellOne l D dT ah_8 H_9.size fd pa v_5 (upd pl 0 shp) hc_23 hc_24 pp (nI i) (-1)) ko_X1_tellOne km_X2_95 ki_X1_tellOne ks_X1_tellOne kn_X1 (by decide +kernel) rfl hc_23 rfl hl.1 rfl (by simp [Value.category]) dX2_inspectRings_66 (by rw [hR]; exact ⟨rfl, rfl, Nat.le_of_ble_eq_true rfl, Nat.le_of_ble_eq_true rfl, by simp, by simp⟩) (fun r_31 ah_32 H_33 L_34 st_35 hp hw hst => ?_)
            obtain ⟨rfl, eah_32⟩ := hp
            have hc_36 := (show ah_32 ins = _ from (by rw [eah_32]; exact hup_n (h_ne hc_22 hc_24 (by simp)))).trans hc_22
            have hc_37 := (show ah_32 fd = _ from (by rw [eah_32]; exact hup_n (h_ne hc_23 hc_24 (by simp)))).trans hc_23
            have hc_38 : ah_32 pa = some (.inl (dT 0, 7, .inl (upd (upd (upd (upd pl 0 shp) 1 pp) 2 (nI i)) 3 (-1)))) := by rw [eah_32]; exact hup_s
            have hc_39 := (show ah_32 mt = _ from (by rw [eah_32]; exact hup_n (h_ne hc_25 hc_24 (by simp)))).trans hc_25
            have hc_40 := (show ah_32 pg = _ from (by rw [eah_32]; exact hup_n (h_ne hc_26 hc_24 (by simp)))).trans hc_26
            have hc_41 := (show ah_32 ra = _ from (by rw [eah_32]; exact hup_n (h_ne hc_27 hc_24 (by simp)))).trans hc_27
            have hc_42 := (show ah_32 ((RT i).1 0) = _ from (by rw [eah_32]; exact hup_n (h_ne hc_28 hc_24 (by simp)))).trans hc_28
            have hc_43 := (show ah_32 ((RT i).1 1) = _ from (by rw [eah_32]; exact hup_n (h_ne hc_29 hc_24 (by simp)))).trans hc_29
            have hc_44 := (show ah_32 ((RT i).1 2) = _ from (by rw [eah_32]; exact hup_n (h_ne hc_30 hc_24 (by simp)))).trans hc_30
            have hst : st_35 = [] := hst
            subst hst
            refine lv_iconst (v := 1) hx hb dX2_inspectRings_69 (by decide) ?_
            rw [hQ]
            exact h_zret hx hb hr hlk hsz hw (by simp) (by simp) dX2_inspectRings_70 (by decide) ⟨true, _, _, _, _, rfl, ⟨hc_36, hc_37, hc_38, hc_39⟩, (fun a e9 h1 h2 h3 h4 => (by have g9_0 : am_12 a = some e9 := (by rw [eam_12]; exact (hup_n h2).trans h1); have g9_1 : ah_8 a = some e9 := (by rw [eah_8]; exact (hup_n h3).trans g9_0); have g9_2 : ah_32 a = some e9 := (by rw [eah_32]; exact (hup_n h3).trans g9_1); exact g9_2)), (by rw [show frR shp pp pl nr RT = some (_, _) from by unfold frR; rw [firstB_some (i := i) (by omega) (rgBad_1 c_3) hpv]; rfl]; exact ⟨rfl, ev_5, rfl⟩)⟩
          refine lv_if_eq (tgt := 48) hx hb dX2_inspectRings_41 (by decide) (fun c_4 => ?_) (fun c_4 => ?_)
          · skip
            have c_4 : (RT i).2.2.1 = false := bI_0.mp c_4
            refine lv_iconst (v := 1) hx hb dX2_inspectRings_48 (by decide) ?_
            exact J_6 1 ls (lv_sub hl [0, 1, 2, 3] rfl) (by rw [if_pos c_4])
          · skip
            have c_4 : ¬ ((RT i).2.2.1 = false) := (not_congr bI_0).mp c_4
            refine lv_iconst (v := 2) hx hb dX2_inspectRings_44 (by decide) ?_
            refine lv_goto (tgt := 49) hx hb dX2_inspectRings_45 (by decide) ?_
            exact J_6 2 ls (lv_sub hl [0, 1, 2, 3] rfl) (by rw [if_neg c_4])
        · skip
          have c_3 : ¬ ((RT i).2.2.1 = false) := (not_congr bI_0).mp c_3
          refine lv_aload_n hx hb dX2_inspectRings_25 rfl (lv_at hl 0 rfl) ?_
          refine h_getN (ci := 5) (v := .int ((RT i).2.1 2)) (C := RX5) (T := TX5) (N := 7) hx hb hts kl_X5 hown hK hw hr_2_g.1 rfl 6 (by decide) (va_Nw.use rfl (hK.2.1 _ (List.mem_of_getElem? (i := 14) rfl))) rfl rfl dX2_inspectRings_26 ?_
          refine lv_iconst (v := 3) hx hb dX2_inspectRings_29 (by decide) ?_
          refine lv_icmp_ge (tgt := 71) hx hb dX2_inspectRings_30 (by decide) (fun c_45 => ?_) (fun c_45 => ?_)
          · skip
            refine lv_iinc (v := nI (i + 1)) (lv' := [(2, .int (nI (i + 1))), (3, .ref ((RT i).1 0)), (0, .ref ins), (1, .ref pg)]) hx hb dX2_inspectRings_71 hl (k := 1) rfl (nI_c _ 1) (by decide) rfl (fun ls hl => ?_)
            refine lv_goto (tgt := 2) hx hb dX2_inspectRings_74 (by decide) ?_
            exact ih2 (i + 1) ls _ _ (by omega) (by omega) (lt_s hpv (rgBad_f c_3 c_45)) (lv_sub hl [0, 2, 3] rfl) hw
          · skip
            refine lv_aload_n hx hb dX2_inspectRings_33 rfl (lv_at hl 2 rfl) ?_
            refine h_get (ci := 2) (v := .ref fd) (C := RX2) (T := TX2) (N := 4) hx hb hts kl_X2 hown hK hw hi9.1 rfl 1 (by decide) (hts _ kf_X2_15) rfl rfl dX2_inspectRings_34 ?_
            refine lv_aload_n hx hb dX2_inspectRings_37 rfl (lv_at hl 0 rfl) ?_
            refine h_getN (ci := 5) (v := .int (bI ((RT i).2.2.1))) (C := RX5) (T := TX5) (N := 7) hx hb hts kl_X5 hown hK hw hr_2_g.1 rfl 5 (by decide) (va_Nw.use rfl (hK.2.1 _ (List.mem_of_getElem? (i := 12) rfl))) rfl rfl dX2_inspectRings_38 ?_
            have J_49 : ∀ (v_48 : Int32) (ls : Array Slot), lv_has ls 4 [(3, .ref ((RT i).1 0)), (2, .int (nI i)), (0, .ref ins), (1, .ref pg)] → v_48 = (if (RT i).2.2.1 = false then 1 else 2) → W p l e R s m args below meth c H2 L2 (0) (0) Q (F0 m 49 ls [.int v_48, .ref fd]) := by
              intro v_48 ls hl ev_48
              refine lv_aload_n hx hb dX2_inspectRings_49 rfl (lv_at hl 2 rfl) ?_
              refine h_get (ci := 2) (v := .int shp) (C := RX2) (T := TX2) (N := 4) hx hb hts kl_X2 hown hK hw hi9.1 rfl 3 (by decide) (hts _ kf_X2_26) rfl rfl dX2_inspectRings_50 ?_
              refine h_callV (n := 2) (ci := 1) (b := fd) (As := [.int v_48, .int shp]) (rest := []) ⟨hx, hb, hml, hown, hts⟩ hK hw (c_X1_tell l D dT ah H2.size fd pa wh pl hi9.2.1 hi9.2.2.1 v_48 shp) ko_X1_tell km_X2_77 ki_X1_tell ks_X1_tell kn_X1 (by decide +kernel) rfl hi9.2.1 rfl hl.1 rfl (by simp [Value.category]) dX2_inspectRings_53 (by rw [hR]; exact ⟨rfl, rfl, Nat.le_of_ble_eq_true rfl, Nat.le_of_ble_eq_true rfl, by simp, by simp⟩) (fun r_50 ah_51 H_52 L_53 st_54 hp hw hst => ?_)
              obtain ⟨rfl, eah_51⟩ := hp
              obtain ⟨am_55, eam_55⟩ : ∃ z9 : hA, z9 = hup ah fd (.inr (1, [.int v_48, .ref pa])) := ⟨_, rfl⟩
              rw [← eam_55] at eah_51
              have hc_56 := (show am_55 ins = _ from (by rw [eam_55]; exact hup_n (h_ne hi9.1 hi9.2.1 (by simp)))).trans hi9.1
              have hc_57 : am_55 fd = some (.inr (1, [.int v_48, .ref pa])) := by rw [eam_55]; exact hup_s
              have hc_58 := (show am_55 pa = _ from (by rw [eam_55]; exact hup_n (h_ne hi9.2.2.1 hi9.2.1 (by simp)))).trans hi9.2.2.1
              have hc_59 := (show am_55 mt = _ from (by rw [eam_55]; exact hup_n (h_ne hi9.2.2.2 hi9.2.1 (by simp)))).trans hi9.2.2.2
              have hc_60 := (show am_55 pg = _ from (by rw [eam_55]; exact hup_n (h_ne hpg hi9.2.1 (by simp)))).trans hpg
              have hc_61 := (show am_55 ra = _ from (by rw [eam_55]; exact hup_n (h_ne hra hi9.2.1 (by simp)))).trans hra
              have hc_62 := (show am_55 ((RT i).1 0) = _ from (by rw [eam_55]; exact hup_n (h_ne hr_2_g.1 hi9.2.1 (by simp)))).trans hr_2_g.1
              have hc_63 := (show am_55 ((RT i).1 1) = _ from (by rw [eam_55]; exact hup_n (h_ne hr_2_g.2.1 hi9.2.1 (by simp)))).trans hr_2_g.2.1
              have hc_64 := (show am_55 ((RT i).1 2) = _ from (by rw [eam_55]; exact hup_n (h_ne hr_2_g.2.2.1 hi9.2.1 (by simp)))).trans hr_2_g.2.2.1
              have hc_65 := (show ah_51 ins = _ from (by rw [eah_51]; exact hup_n (h_ne hc_56 hc_58 (by simp)))).trans hc_56
              have hc_66 := (show ah_51 fd = _ from (by rw [eah_51]; exact hup_n (h_ne hc_57 hc_58 (by simp)))).trans hc_57
              have hc_67 : ah_51 pa = some (.inl (dT 0, 7, .inl (upd pl 0 shp))) := by rw [eah_51]; exact hup_s
              have hc_68 := (show ah_51 mt = _ from (by rw [eah_51]; exact hup_n (h_ne hc_59 hc_58 (by simp)))).trans hc_59
              have hc_69 := (show ah_51 pg = _ from (by rw [eah_51]; exact hup_n (h_ne hc_60 hc_58 (by simp)))).trans hc_60
              have hc_70 := (show ah_51 ra = _ from (by rw [eah_51]; exact hup_n (h_ne hc_61 hc_58 (by simp)))).trans hc_61
              have hc_71 := (show ah_51 ((RT i).1 0) = _ from (by rw [eah_51]; exact hup_n (h_ne hc_62 hc_58 (by simp)))).trans hc_62
              have hc_72 := (show ah_51 ((RT i).1 1) = _ from (by rw [eah_51]; exact hup_n (h_ne hc_63 hc_58 (by simp)))).trans hc_63
              have hc_73 := (show ah_51 ((RT i).1 2) = _ from (by rw [eah_51]; exact hup_n (h_ne hc_64 hc_58 (by simp)))).trans hc_64
              have hst : st_54 = [] := hst
              subst hst
              refine lv_aload_n hx hb dX2_inspectRings_56 rfl (lv_at hl 2 rfl) ?_
              refine h_get (ci := 2) (v := .ref fd) (C := RX2) (T := TX2) (N := 4) hx hb hts kl_X2 hown hK hw hc_65 rfl 1 (by decide) (hts _ kf_X2_15) rfl rfl dX2_inspectRings_57 ?_
              refine lv_aload_n hx hb dX2_inspectRings_60 rfl (lv_at hl 3 rfl) ?_
              refine h_getN (ci := 4) (v := .int pp) (C := RX4) (T := TX4) (N := 2) hx hb hts kl_X4 hown hK hw hc_69 rfl 0 (by decide) (va_Nw.use rfl (hK.2.1 _ (List.mem_of_getElem? (i := 33) rfl))) rfl rfl dX2_inspectRings_61 ?_
              refine lv_iload_n hx hb dX2_inspectRings_64 rfl (lv_at hl 1 rfl) ?_
              refine lv_iconst (v := (-1)) hx hb dX2_inspectRings_65 (by decide) ?_
              refine h_callV (n := 3) (ci := 1) (b := fd) (As := [.int pp, .int (nI i), .int (-1)]) (rest := []) ⟨hx, hb, hml, hown, hts⟩ hK hw (c_X1_tellOne l D dT ah_51 H_52.size fd pa v_48 (upd pl 0 shp) hc_66 hc_67 pp (nI i) (-1)) ko_X1_tellOne km_X2_95 ki_X1_tellOne ks_X1_tellOne kn_X1 (by decide +kernel) rfl hc_66 rfl hl.1 rfl (by simp [Value.category]) dX2_inspectRings_66 (by rw [hR]; exact ⟨rfl, rfl, Nat.le_of_ble_eq_true rfl, Nat.le_of_ble_eq_true rfl, by simp, by simp⟩) (fun r_74 ah_75 H_76 L_77 st_78 hp hw hst => ?_)
              obtain ⟨rfl, eah_75⟩ := hp
              have hc_79 := (show ah_75 ins = _ from (by rw [eah_75]; exact hup_n (h_ne hc_65 hc_67 (by simp)))).trans hc_65
              have hc_80 := (show ah_75 fd = _ from (by rw [eah_75]; exact hup_n (h_ne hc_66 hc_67 (by simp)))).trans hc_66
              have hc_81 : ah_75 pa = some (.inl (dT 0, 7, .inl (upd (upd (upd (upd pl 0 shp) 1 pp) 2 (nI i)) 3 (-1)))) := by rw [eah_75]; exact hup_s
              have hc_82 := (show ah_75 mt = _ from (by rw [eah_75]; exact hup_n (h_ne hc_68 hc_67 (by simp)))).trans hc_68
              have hc_83 := (show ah_75 pg = _ from (by rw [eah_75]; exact hup_n (h_ne hc_69 hc_67 (by simp)))).trans hc_69
              have hc_84 := (show ah_75 ra = _ from (by rw [eah_75]; exact hup_n (h_ne hc_70 hc_67 (by simp)))).trans hc_70
              have hc_85 := (show ah_75 ((RT i).1 0) = _ from (by rw [eah_75]; exact hup_n (h_ne hc_71 hc_67 (by simp)))).trans hc_71
              have hc_86 := (show ah_75 ((RT i).1 1) = _ from (by rw [eah_75]; exact hup_n (h_ne hc_72 hc_67 (by simp)))).trans hc_72
              have hc_87 := (show ah_75 ((RT i).1 2) = _ from (by rw [eah_75]; exact hup_n (h_ne hc_73 hc_67 (by simp)))).trans hc_73
              have hst : st_78 = [] := hst
              subst hst
              refine lv_iconst (v := 1) hx hb dX2_inspectRings_69 (by decide) ?_
              rw [hQ]
              exact h_zret hx hb hr hlk hsz hw (by simp) (by simp) dX2_inspectRings_70 (by decide) ⟨true, _, _, _, _, rfl, ⟨hc_79, hc_80, hc_81, hc_82⟩, (fun a e9 h1 h2 h3 h4 => (by have g9_0 : am_55 a = some e9 := (by rw [eam_55]; exact (hup_n h2).trans h1); have g9_1 : ah_51 a = some e9 := (by rw [eah_51]; exact (hup_n h3).trans g9_0); have g9_2 : ah_75 a = some e9 := (by rw [eah_75]; exact (hup_n h3).trans g9_1); exact g9_2)), (by rw [show frR shp pp pl nr RT = some (_, _) from by unfold frR; rw [firstB_some (i := i) (by omega) (rgBad_2 c_45) hpv]; rfl]; exact ⟨rfl, ev_48, rfl⟩)⟩
            refine lv_if_eq (tgt := 48) hx hb dX2_inspectRings_41 (by decide) (fun c_47 => ?_) (fun c_47 => ?_)
            · skip
              have c_47 : (RT i).2.2.1 = false := bI_0.mp c_47
              refine lv_iconst (v := 1) hx hb dX2_inspectRings_48 (by decide) ?_
              exact J_49 1 ls (lv_sub hl [0, 1, 2, 3] rfl) (by rw [if_pos c_47])
            · skip
              have c_47 : ¬ ((RT i).2.2.1 = false) := (not_congr bI_0).mp c_47
              refine lv_iconst (v := 2) hx hb dX2_inspectRings_44 (by decide) ?_
              refine lv_goto (tgt := 49) hx hb dX2_inspectRings_45 (by decide) ?_
              exact J_49 2 ls (lv_sub hl [0, 1, 2, 3] rfl) (by rw [if_neg c_47])
  exact LP2 ((nr - 0) + 1) 0 ls _ _ (Nat.lt_succ_self _) (by omega) lt_0 (lv_sub hl [0, 1, 2] rfl) hw

set_option maxHeartbeats 4000000 in
set_option maxRecDepth 100000 in
theorem c_X2_inspectHoles (l : Launch) (D : va_G) (dT : Nat → ClassId) (ah : hA) (sz : Nat) (ins sh fd pa mt : Nat) (shp wh : Int32) (pl : Nat → Int32) (mx my : Int32) (hi9 : inA dT ah ins sh fd pa mt shp wh pl mx my) (pg ra nr : Nat) (pp : Int32) (FR : Nat → Option Nat) (RT : Nat → rgT) (hp9 : plA dT ah pg ra nr pp FR RT) : hMet l yX2_inspectHoles cX2_inspectHoles 4 (some .boolean) ({ frames := 4, cells := 0, slots := 0, locals := 103 }) D dT [.ref ins, .ref pg] ah sz (fun r ah2 => ∃ (b : Bool) (wh2 : Int32) (pl2 : Nat → Int32) (mx2 my2 : Int32), r = some (.int (bI b)) ∧ inA dT ah2 ins sh fd pa mt shp wh2 pl2 mx2 my2 ∧ inK ah ah2 fd pa mt ∧ inR (firstO nr (hoC shp pp pl RT)) wh pl b wh2 pl2) 0 0 := by
  refine h_met (by decide) (Nat.le_of_ble_eq_true rfl) ?_
  intro p e s m below meth c ls R Q args hav hR hQ hB hl hsz hw
  obtain ⟨hx, hb, hml, hr, hts, hown, hlk, hin, hK⟩ := hB
  have hown : s.vm.findClass RX2 = some m.cls := hown
  have hl : lv_has ls 4 [(0, .ref ins), (1, .ref pg)] := hl
  have hp90 := hp9
  obtain ⟨hpg, hra, hnr, hpl⟩ := hp90
  refine lv_aload_n hx hb dX2_inspectHoles_0 rfl (lv_at hl 1 rfl) ?_
  refine h_getN (ci := 4) (v := .ref ra) (C := RX4) (T := TX4) (N := 2) hx hb hts kl_X4 hown hK hw hpg rfl 1 (by decide) (va_Nw.use rfl (hK.2.1 _ (List.mem_of_getElem? (i := 34) rfl))) rfl rfl dX2_inspectHoles_1 ?_
  refine lv_astore_n (lv' := [(2, .ref ra), (0, .ref ins), (1, .ref pg)]) hx hb dX2_inspectHoles_4 rfl hl (by decide) rfl (fun ls hl => ?_)
  refine lv_iconst (v := 1) hx hb dX2_inspectHoles_5 (by decide) ?_
  refine lv_istore_n (lv' := [(3, .int 1), (2, .ref ra), (0, .ref ins), (1, .ref pg)]) hx hb dX2_inspectHoles_6 rfl hl (by decide) rfl (fun ls hl => ?_)
  have LP7 : ∀ (k7 : Nat) (i : Nat) (ls : Array Slot) (H7 : Heap) (L7 : List Loc), (nr + 1 - i < k7) → (1 ≤ i ∧ (i ≤ nr ∨ i = 1)) → (∀ j, j < i → hoC shp pp pl RT j = none) → lv_has ls 4 [(3, .int (nI i)), (2, .ref ra), (0, .ref ins), (1, .ref pg)] → hW D ah s.heap ah H7 L7 → W p l e R s m args below meth c H7 L7 (0) (0) Q (F0 m 7 ls []) := by
    intro k7
    induction k7 with
    | zero => intro i ls H7 L7 hk; exact absurd hk (Nat.not_lt_zero _)
    | succ k7 ih7 =>
      intro i ls H7 L7 hk7 hi hpv hl hw
      refine lv_iload_n hx hb dX2_inspectHoles_7 rfl (lv_at hl 0 rfl) ?_
      refine lv_aload_n hx hb dX2_inspectHoles_8 rfl (lv_at hl 1 rfl) ?_
      refine h_alen hx hb hK hw 3 rfl hra dX2_inspectHoles_9 ?_
      refine lv_icmp_ge (tgt := 59) hx hb dX2_inspectHoles_10 (by decide) (fun c_1 => ?_) (fun c_1 => ?_)
      · skip
        have c_1 : nr ≤ i := (nI_lex (by rfl) (by rfl) (by omega) (by omega)).mp c_1
        refine lv_iconst (v := 0) hx hb dX2_inspectHoles_59 (by decide) ?_
        rw [hQ]
        exact h_zret hx hb hr hlk hsz hw (by simp) (by simp) dX2_inspectHoles_60 (by decide) ⟨false, _, _, _, _, rfl, ⟨hi9.1, hi9.2.1, hi9.2.2.1, hi9.2.2.2⟩, (fun a e9 h1 h2 h3 h4 => (by exact h1)), (by rw [show firstO nr (hoC shp pp pl RT) = none from firstO_none (fun j hj => hpv j (by omega))]; exact ⟨rfl, rfl, rfl⟩)⟩
      · skip
        have c_1 : ¬ (nr ≤ i) := (not_congr (nI_lex (by rfl) (by rfl) (by omega) (by omega))).mp c_1
        refine lv_aload_n hx hb dX2_inspectHoles_13 rfl (lv_at hl 1 rfl) ?_
        refine lv_iload_n hx hb dX2_inspectHoles_14 rfl (lv_at hl 0 rfl) ?_
        obtain ⟨hr_2_f, hr_2_g⟩ := hpl i (by omega)
        have hr_2_g : rgAt dT ah ((RT i).1 0) ((RT i).1 1) ((RT i).1 2) ((RT i).1 3) ((RT i).1 4) ((RT i).2.1 0) ((RT i).2.1 1) ((RT i).2.1 2) ((RT i).2.2.1) ((RT i).2.2.2.1) ((RT i).2.2.2.2.1) ((RT i).2.2.2.2.2.1) ((RT i).2.2.2.2.2.2.1) ((RT i).2.2.2.2.2.2.2) := hr_2_g
        refine h_aald hx hb hK hw 3 rfl hra i rfl (by omega) (by omega) hr_2_f dX2_inspectHoles_15 ?_
        refine lv_aload_n hx hb dX2_inspectHoles_16 rfl (lv_at hl 1 rfl) ?_
        refine lv_iconst (v := 0) hx hb dX2_inspectHoles_17 (by decide) ?_
        obtain ⟨hr_3_f, hr_3_g⟩ := hpl 0 (by omega)
        have hr_3_g : rgAt dT ah ((RT 0).1 0) ((RT 0).1 1) ((RT 0).1 2) ((RT 0).1 3) ((RT 0).1 4) ((RT 0).2.1 0) ((RT 0).2.1 1) ((RT 0).2.1 2) ((RT 0).2.2.1) ((RT 0).2.2.2.1) ((RT 0).2.2.2.2.1) ((RT 0).2.2.2.2.2.1) ((RT 0).2.2.2.2.2.2.1) ((RT 0).2.2.2.2.2.2.2) := hr_3_g
        refine h_aald hx hb hK hw 3 rfl hra 0 (by decide) (by omega) (by omega) hr_3_f dX2_inspectHoles_18 ?_
        refine h_callV (n := 1) (ci := 5) (b := ((RT i).1 0)) (As := [.ref ((RT 0).1 0)]) (rest := []) ⟨hx, hb, hml, hown, hts⟩ hK hw (c_X5_liesIn l D dT ah H7.size ((RT i).1 0) ((RT i).1 1) ((RT i).1 2) ((RT i).1 3) ((RT i).1 4) ((RT i).2.1 0) ((RT i).2.1 1) ((RT i).2.1 2) ((RT i).2.2.1) ((RT i).2.2.2.1) ((RT i).2.2.2.2.1) ((RT i).2.2.2.2.2.1) ((RT i).2.2.2.2.2.2.1) ((RT i).2.2.2.2.2.2.2) hr_2_g ((RT 0).1 0) ((RT 0).1 1) ((RT 0).1 2) ((RT 0).1 3) ((RT 0).1 4) ((RT 0).2.1 0) ((RT 0).2.1 1) ((RT 0).2.1 2) ((RT 0).2.2.1) ((RT 0).2.2.2.1) ((RT 0).2.2.2.2.1) ((RT 0).2.2.2.2.2.1) ((RT 0).2.2.2.2.2.2.1) ((RT 0).2.2.2.2.2.2.2) hr_3_g) ko_X5_liesIn km_X2_143 ki_X5_liesIn ks_X5_liesIn kn_X5 (by decide +kernel) rfl hr_2_g.1 rfl hl.1 rfl (by simp [Value.category]) dX2_inspectHoles_19 (by rw [hR]; exact ⟨rfl, rfl, Nat.le_of_ble_eq_true rfl, Nat.le_of_ble_eq_true rfl, by simp, by simp⟩) (fun r_4 ah_5 H_6 L_7 st_8 hp hw hst => ?_)
        obtain ⟨rfl, rfl⟩ := hp
        have hst : st_8 = [.int (bI (rIn (RT i) (RT 0)))] := hst
        subst hst
        refine lv_if_ne (tgt := 53) hx hb dX2_inspectHoles_22 (by decide) (fun c_9 => ?_) (fun c_9 => ?_)
        · skip
          have c_9 : ¬ (rIn (RT i) (RT 0) = false) := (not_congr bI_0).mp c_9
          refine lv_iinc (v := nI (i + 1)) (lv' := [(3, .int (nI (i + 1))), (2, .ref ra), (0, .ref ins), (1, .ref pg)]) hx hb dX2_inspectHoles_53 hl (k := 0) rfl (nI_c _ 1) (by decide) rfl (fun ls hl => ?_)
          refine lv_goto (tgt := 7) hx hb dX2_inspectHoles_56 (by decide) ?_
          refine W.widen (k := 0) (n := 0) (by omega) (by omega) ?_
          exact ih7 (i + 1) ls _ _ (by omega) (by omega) (lt_o hpv (hoC_n c_9)) (lv_sub hl [0, 1, 2, 3] rfl) hw
        · skip
          have c_9 : rIn (RT i) (RT 0) = false := bI_0.mp c_9
          refine lv_aload_n hx hb dX2_inspectHoles_25 rfl (lv_at hl 2 rfl) ?_
          refine h_get (ci := 2) (v := .ref fd) (C := RX2) (T := TX2) (N := 4) hx hb hts kl_X2 hown hK hw hi9.1 rfl 1 (by decide) (hts _ kf_X2_15) rfl rfl dX2_inspectHoles_26 ?_
          refine lv_bipush (v := 6) hx hb dX2_inspectHoles_29 (by decide) ?_
          refine lv_aload_n hx hb dX2_inspectHoles_31 rfl (lv_at hl 2 rfl) ?_
          refine h_get (ci := 2) (v := .int shp) (C := RX2) (T := TX2) (N := 4) hx hb hts kl_X2 hown hK hw hi9.1 rfl 3 (by decide) (hts _ kf_X2_26) rfl rfl dX2_inspectHoles_32 ?_
          refine h_callV (n := 2) (ci := 1) (b := fd) (As := [.int 6, .int shp]) (rest := []) ⟨hx, hb, hml, hown, hts⟩ hK hw (c_X1_tell l D dT ah H_6.size fd pa wh pl hi9.2.1 hi9.2.2.1 6 shp) ko_X1_tell km_X2_77 ki_X1_tell ks_X1_tell kn_X1 (by decide +kernel) rfl hi9.2.1 rfl hl.1 rfl (by simp [Value.category]) dX2_inspectHoles_35 (by rw [hR]; exact ⟨rfl, rfl, Nat.le_of_ble_eq_true rfl, Nat.le_of_ble_eq_true rfl, by simp, by simp⟩) (fun r_11 ah_12 H_13 L_14 st_15 hp hw hst => ?_)
          obtain ⟨rfl, eah_12⟩ := hp
          obtain ⟨am_16, eam_16⟩ : ∃ z9 : hA, z9 = hup ah fd (.inr (1, [.int 6, .ref pa])) := ⟨_, rfl⟩
          rw [← eam_16] at eah_12
          have hc_17 := (show am_16 ins = _ from (by rw [eam_16]; exact hup_n (h_ne hi9.1 hi9.2.1 (by simp)))).trans hi9.1
          have hc_18 : am_16 fd = some (.inr (1, [.int 6, .ref pa])) := by rw [eam_16]; exact hup_s
          have hc_19 := (show am_16 pa = _ from (by rw [eam_16]; exact hup_n (h_ne hi9.2.2.1 hi9.2.1 (by simp)))).trans hi9.2.2.1
          have hc_20 := (show am_16 mt = _ from (by rw [eam_16]; exact hup_n (h_ne hi9.2.2.2 hi9.2.1 (by simp)))).trans hi9.2.2.2
          have hc_21 := (show am_16 pg = _ from (by rw [eam_16]; exact hup_n (h_ne hpg hi9.2.1 (by simp)))).trans hpg
          have hc_22 := (show am_16 ra = _ from (by rw [eam_16]; exact hup_n (h_ne hra hi9.2.1 (by simp)))).trans hra
          have hc_23 := (show am_16 ((RT i).1 0) = _ from (by rw [eam_16]; exact hup_n (h_ne hr_2_g.1 hi9.2.1 (by simp)))).trans hr_2_g.1
          have hc_24 := (show am_16 ((RT i).1 1) = _ from (by rw [eam_16]; exact hup_n (h_ne hr_2_g.2.1 hi9.2.1 (by simp)))).trans hr_2_g.2.1
          have hc_25 := (show am_16 ((RT i).1 2) = _ from (by rw [eam_16]; exact hup_n (h_ne hr_2_g.2.2.1 hi9.2.1 (by simp)))).trans hr_2_g.2.2.1
          have hc_26 := (show am_16 ((RT 0).1 0) = _ from (by rw [eam_16]; exact hup_n (h_ne hr_3_g.1 hi9.2.1 (by simp)))).trans hr_3_g.1
          have hc_27 := (show am_16 ((RT 0).1 1) = _ from (by rw [eam_16]; exact hup_n (h_ne hr_3_g.2.1 hi9.2.1 (by simp)))).trans hr_3_g.2.1
          have hc_28 := (show am_16 ((RT 0).1 2) = _ from (by rw [eam_16]; exact hup_n (h_ne hr_3_g.2.2.1 hi9.2.1 (by simp)))).trans hr_3_g.2.2.1
          have hc_29 := (show ah_12 ins = _ from (by rw [eah_12]; exact hup_n (h_ne hc_17 hc_19 (by simp)))).trans hc_17
          have hc_30 := (show ah_12 fd = _ from (by rw [eah_12]; exact hup_n (h_ne hc_18 hc_19 (by simp)))).trans hc_18
          have hc_31 : ah_12 pa = some (.inl (dT 0, 7, .inl (upd pl 0 shp))) := by rw [eah_12]; exact hup_s
          have hc_32 := (show ah_12 mt = _ from (by rw [eah_12]; exact hup_n (h_ne hc_20 hc_19 (by simp)))).trans hc_20
          have hc_33 := (show ah_12 pg = _ from (by rw [eah_12]; exact hup_n (h_ne hc_21 hc_19 (by simp)))).trans hc_21
          have hc_34 := (show ah_12 ra = _ from (by rw [eah_12]; exact hup_n (h_ne hc_22 hc_19 (by simp)))).trans hc_22
          have hc_35 := (show ah_12 ((RT i).1 0) = _ from (by rw [eah_12]; exact hup_n (h_ne hc_23 hc_19 (by simp)))).trans hc_23
          have hc_36 := (show ah_12 ((RT i).1 1) = _ from (by rw [eah_12]; exact hup_n (h_ne hc_24 hc_19 (by simp)))).trans hc_24
          have hc_37 := (show ah_12 ((RT i).1 2) = _ from (by rw [eah_12]; exact hup_n (h_ne hc_25 hc_19 (by simp)))).trans hc_25
          have hc_38 := (show ah_12 ((RT 0).1 0) = _ from (by rw [eah_12]; exact hup_n (h_ne hc_26 hc_19 (by simp)))).trans hc_26
          have hc_39 := (show ah_12 ((RT 0).1 1) = _ from (by rw [eah_12]; exact hup_n (h_ne hc_27 hc_19 (by simp)))).trans hc_27
          have hc_40 := (show ah_12 ((RT 0).1 2) = _ from (by rw [eah_12]; exact hup_n (h_ne hc_28 hc_19 (by simp)))).trans hc_28
          have hst : st_15 = [] := hst
          subst hst
          refine lv_aload_n hx hb dX2_inspectHoles_38 rfl (lv_at hl 2 rfl) ?_
          refine h_get (ci := 2) (v := .ref fd) (C := RX2) (T := TX2) (N := 4) hx hb hts kl_X2 hown hK hw hc_29 rfl 1 (by decide) (hts _ kf_X2_15) rfl rfl dX2_inspectHoles_39 ?_
          refine lv_aload_n hx hb dX2_inspectHoles_42 rfl (lv_at hl 3 rfl) ?_
          refine h_getN (ci := 4) (v := .int pp) (C := RX4) (T := TX4) (N := 2) hx hb hts kl_X4 hown hK hw hc_33 rfl 0 (by decide) (va_Nw.use rfl (hK.2.1 _ (List.mem_of_getElem? (i := 33) rfl))) rfl rfl dX2_inspectHoles_43 ?_
          refine lv_iload_n hx hb dX2_inspectHoles_46 rfl (lv_at hl 0 rfl) ?_
          refine lv_iconst (v := (-1)) hx hb dX2_inspectHoles_47 (by decide) ?_
          refine h_callV (n := 3) (ci := 1) (b := fd) (As := [.int pp, .int (nI i), .int (-1)]) (rest := []) ⟨hx, hb, hml, hown, hts⟩ hK hw (c_X1_tellOne l D dT ah_12 H_13.size fd pa 6 (upd pl 0 shp) hc_30 hc_31 pp (nI i) (-1)) ko_X1_tellOne km_X2_95 ki_X1_tellOne ks_X1_tellOne kn_X1 (by decide +kernel) rfl hc_30 rfl hl.1 rfl (by simp [Value.category]) dX2_inspectHoles_48 (by rw [hR]; exact ⟨rfl, rfl, Nat.le_of_ble_eq_true rfl, Nat.le_of_ble_eq_true rfl, by simp, by simp⟩) (fun r_41 ah_42 H_43 L_44 st_45 hp hw hst => ?_)
          obtain ⟨rfl, eah_42⟩ := hp
          have hc_46 := (show ah_42 ins = _ from (by rw [eah_42]; exact hup_n (h_ne hc_29 hc_31 (by simp)))).trans hc_29
          have hc_47 := (show ah_42 fd = _ from (by rw [eah_42]; exact hup_n (h_ne hc_30 hc_31 (by simp)))).trans hc_30
          have hc_48 : ah_42 pa = some (.inl (dT 0, 7, .inl (upd (upd (upd (upd pl 0 shp) 1 pp) 2 (nI i)) 3 (-1)))) := by rw [eah_42]; exact hup_s
          have hc_49 := (show ah_42 mt = _ from (by rw [eah_42]; exact hup_n (h_ne hc_32 hc_31 (by simp)))).trans hc_32
          have hc_50 := (show ah_42 pg = _ from (by rw [eah_42]; exact hup_n (h_ne hc_33 hc_31 (by simp)))).trans hc_33
          have hc_51 := (show ah_42 ra = _ from (by rw [eah_42]; exact hup_n (h_ne hc_34 hc_31 (by simp)))).trans hc_34
          have hc_52 := (show ah_42 ((RT i).1 0) = _ from (by rw [eah_42]; exact hup_n (h_ne hc_35 hc_31 (by simp)))).trans hc_35
          have hc_53 := (show ah_42 ((RT i).1 1) = _ from (by rw [eah_42]; exact hup_n (h_ne hc_36 hc_31 (by simp)))).trans hc_36
          have hc_54 := (show ah_42 ((RT i).1 2) = _ from (by rw [eah_42]; exact hup_n (h_ne hc_37 hc_31 (by simp)))).trans hc_37
          have hc_55 := (show ah_42 ((RT 0).1 0) = _ from (by rw [eah_42]; exact hup_n (h_ne hc_38 hc_31 (by simp)))).trans hc_38
          have hc_56 := (show ah_42 ((RT 0).1 1) = _ from (by rw [eah_42]; exact hup_n (h_ne hc_39 hc_31 (by simp)))).trans hc_39
          have hc_57 := (show ah_42 ((RT 0).1 2) = _ from (by rw [eah_42]; exact hup_n (h_ne hc_40 hc_31 (by simp)))).trans hc_40
          have hst : st_45 = [] := hst
          subst hst
          refine lv_iconst (v := 1) hx hb dX2_inspectHoles_51 (by decide) ?_
          rw [hQ]
          exact h_zret hx hb hr hlk hsz hw (by simp) (by simp) dX2_inspectHoles_52 (by decide) ⟨true, _, _, _, _, rfl, ⟨hc_46, hc_47, hc_48, hc_49⟩, (fun a e9 h1 h2 h3 h4 => (by have g9_0 : am_16 a = some e9 := (by rw [eam_16]; exact (hup_n h2).trans h1); have g9_1 : ah_12 a = some e9 := (by rw [eah_12]; exact (hup_n h3).trans g9_0); have g9_2 : ah_42 a = some e9 := (by rw [eah_42]; exact (hup_n h3).trans g9_1); exact g9_2)), (by rw [show firstO nr (hoC shp pp pl RT) = some _ from firstO_some (i := i) (by omega) (hoC_s (by omega) c_9) hpv]; exact ⟨rfl, rfl, rfl⟩)⟩
  exact LP7 ((nr + 1 - 1) + 1) 1 ls _ _ (Nat.lt_succ_self _) (by omega) (fun j hj => by rw [show j = 0 by omega]; rfl) (lv_sub hl [0, 1, 2, 3] rfl) hw

set_option maxHeartbeats 4000000 in
set_option maxRecDepth 100000 in
theorem c_X2_inspectPairsOfHoles (l : Launch) (D : va_G) (dT : Nat → ClassId) (ah : hA) (sz : Nat) (ins sh fd pa mt : Nat) (shp wh : Int32) (pl : Nat → Int32) (mx my : Int32) (hi9 : inA dT ah ins sh fd pa mt shp wh pl mx my) (pg ra nr : Nat) (pp : Int32) (FR : Nat → Option Nat) (RT : Nat → rgT) (hp9 : plA dT ah pg ra nr pp FR RT) : hMet l yX2_inspectPairsOfHoles cX2_inspectPairsOfHoles 5 (some .boolean) ({ frames := 4, cells := 0, slots := 0, locals := 103 }) D dT [.ref ins, .ref pg] ah sz (fun r ah2 => ∃ (b : Bool) (wh2 : Int32) (pl2 : Nat → Int32) (mx2 my2 : Int32), r = some (.int (bI b)) ∧ inA dT ah2 ins sh fd pa mt shp wh2 pl2 mx2 my2 ∧ inK ah ah2 fd pa mt ∧ inR (firstO nr (fun i => firstO nr (phC shp pp pl RT i))) wh pl b wh2 pl2) 0 0 := by
  refine h_met (by decide) (Nat.le_of_ble_eq_true rfl) ?_
  intro p e s m below meth c ls R Q args hav hR hQ hB hl hsz hw
  obtain ⟨hx, hb, hml, hr, hts, hown, hlk, hin, hK⟩ := hB
  have hown : s.vm.findClass RX2 = some m.cls := hown
  have hl : lv_has ls 5 [(0, .ref ins), (1, .ref pg)] := hl
  have hp90 := hp9
  obtain ⟨hpg, hra, hnr, hpl⟩ := hp90
  refine lv_aload_n hx hb dX2_inspectPairsOfHoles_0 rfl (lv_at hl 1 rfl) ?_
  refine h_getN (ci := 4) (v := .ref ra) (C := RX4) (T := TX4) (N := 2) hx hb hts kl_X4 hown hK hw hpg rfl 1 (by decide) (va_Nw.use rfl (hK.2.1 _ (List.mem_of_getElem? (i := 34) rfl))) rfl rfl dX2_inspectPairsOfHoles_1 ?_
  refine lv_astore_n (lv' := [(2, .ref ra), (0, .ref ins), (1, .ref pg)]) hx hb dX2_inspectPairsOfHoles_4 rfl hl (by decide) rfl (fun ls hl => ?_)
  refine lv_iconst (v := 1) hx hb dX2_inspectPairsOfHoles_5 (by decide) ?_
  refine lv_istore_n (lv' := [(3, .int 1), (2, .ref ra), (0, .ref ins), (1, .ref pg)]) hx hb dX2_inspectPairsOfHoles_6 rfl hl (by decide) rfl (fun ls hl => ?_)
  have LP7 : ∀ (k7 : Nat) (i : Nat) (ls : Array Slot) (H7 : Heap) (L7 : List Loc), (nr + 1 - i < k7) → (1 ≤ i ∧ (i ≤ nr ∨ i = 1)) → (∀ j, j < i → firstO nr (phC shp pp pl RT j) = none) → lv_has ls 5 [(3, .int (nI i)), (2, .ref ra), (0, .ref ins), (1, .ref pg)] → hW D ah s.heap ah H7 L7 → W p l e R s m args below meth c H7 L7 (0) (0) Q (F0 m 7 ls []) := by
    intro k7
    induction k7 with
    | zero => intro i ls H7 L7 hk; exact absurd hk (Nat.not_lt_zero _)
    | succ k7 ih7 =>
      intro i ls H7 L7 hk7 hi hpv hl hw
      refine lv_iload_n hx hb dX2_inspectPairsOfHoles_7 rfl (lv_at hl 0 rfl) ?_
      refine lv_aload_n hx hb dX2_inspectPairsOfHoles_8 rfl (lv_at hl 1 rfl) ?_
      refine h_alen hx hb hK hw 3 rfl hra dX2_inspectPairsOfHoles_9 ?_
      refine lv_icmp_ge (tgt := 105) hx hb dX2_inspectPairsOfHoles_10 (by decide) (fun c_1 => ?_) (fun c_1 => ?_)
      · skip
        have c_1 : nr ≤ i := (nI_lex (by rfl) (by rfl) (by omega) (by omega)).mp c_1
        refine lv_iconst (v := 0) hx hb dX2_inspectPairsOfHoles_105 (by decide) ?_
        rw [hQ]
        exact h_zret hx hb hr hlk hsz hw (by simp) (by simp) dX2_inspectPairsOfHoles_106 (by decide) ⟨false, _, _, _, _, rfl, ⟨hi9.1, hi9.2.1, hi9.2.2.1, hi9.2.2.2⟩, (fun a e9 h1 h2 h3 h4 => (by exact h1)), (by rw [show firstO nr (fun i => firstO nr (phC shp pp pl RT i)) = none from firstO_none (fun j hj => hpv j (by omega))]; exact ⟨rfl, rfl, rfl⟩)⟩
      · skip
        have c_1 : ¬ (nr ≤ i) := (not_congr (nI_lex (by rfl) (by rfl) (by omega) (by omega))).mp c_1
        refine lv_iload_n hx hb dX2_inspectPairsOfHoles_13 rfl (lv_at hl 0 rfl) ?_
        refine lv_iconst (v := 1) hx hb dX2_inspectPairsOfHoles_14 (by decide) ?_
        refine lv_iadd hx hb dX2_inspectPairsOfHoles_15 ?_
        refine lv_topi (fun t_2 et_2 => ?_)
        obtain rfl : t_2 = nI (i + 1) := et_2.trans (nI_c _ 1)
        refine lv_istore (lv' := [(4, .int (nI (i + 1))), (3, .int (nI i)), (2, .ref ra), (0, .ref ins), (1, .ref pg)]) hx hb dX2_inspectPairsOfHoles_16 hl (by decide) rfl (fun ls hl => ?_)
        have LP18 : ∀ (k18 : Nat) (j : Nat) (ls : Array Slot) (H18 : Heap) (L18 : List Loc), (nr - j < k18) → (i + 1 ≤ j ∧ j ≤ nr) → (∀ k, k < j → phC shp pp pl RT i k = none) → lv_has ls 5 [(4, .int (nI j)), (3, .int (nI i)), (2, .ref ra), (0, .ref ins), (1, .ref pg)] → hW D ah s.heap ah H18 L18 → W p l e R s m args below meth c H18 L18 (0) (0) Q (F0 m 18 ls []) := by
          intro k18
          induction k18 with
          | zero => intro j ls H18 L18 hk; exact absurd hk (Nat.not_lt_zero _)
          | succ k18 ih18 =>
            intro j ls H18 L18 hk18 hj hpw hl hw
            refine lv_iload hx hb dX2_inspectPairsOfHoles_18 (lv_at hl 0 rfl) ?_
            refine lv_aload_n hx hb dX2_inspectPairsOfHoles_20 rfl (lv_at hl 2 rfl) ?_
            refine h_alen hx hb hK hw 3 rfl hra dX2_inspectPairsOfHoles_21 ?_
            refine lv_icmp_ge (tgt := 99) hx hb dX2_inspectPairsOfHoles_22 (by decide) (fun c_3 => ?_) (fun c_3 => ?_)
            · skip
              have c_3 : nr ≤ j := (nI_lex (by rfl) (by rfl) (by omega) (by omega)).mp c_3
              refine lv_iinc (v := nI (i + 1)) (lv' := [(3, .int (nI (i + 1))), (4, .int (nI j)), (2, .ref ra), (0, .ref ins), (1, .ref pg)]) hx hb dX2_inspectPairsOfHoles_99 hl (k := 1) rfl (nI_c _ 1) (by decide) rfl (fun ls hl => ?_)
              refine lv_goto (tgt := 7) hx hb dX2_inspectPairsOfHoles_102 (by decide) ?_
              exact ih7 (i + 1) ls _ _ (by omega) (by omega) (lt_o hpv (firstO_none (fun j hj => hpw j (by omega)))) (lv_sub hl [0, 2, 3, 4] rfl) hw
            · skip
              have c_3 : ¬ (nr ≤ j) := (not_congr (nI_lex (by rfl) (by rfl) (by omega) (by omega))).mp c_3
              refine lv_aload_n hx hb dX2_inspectPairsOfHoles_25 rfl (lv_at hl 2 rfl) ?_
              refine lv_iload_n hx hb dX2_inspectPairsOfHoles_26 rfl (lv_at hl 1 rfl) ?_
              obtain ⟨hr_5_f, hr_5_g⟩ := hpl i (by omega)
              have hr_5_g : rgAt dT ah ((RT i).1 0) ((RT i).1 1) ((RT i).1 2) ((RT i).1 3) ((RT i).1 4) ((RT i).2.1 0) ((RT i).2.1 1) ((RT i).2.1 2) ((RT i).2.2.1) ((RT i).2.2.2.1) ((RT i).2.2.2.2.1) ((RT i).2.2.2.2.2.1) ((RT i).2.2.2.2.2.2.1) ((RT i).2.2.2.2.2.2.2) := hr_5_g
              refine h_aald hx hb hK hw 3 rfl hra i rfl (by omega) (by omega) hr_5_f dX2_inspectPairsOfHoles_27 ?_
              refine lv_aload_n hx hb dX2_inspectPairsOfHoles_28 rfl (lv_at hl 2 rfl) ?_
              refine lv_iload hx hb dX2_inspectPairsOfHoles_29 (lv_at hl 0 rfl) ?_
              obtain ⟨hr_6_f, hr_6_g⟩ := hpl j (by omega)
              have hr_6_g : rgAt dT ah ((RT j).1 0) ((RT j).1 1) ((RT j).1 2) ((RT j).1 3) ((RT j).1 4) ((RT j).2.1 0) ((RT j).2.1 1) ((RT j).2.1 2) ((RT j).2.2.1) ((RT j).2.2.2.1) ((RT j).2.2.2.2.1) ((RT j).2.2.2.2.2.1) ((RT j).2.2.2.2.2.2.1) ((RT j).2.2.2.2.2.2.2) := hr_6_g
              refine h_aald hx hb hK hw 3 rfl hra j rfl (by omega) (by omega) hr_6_f dX2_inspectPairsOfHoles_31 ?_
              refine h_callV (n := 1) (ci := 5) (b := ((RT i).1 0)) (As := [.ref ((RT j).1 0)]) (rest := []) ⟨hx, hb, hml, hown, hts⟩ hK hw (c_X5_liesIn l D dT ah H18.size ((RT i).1 0) ((RT i).1 1) ((RT i).1 2) ((RT i).1 3) ((RT i).1 4) ((RT i).2.1 0) ((RT i).2.1 1) ((RT i).2.1 2) ((RT i).2.2.1) ((RT i).2.2.2.1) ((RT i).2.2.2.2.1) ((RT i).2.2.2.2.2.1) ((RT i).2.2.2.2.2.2.1) ((RT i).2.2.2.2.2.2.2) hr_5_g ((RT j).1 0) ((RT j).1 1) ((RT j).1 2) ((RT j).1 3) ((RT j).1 4) ((RT j).2.1 0) ((RT j).2.1 1) ((RT j).2.1 2) ((RT j).2.2.1) ((RT j).2.2.2.1) ((RT j).2.2.2.2.1) ((RT j).2.2.2.2.2.1) ((RT j).2.2.2.2.2.2.1) ((RT j).2.2.2.2.2.2.2) hr_6_g) ko_X5_liesIn km_X2_143 ki_X5_liesIn ks_X5_liesIn kn_X5 (by decide +kernel) rfl hr_5_g.1 rfl hl.1 rfl (by simp [Value.category]) dX2_inspectPairsOfHoles_32 (by rw [hR]; exact ⟨rfl, rfl, Nat.le_of_ble_eq_true rfl, Nat.le_of_ble_eq_true rfl, by simp, by simp⟩) (fun r_7 ah_8 H_9 L_10 st_11 hp hw hst => ?_)
              obtain ⟨rfl, rfl⟩ := hp
              have hst : st_11 = [.int (bI (rIn (RT i) (RT j)))] := hst
              subst hst
              refine lv_if_ne (tgt := 51) hx hb dX2_inspectPairsOfHoles_35 (by decide) (fun c_12 => ?_) (fun c_12 => ?_)
              · skip
                have c_12 : ¬ (rIn (RT i) (RT j) = false) := (not_congr bI_0).mp c_12
                refine lv_aload_n hx hb dX2_inspectPairsOfHoles_51 rfl (lv_at hl 3 rfl) ?_
                refine h_get (ci := 2) (v := .ref fd) (C := RX2) (T := TX2) (N := 4) hx hb hts kl_X2 hown hK hw hi9.1 rfl 1 (by decide) (hts _ kf_X2_15) rfl rfl dX2_inspectPairsOfHoles_52 ?_
                refine lv_bipush (v := 7) hx hb dX2_inspectPairsOfHoles_55 (by decide) ?_
                refine lv_aload_n hx hb dX2_inspectPairsOfHoles_57 rfl (lv_at hl 3 rfl) ?_
                refine h_get (ci := 2) (v := .int shp) (C := RX2) (T := TX2) (N := 4) hx hb hts kl_X2 hown hK hw hi9.1 rfl 3 (by decide) (hts _ kf_X2_26) rfl rfl dX2_inspectPairsOfHoles_58 ?_
                refine h_callV (n := 2) (ci := 1) (b := fd) (As := [.int 7, .int shp]) (rest := []) ⟨hx, hb, hml, hown, hts⟩ hK hw (c_X1_tell l D dT ah H_9.size fd pa wh pl hi9.2.1 hi9.2.2.1 7 shp) ko_X1_tell km_X2_77 ki_X1_tell ks_X1_tell kn_X1 (by decide +kernel) rfl hi9.2.1 rfl hl.1 rfl (by simp [Value.category]) dX2_inspectPairsOfHoles_61 (by rw [hR]; exact ⟨rfl, rfl, Nat.le_of_ble_eq_true rfl, Nat.le_of_ble_eq_true rfl, by simp, by simp⟩) (fun r_13 ah_14 H_15 L_16 st_17 hp hw hst => ?_)
                obtain ⟨rfl, eah_14⟩ := hp
                obtain ⟨am_18, eam_18⟩ : ∃ z9 : hA, z9 = hup ah fd (.inr (1, [.int 7, .ref pa])) := ⟨_, rfl⟩
                rw [← eam_18] at eah_14
                have hc_19 := (show am_18 ins = _ from (by rw [eam_18]; exact hup_n (h_ne hi9.1 hi9.2.1 (by simp)))).trans hi9.1
                have hc_20 : am_18 fd = some (.inr (1, [.int 7, .ref pa])) := by rw [eam_18]; exact hup_s
                have hc_21 := (show am_18 pa = _ from (by rw [eam_18]; exact hup_n (h_ne hi9.2.2.1 hi9.2.1 (by simp)))).trans hi9.2.2.1
                have hc_22 := (show am_18 mt = _ from (by rw [eam_18]; exact hup_n (h_ne hi9.2.2.2 hi9.2.1 (by simp)))).trans hi9.2.2.2
                have hc_23 := (show am_18 pg = _ from (by rw [eam_18]; exact hup_n (h_ne hpg hi9.2.1 (by simp)))).trans hpg
                have hc_24 := (show am_18 ra = _ from (by rw [eam_18]; exact hup_n (h_ne hra hi9.2.1 (by simp)))).trans hra
                have hc_25 := (show am_18 ((RT i).1 0) = _ from (by rw [eam_18]; exact hup_n (h_ne hr_5_g.1 hi9.2.1 (by simp)))).trans hr_5_g.1
                have hc_26 := (show am_18 ((RT i).1 1) = _ from (by rw [eam_18]; exact hup_n (h_ne hr_5_g.2.1 hi9.2.1 (by simp)))).trans hr_5_g.2.1
                have hc_27 := (show am_18 ((RT i).1 2) = _ from (by rw [eam_18]; exact hup_n (h_ne hr_5_g.2.2.1 hi9.2.1 (by simp)))).trans hr_5_g.2.2.1
                have hc_28 := (show am_18 ((RT j).1 0) = _ from (by rw [eam_18]; exact hup_n (h_ne hr_6_g.1 hi9.2.1 (by simp)))).trans hr_6_g.1
                have hc_29 := (show am_18 ((RT j).1 1) = _ from (by rw [eam_18]; exact hup_n (h_ne hr_6_g.2.1 hi9.2.1 (by simp)))).trans hr_6_g.2.1
                have hc_30 := (show am_18 ((RT j).1 2) = _ from (by rw [eam_18]; exact hup_n (h_ne hr_6_g.2.2.1 hi9.2.1 (by simp)))).trans hr_6_g.2.2.1
                have hc_31 := (show ah_14 ins = _ from (by rw [eah_14]; exact hup_n (h_ne hc_19 hc_21 (by simp)))).trans hc_19
                have hc_32 := (show ah_14 fd = _ from (by rw [eah_14]; exact hup_n (h_ne hc_20 hc_21 (by simp)))).trans hc_20
                have hc_33 : ah_14 pa = some (.inl (dT 0, 7, .inl (upd pl 0 shp))) := by rw [eah_14]; exact hup_s
                have hc_34 := (show ah_14 mt = _ from (by rw [eah_14]; exact hup_n (h_ne hc_22 hc_21 (by simp)))).trans hc_22
                have hc_35 := (show ah_14 pg = _ from (by rw [eah_14]; exact hup_n (h_ne hc_23 hc_21 (by simp)))).trans hc_23
                have hc_36 := (show ah_14 ra = _ from (by rw [eah_14]; exact hup_n (h_ne hc_24 hc_21 (by simp)))).trans hc_24
                have hc_37 := (show ah_14 ((RT i).1 0) = _ from (by rw [eah_14]; exact hup_n (h_ne hc_25 hc_21 (by simp)))).trans hc_25
                have hc_38 := (show ah_14 ((RT i).1 1) = _ from (by rw [eah_14]; exact hup_n (h_ne hc_26 hc_21 (by simp)))).trans hc_26
                have hc_39 := (show ah_14 ((RT i).1 2) = _ from (by rw [eah_14]; exact hup_n (h_ne hc_27 hc_21 (by simp)))).trans hc_27
                have hc_40 := (show ah_14 ((RT j).1 0) = _ from (by rw [eah_14]; exact hup_n (h_ne hc_28 hc_21 (by simp)))).trans hc_28
                have hc_41 := (show ah_14 ((RT j).1 1) = _ from (by rw [eah_14]; exact hup_n (h_ne hc_29 hc_21 (by simp)))).trans hc_29
                have hc_42 := (show ah_14 ((RT j).1 2) = _ from (by rw [eah_14]; exact hup_n (h_ne hc_30 hc_21 (by simp)))).trans hc_30
                have hst : st_17 = [] := hst
                subst hst
                refine lv_aload_n hx hb dX2_inspectPairsOfHoles_64 rfl (lv_at hl 3 rfl) ?_
                refine h_get (ci := 2) (v := .ref fd) (C := RX2) (T := TX2) (N := 4) hx hb hts kl_X2 hown hK hw hc_31 rfl 1 (by decide) (hts _ kf_X2_15) rfl rfl dX2_inspectPairsOfHoles_65 ?_
                refine lv_aload_n hx hb dX2_inspectPairsOfHoles_68 rfl (lv_at hl 4 rfl) ?_
                refine h_getN (ci := 4) (v := .int pp) (C := RX4) (T := TX4) (N := 2) hx hb hts kl_X4 hown hK hw hc_35 rfl 0 (by decide) (va_Nw.use rfl (hK.2.1 _ (List.mem_of_getElem? (i := 33) rfl))) rfl rfl dX2_inspectPairsOfHoles_69 ?_
                refine lv_iload_n hx hb dX2_inspectPairsOfHoles_72 rfl (lv_at hl 1 rfl) ?_
                refine lv_iconst (v := (-1)) hx hb dX2_inspectPairsOfHoles_73 (by decide) ?_
                refine h_callV (n := 3) (ci := 1) (b := fd) (As := [.int pp, .int (nI i), .int (-1)]) (rest := []) ⟨hx, hb, hml, hown, hts⟩ hK hw (c_X1_tellOne l D dT ah_14 H_15.size fd pa 7 (upd pl 0 shp) hc_32 hc_33 pp (nI i) (-1)) ko_X1_tellOne km_X2_95 ki_X1_tellOne ks_X1_tellOne kn_X1 (by decide +kernel) rfl hc_32 rfl hl.1 rfl (by simp [Value.category]) dX2_inspectPairsOfHoles_74 (by rw [hR]; exact ⟨rfl, rfl, Nat.le_of_ble_eq_true rfl, Nat.le_of_ble_eq_true rfl, by simp, by simp⟩) (fun r_43 ah_44 H_45 L_46 st_47 hp hw hst => ?_)
                obtain ⟨rfl, eah_44⟩ := hp
                have hc_48 := (show ah_44 ins = _ from (by rw [eah_44]; exact hup_n (h_ne hc_31 hc_33 (by simp)))).trans hc_31
                have hc_49 := (show ah_44 fd = _ from (by rw [eah_44]; exact hup_n (h_ne hc_32 hc_33 (by simp)))).trans hc_32
                have hc_50 : ah_44 pa = some (.inl (dT 0, 7, .inl (upd (upd (upd (upd pl 0 shp) 1 pp) 2 (nI i)) 3 (-1)))) := by rw [eah_44]; exact hup_s
                have hc_51 := (show ah_44 mt = _ from (by rw [eah_44]; exact hup_n (h_ne hc_34 hc_33 (by simp)))).trans hc_34
                have hc_52 := (show ah_44 pg = _ from (by rw [eah_44]; exact hup_n (h_ne hc_35 hc_33 (by simp)))).trans hc_35
                have hc_53 := (show ah_44 ra = _ from (by rw [eah_44]; exact hup_n (h_ne hc_36 hc_33 (by simp)))).trans hc_36
                have hc_54 := (show ah_44 ((RT i).1 0) = _ from (by rw [eah_44]; exact hup_n (h_ne hc_37 hc_33 (by simp)))).trans hc_37
                have hc_55 := (show ah_44 ((RT i).1 1) = _ from (by rw [eah_44]; exact hup_n (h_ne hc_38 hc_33 (by simp)))).trans hc_38
                have hc_56 := (show ah_44 ((RT i).1 2) = _ from (by rw [eah_44]; exact hup_n (h_ne hc_39 hc_33 (by simp)))).trans hc_39
                have hc_57 := (show ah_44 ((RT j).1 0) = _ from (by rw [eah_44]; exact hup_n (h_ne hc_40 hc_33 (by simp)))).trans hc_40
                have hc_58 := (show ah_44 ((RT j).1 1) = _ from (by rw [eah_44]; exact hup_n (h_ne hc_41 hc_33 (by simp)))).trans hc_41
                have hc_59 := (show ah_44 ((RT j).1 2) = _ from (by rw [eah_44]; exact hup_n (h_ne hc_42 hc_33 (by simp)))).trans hc_42
                have hst : st_47 = [] := hst
                subst hst
                refine lv_aload_n hx hb dX2_inspectPairsOfHoles_77 rfl (lv_at hl 3 rfl) ?_
                refine h_get (ci := 2) (v := .ref fd) (C := RX2) (T := TX2) (N := 4) hx hb hts kl_X2 hown hK hw hc_48 rfl 1 (by decide) (hts _ kf_X2_15) rfl rfl dX2_inspectPairsOfHoles_78 ?_
                refine lv_aload_n hx hb dX2_inspectPairsOfHoles_81 rfl (lv_at hl 4 rfl) ?_
                refine h_getN (ci := 4) (v := .int pp) (C := RX4) (T := TX4) (N := 2) hx hb hts kl_X4 hown hK hw hc_52 rfl 0 (by decide) (va_Nw.use rfl (hK.2.1 _ (List.mem_of_getElem? (i := 33) rfl))) rfl rfl dX2_inspectPairsOfHoles_82 ?_
                refine lv_iload hx hb dX2_inspectPairsOfHoles_85 (lv_at hl 0 rfl) ?_
                refine lv_iconst (v := (-1)) hx hb dX2_inspectPairsOfHoles_87 (by decide) ?_
                refine h_callV (n := 3) (ci := 1) (b := fd) (As := [.int pp, .int (nI j), .int (-1)]) (rest := []) ⟨hx, hb, hml, hown, hts⟩ hK hw (c_X1_tellOther l D dT ah_44 H_45.size fd pa 7 (upd (upd (upd (upd pl 0 shp) 1 pp) 2 (nI i)) 3 (-1)) hc_49 hc_50 pp (nI j) (-1)) ko_X1_tellOther km_X2_140 ki_X1_tellOther ks_X1_tellOther kn_X1 (by decide +kernel) rfl hc_49 rfl hl.1 rfl (by simp [Value.category]) dX2_inspectPairsOfHoles_88 (by rw [hR]; exact ⟨rfl, rfl, Nat.le_of_ble_eq_true rfl, Nat.le_of_ble_eq_true rfl, by simp, by simp⟩) (fun r_60 ah_61 H_62 L_63 st_64 hp hw hst => ?_)
                obtain ⟨rfl, eah_61⟩ := hp
                have hc_65 := (show ah_61 ins = _ from (by rw [eah_61]; exact hup_n (h_ne hc_48 hc_50 (by simp)))).trans hc_48
                have hc_66 := (show ah_61 fd = _ from (by rw [eah_61]; exact hup_n (h_ne hc_49 hc_50 (by simp)))).trans hc_49
                have hc_67 : ah_61 pa = some (.inl (dT 0, 7, .inl (upd (upd (upd (upd (upd (upd (upd pl 0 shp) 1 pp) 2 (nI i)) 3 (-1)) 4 pp) 5 (nI j)) 6 (-1)))) := by rw [eah_61]; exact hup_s
                have hc_68 := (show ah_61 mt = _ from (by rw [eah_61]; exact hup_n (h_ne hc_51 hc_50 (by simp)))).trans hc_51
                have hc_69 := (show ah_61 pg = _ from (by rw [eah_61]; exact hup_n (h_ne hc_52 hc_50 (by simp)))).trans hc_52
                have hc_70 := (show ah_61 ra = _ from (by rw [eah_61]; exact hup_n (h_ne hc_53 hc_50 (by simp)))).trans hc_53
                have hc_71 := (show ah_61 ((RT i).1 0) = _ from (by rw [eah_61]; exact hup_n (h_ne hc_54 hc_50 (by simp)))).trans hc_54
                have hc_72 := (show ah_61 ((RT i).1 1) = _ from (by rw [eah_61]; exact hup_n (h_ne hc_55 hc_50 (by simp)))).trans hc_55
                have hc_73 := (show ah_61 ((RT i).1 2) = _ from (by rw [eah_61]; exact hup_n (h_ne hc_56 hc_50 (by simp)))).trans hc_56
                have hc_74 := (show ah_61 ((RT j).1 0) = _ from (by rw [eah_61]; exact hup_n (h_ne hc_57 hc_50 (by simp)))).trans hc_57
                have hc_75 := (show ah_61 ((RT j).1 1) = _ from (by rw [eah_61]; exact hup_n (h_ne hc_58 hc_50 (by simp)))).trans hc_58
                have hc_76 := (show ah_61 ((RT j).1 2) = _ from (by rw [eah_61]; exact hup_n (h_ne hc_59 hc_50 (by simp)))).trans hc_59
                have hst : st_64 = [] := hst
                subst hst
                refine lv_iconst (v := 1) hx hb dX2_inspectPairsOfHoles_91 (by decide) ?_
                rw [hQ]
                exact h_zret hx hb hr hlk hsz hw (by simp) (by simp) dX2_inspectPairsOfHoles_92 (by decide) ⟨true, _, _, _, _, rfl, ⟨hc_65, hc_66, hc_67, hc_68⟩, (fun a e9 h1 h2 h3 h4 => (by have g9_0 : am_18 a = some e9 := (by rw [eam_18]; exact (hup_n h2).trans h1); have g9_1 : ah_14 a = some e9 := (by rw [eah_14]; exact (hup_n h3).trans g9_0); have g9_2 : ah_44 a = some e9 := (by rw [eah_44]; exact (hup_n h3).trans g9_1); have g9_3 : ah_61 a = some e9 := (by rw [eah_61]; exact (hup_n h3).trans g9_2); exact g9_3)), (by rw [show firstO nr (fun i => firstO nr (phC shp pp pl RT i)) = some _ from firstO_some (i := i) (by omega) (firstO_some (i := j) (by omega) (phC_s (by omega) (by omega) (Or.inl c_12)) hpw) hpv]; exact ⟨rfl, rfl, rfl⟩)⟩
              · skip
                have c_12 : rIn (RT i) (RT j) = false := bI_0.mp c_12
                refine lv_aload_n hx hb dX2_inspectPairsOfHoles_38 rfl (lv_at hl 2 rfl) ?_
                refine lv_iload hx hb dX2_inspectPairsOfHoles_39 (lv_at hl 0 rfl) ?_
                obtain ⟨hr_77_f, hr_77_g⟩ := hpl j (by omega)
                have hr_77_g : rgAt dT ah ((RT j).1 0) ((RT j).1 1) ((RT j).1 2) ((RT j).1 3) ((RT j).1 4) ((RT j).2.1 0) ((RT j).2.1 1) ((RT j).2.1 2) ((RT j).2.2.1) ((RT j).2.2.2.1) ((RT j).2.2.2.2.1) ((RT j).2.2.2.2.2.1) ((RT j).2.2.2.2.2.2.1) ((RT j).2.2.2.2.2.2.2) := hr_77_g
                refine h_aald hx hb hK hw 3 rfl hra j rfl (by omega) (by omega) hr_77_f dX2_inspectPairsOfHoles_41 ?_
                refine lv_aload_n hx hb dX2_inspectPairsOfHoles_42 rfl (lv_at hl 2 rfl) ?_
                refine lv_iload_n hx hb dX2_inspectPairsOfHoles_43 rfl (lv_at hl 1 rfl) ?_
                obtain ⟨hr_78_f, hr_78_g⟩ := hpl i (by omega)
                have hr_78_g : rgAt dT ah ((RT i).1 0) ((RT i).1 1) ((RT i).1 2) ((RT i).1 3) ((RT i).1 4) ((RT i).2.1 0) ((RT i).2.1 1) ((RT i).2.1 2) ((RT i).2.2.1) ((RT i).2.2.2.1) ((RT i).2.2.2.2.1) ((RT i).2.2.2.2.2.1) ((RT i).2.2.2.2.2.2.1) ((RT i).2.2.2.2.2.2.2) := hr_78_g
                refine h_aald hx hb hK hw 3 rfl hra i rfl (by omega) (by omega) hr_78_f dX2_inspectPairsOfHoles_44 ?_
                refine h_callV (n := 1) (ci := 5) (b := ((RT j).1 0)) (As := [.ref ((RT i).1 0)]) (rest := []) ⟨hx, hb, hml, hown, hts⟩ hK hw (c_X5_liesIn l D dT ah H_9.size ((RT j).1 0) ((RT j).1 1) ((RT j).1 2) ((RT j).1 3) ((RT j).1 4) ((RT j).2.1 0) ((RT j).2.1 1) ((RT j).2.1 2) ((RT j).2.2.1) ((RT j).2.2.2.1) ((RT j).2.2.2.2.1) ((RT j).2.2.2.2.2.1) ((RT j).2.2.2.2.2.2.1) ((RT j).2.2.2.2.2.2.2) hr_77_g ((RT i).1 0) ((RT i).1 1) ((RT i).1 2) ((RT i).1 3) ((RT i).1 4) ((RT i).2.1 0) ((RT i).2.1 1) ((RT i).2.1 2) ((RT i).2.2.1) ((RT i).2.2.2.1) ((RT i).2.2.2.2.1) ((RT i).2.2.2.2.2.1) ((RT i).2.2.2.2.2.2.1) ((RT i).2.2.2.2.2.2.2) hr_78_g) ko_X5_liesIn km_X2_143 ki_X5_liesIn ks_X5_liesIn kn_X5 (by decide +kernel) rfl hr_77_g.1 rfl hl.1 rfl (by simp [Value.category]) dX2_inspectPairsOfHoles_45 (by rw [hR]; exact ⟨rfl, rfl, Nat.le_of_ble_eq_true rfl, Nat.le_of_ble_eq_true rfl, by simp, by simp⟩) (fun r_79 ah_80 H_81 L_82 st_83 hp hw hst => ?_)
                obtain ⟨rfl, rfl⟩ := hp
                have hst : st_83 = [.int (bI (rIn (RT j) (RT i)))] := hst
                subst hst
                refine lv_if_eq (tgt := 93) hx hb dX2_inspectPairsOfHoles_48 (by decide) (fun c_84 => ?_) (fun c_84 => ?_)
                · skip
                  have c_84 : rIn (RT j) (RT i) = false := bI_0.mp c_84
                  refine lv_iinc (v := nI (j + 1)) (lv' := [(4, .int (nI (j + 1))), (3, .int (nI i)), (2, .ref ra), (0, .ref ins), (1, .ref pg)]) hx hb dX2_inspectPairsOfHoles_93 hl (k := 0) rfl (nI_c _ 1) (by decide) rfl (fun ls hl => ?_)
                  refine lv_goto (tgt := 18) hx hb dX2_inspectPairsOfHoles_96 (by decide) ?_
                  refine W.widen (k := 0) (n := 0) (by omega) (by omega) ?_
                  exact ih18 (j + 1) ls _ _ (by omega) (by omega) (lt_o hpw (phC_n c_12 c_84)) (lv_sub hl [0, 1, 2, 3, 4] rfl) hw
                · skip
                  have c_84 : ¬ (rIn (RT j) (RT i) = false) := (not_congr bI_0).mp c_84
                  refine lv_aload_n hx hb dX2_inspectPairsOfHoles_51 rfl (lv_at hl 3 rfl) ?_
                  refine h_get (ci := 2) (v := .ref fd) (C := RX2) (T := TX2) (N := 4) hx hb hts kl_X2 hown hK hw hi9.1 rfl 1 (by decide) (hts _ kf_X2_15) rfl rfl dX2_inspectPairsOfHoles_52 ?_
                  refine lv_bipush (v := 7) hx hb dX2_inspectPairsOfHoles_55 (by decide) ?_
                  refine lv_aload_n hx hb dX2_inspectPairsOfHoles_57 rfl (lv_at hl 3 rfl) ?_
                  refine h_get (ci := 2) (v := .int shp) (C := RX2) (T := TX2) (N := 4) hx hb hts kl_X2 hown hK hw hi9.1 rfl 3 (by decide) (hts _ kf_X2_26) rfl rfl dX2_inspectPairsOfHoles_58 ?_
                  refine h_callV (n := 2) (ci := 1) (b := fd) (As := [.int 7, .int shp]) (rest := []) ⟨hx, hb, hml, hown, hts⟩ hK hw (c_X1_tell l D dT ah H_81.size fd pa wh pl hi9.2.1 hi9.2.2.1 7 shp) ko_X1_tell km_X2_77 ki_X1_tell ks_X1_tell kn_X1 (by decide +kernel) rfl hi9.2.1 rfl hl.1 rfl (by simp [Value.category]) dX2_inspectPairsOfHoles_61 (by rw [hR]; exact ⟨rfl, rfl, Nat.le_of_ble_eq_true rfl, Nat.le_of_ble_eq_true rfl, by simp, by simp⟩) (fun r_86 ah_87 H_88 L_89 st_90 hp hw hst => ?_)
                  obtain ⟨rfl, eah_87⟩ := hp
                  obtain ⟨am_91, eam_91⟩ : ∃ z9 : hA, z9 = hup ah fd (.inr (1, [.int 7, .ref pa])) := ⟨_, rfl⟩
                  rw [← eam_91] at eah_87
                  have hc_92 := (show am_91 ins = _ from (by rw [eam_91]; exact hup_n (h_ne hi9.1 hi9.2.1 (by simp)))).trans hi9.1
                  have hc_93 : am_91 fd = some (.inr (1, [.int 7, .ref pa])) := by rw [eam_91]; exact hup_s
                  have hc_94 := (show am_91 pa = _ from (by rw [eam_91]; exact hup_n (h_ne hi9.2.2.1 hi9.2.1 (by simp)))).trans hi9.2.2.1
                  have hc_95 := (show am_91 mt = _ from (by rw [eam_91]; exact hup_n (h_ne hi9.2.2.2 hi9.2.1 (by simp)))).trans hi9.2.2.2
                  have hc_96 := (show am_91 pg = _ from (by rw [eam_91]; exact hup_n (h_ne hpg hi9.2.1 (by simp)))).trans hpg
                  have hc_97 := (show am_91 ra = _ from (by rw [eam_91]; exact hup_n (h_ne hra hi9.2.1 (by simp)))).trans hra
                  have hc_98 := (show am_91 ((RT i).1 0) = _ from (by rw [eam_91]; exact hup_n (h_ne hr_78_g.1 hi9.2.1 (by simp)))).trans hr_78_g.1
                  have hc_99 := (show am_91 ((RT i).1 1) = _ from (by rw [eam_91]; exact hup_n (h_ne hr_78_g.2.1 hi9.2.1 (by simp)))).trans hr_78_g.2.1
                  have hc_100 := (show am_91 ((RT i).1 2) = _ from (by rw [eam_91]; exact hup_n (h_ne hr_78_g.2.2.1 hi9.2.1 (by simp)))).trans hr_78_g.2.2.1
                  have hc_101 := (show am_91 ((RT j).1 0) = _ from (by rw [eam_91]; exact hup_n (h_ne hr_77_g.1 hi9.2.1 (by simp)))).trans hr_77_g.1
                  have hc_102 := (show am_91 ((RT j).1 1) = _ from (by rw [eam_91]; exact hup_n (h_ne hr_77_g.2.1 hi9.2.1 (by simp)))).trans hr_77_g.2.1
                  have hc_103 := (show am_91 ((RT j).1 2) = _ from (by rw [eam_91]; exact hup_n (h_ne hr_77_g.2.2.1 hi9.2.1 (by simp)))).trans hr_77_g.2.2.1
                  have hc_104 := (show ah_87 ins = _ from (by rw [eah_87]; exact hup_n (h_ne hc_92 hc_94 (by simp)))).trans hc_92
                  have hc_105 := (show ah_87 fd = _ from (by rw [eah_87]; exact hup_n (h_ne hc_93 hc_94 (by simp)))).trans hc_93
                  have hc_106 : ah_87 pa = some (.inl (dT 0, 7, .inl (upd pl 0 shp))) := by rw [eah_87]; exact hup_s
                  have hc_107 := (show ah_87 mt = _ from (by rw [eah_87]; exact hup_n (h_ne hc_95 hc_94 (by simp)))).trans hc_95
                  have hc_108 := (show ah_87 pg = _ from (by rw [eah_87]; exact hup_n (h_ne hc_96 hc_94 (by simp)))).trans hc_96
                  have hc_109 := (show ah_87 ra = _ from (by rw [eah_87]; exact hup_n (h_ne hc_97 hc_94 (by simp)))).trans hc_97
                  have hc_110 := (show ah_87 ((RT i).1 0) = _ from (by rw [eah_87]; exact hup_n (h_ne hc_98 hc_94 (by simp)))).trans hc_98
                  have hc_111 := (show ah_87 ((RT i).1 1) = _ from (by rw [eah_87]; exact hup_n (h_ne hc_99 hc_94 (by simp)))).trans hc_99
                  have hc_112 := (show ah_87 ((RT i).1 2) = _ from (by rw [eah_87]; exact hup_n (h_ne hc_100 hc_94 (by simp)))).trans hc_100
                  have hc_113 := (show ah_87 ((RT j).1 0) = _ from (by rw [eah_87]; exact hup_n (h_ne hc_101 hc_94 (by simp)))).trans hc_101
                  have hc_114 := (show ah_87 ((RT j).1 1) = _ from (by rw [eah_87]; exact hup_n (h_ne hc_102 hc_94 (by simp)))).trans hc_102
                  have hc_115 := (show ah_87 ((RT j).1 2) = _ from (by rw [eah_87]; exact hup_n (h_ne hc_103 hc_94 (by simp)))).trans hc_103
                  have hst : st_90 = [] := hst
                  subst hst
                  refine lv_aload_n hx hb dX2_inspectPairsOfHoles_64 rfl (lv_at hl 3 rfl) ?_
                  refine h_get (ci := 2) (v := .ref fd) (C := RX2) (T := TX2) (N := 4) hx hb hts kl_X2 hown hK hw hc_104 rfl 1 (by decide) (hts _ kf_X2_15) rfl rfl dX2_inspectPairsOfHoles_65 ?_
                  refine lv_aload_n hx hb dX2_inspectPairsOfHoles_68 rfl (lv_at hl 4 rfl) ?_
                  refine h_getN (ci := 4) (v := .int pp) (C := RX4) (T := TX4) (N := 2) hx hb hts kl_X4 hown hK hw hc_108 rfl 0 (by decide) (va_Nw.use rfl (hK.2.1 _ (List.mem_of_getElem? (i := 33) rfl))) rfl rfl dX2_inspectPairsOfHoles_69 ?_
                  refine lv_iload_n hx hb dX2_inspectPairsOfHoles_72 rfl (lv_at hl 1 rfl) ?_
                  refine lv_iconst (v := (-1)) hx hb dX2_inspectPairsOfHoles_73 (by decide) ?_
                  refine h_callV (n := 3) (ci := 1) (b := fd) (As := [.int pp, .int (nI i), .int (-1)]) (rest := []) ⟨hx, hb, hml, hown, hts⟩ hK hw (c_X1_tellOne l D dT ah_87 H_88.size fd pa 7 (upd pl 0 shp) hc_105 hc_106 pp (nI i) (-1)) ko_X1_tellOne km_X2_95 ki_X1_tellOne ks_X1_tellOne kn_X1 (by decide +kernel) rfl hc_105 rfl hl.1 rfl (by simp [Value.category]) dX2_inspectPairsOfHoles_74 (by rw [hR]; exact ⟨rfl, rfl, Nat.le_of_ble_eq_true rfl, Nat.le_of_ble_eq_true rfl, by simp, by simp⟩) (fun r_116 ah_117 H_118 L_119 st_120 hp hw hst => ?_)
                  obtain ⟨rfl, eah_117⟩ := hp
                  have hc_121 := (show ah_117 ins = _ from (by rw [eah_117]; exact hup_n (h_ne hc_104 hc_106 (by simp)))).trans hc_104
                  have hc_122 := (show ah_117 fd = _ from (by rw [eah_117]; exact hup_n (h_ne hc_105 hc_106 (by simp)))).trans hc_105
                  have hc_123 : ah_117 pa = some (.inl (dT 0, 7, .inl (upd (upd (upd (upd pl 0 shp) 1 pp) 2 (nI i)) 3 (-1)))) := by rw [eah_117]; exact hup_s
                  have hc_124 := (show ah_117 mt = _ from (by rw [eah_117]; exact hup_n (h_ne hc_107 hc_106 (by simp)))).trans hc_107
                  have hc_125 := (show ah_117 pg = _ from (by rw [eah_117]; exact hup_n (h_ne hc_108 hc_106 (by simp)))).trans hc_108
                  have hc_126 := (show ah_117 ra = _ from (by rw [eah_117]; exact hup_n (h_ne hc_109 hc_106 (by simp)))).trans hc_109
                  have hc_127 := (show ah_117 ((RT i).1 0) = _ from (by rw [eah_117]; exact hup_n (h_ne hc_110 hc_106 (by simp)))).trans hc_110
                  have hc_128 := (show ah_117 ((RT i).1 1) = _ from (by rw [eah_117]; exact hup_n (h_ne hc_111 hc_106 (by simp)))).trans hc_111
                  have hc_129 := (show ah_117 ((RT i).1 2) = _ from (by rw [eah_117]; exact hup_n (h_ne hc_112 hc_106 (by simp)))).trans hc_112
                  have hc_130 := (show ah_117 ((RT j).1 0) = _ from (by rw [eah_117]; exact hup_n (h_ne hc_113 hc_106 (by simp)))).trans hc_113
                  have hc_131 := (show ah_117 ((RT j).1 1) = _ from (by rw [eah_117]; exact hup_n (h_ne hc_114 hc_106 (by simp)))).trans hc_114
                  have hc_132 := (show ah_117 ((RT j).1 2) = _ from (by rw [eah_117]; exact hup_n (h_ne hc_115 hc_106 (by simp)))).trans hc_115
                  have hst : st_120 = [] := hst
                  subst hst
                  refine lv_aload_n hx hb dX2_inspectPairsOfHoles_77 rfl (lv_at hl 3 rfl) ?_
                  refine h_get (ci := 2) (v := .ref fd) (C := RX2) (T := TX2) (N := 4) hx hb hts kl_X2 hown hK hw hc_121 rfl 1 (by decide) (hts _ kf_X2_15) rfl rfl dX2_inspectPairsOfHoles_78 ?_
                  refine lv_aload_n hx hb dX2_inspectPairsOfHoles_81 rfl (lv_at hl 4 rfl) ?_
                  refine h_getN (ci := 4) (v := .int pp) (C := RX4) (T := TX4) (N := 2) hx hb hts kl_X4 hown hK hw hc_125 rfl 0 (by decide) (va_Nw.use rfl (hK.2.1 _ (List.mem_of_getElem? (i := 33) rfl))) rfl rfl dX2_inspectPairsOfHoles_82 ?_
                  refine lv_iload hx hb dX2_inspectPairsOfHoles_85 (lv_at hl 0 rfl) ?_
                  refine lv_iconst (v := (-1)) hx hb dX2_inspectPairsOfHoles_87 (by decide) ?_
                  refine h_callV (n := 3) (ci := 1) (b := fd) (As := [.int pp, .int (nI j), .int (-1)]) (rest := []) ⟨hx, hb, hml, hown, hts⟩ hK hw (c_X1_tellOther l D dT ah_117 H_118.size fd pa 7 (upd (upd (upd (upd pl 0 shp) 1 pp) 2 (nI i)) 3 (-1)) hc_122 hc_123 pp (nI j) (-1)) ko_X1_tellOther km_X2_140 ki_X1_tellOther ks_X1_tellOther kn_X1 (by decide +kernel) rfl hc_122 rfl hl.1 rfl (by simp [Value.category]) dX2_inspectPairsOfHoles_88 (by rw [hR]; exact ⟨rfl, rfl, Nat.le_of_ble_eq_true rfl, Nat.le_of_ble_eq_true rfl, by simp, by simp⟩) (fun r_133 ah_134 H_135 L_136 st_137 hp hw hst => ?_)
                  obtain ⟨rfl, eah_134⟩ := hp
                  have hc_138 := (show ah_134 ins = _ from (by rw [eah_134]; exact hup_n (h_ne hc_121 hc_123 (by simp)))).trans hc_121
                  have hc_139 := (show ah_134 fd = _ from (by rw [eah_134]; exact hup_n (h_ne hc_122 hc_123 (by simp)))).trans hc_122
                  have hc_140 : ah_134 pa = some (.inl (dT 0, 7, .inl (upd (upd (upd (upd (upd (upd (upd pl 0 shp) 1 pp) 2 (nI i)) 3 (-1)) 4 pp) 5 (nI j)) 6 (-1)))) := by rw [eah_134]; exact hup_s
                  have hc_141 := (show ah_134 mt = _ from (by rw [eah_134]; exact hup_n (h_ne hc_124 hc_123 (by simp)))).trans hc_124
                  have hc_142 := (show ah_134 pg = _ from (by rw [eah_134]; exact hup_n (h_ne hc_125 hc_123 (by simp)))).trans hc_125
                  have hc_143 := (show ah_134 ra = _ from (by rw [eah_134]; exact hup_n (h_ne hc_126 hc_123 (by simp)))).trans hc_126
                  have hc_144 := (show ah_134 ((RT i).1 0) = _ from (by rw [eah_134]; exact hup_n (h_ne hc_127 hc_123 (by simp)))).trans hc_127
                  have hc_145 := (show ah_134 ((RT i).1 1) = _ from (by rw [eah_134]; exact hup_n (h_ne hc_128 hc_123 (by simp)))).trans hc_128
                  have hc_146 := (show ah_134 ((RT i).1 2) = _ from (by rw [eah_134]; exact hup_n (h_ne hc_129 hc_123 (by simp)))).trans hc_129
                  have hc_147 := (show ah_134 ((RT j).1 0) = _ from (by rw [eah_134]; exact hup_n (h_ne hc_130 hc_123 (by simp)))).trans hc_130
                  have hc_148 := (show ah_134 ((RT j).1 1) = _ from (by rw [eah_134]; exact hup_n (h_ne hc_131 hc_123 (by simp)))).trans hc_131
                  have hc_149 := (show ah_134 ((RT j).1 2) = _ from (by rw [eah_134]; exact hup_n (h_ne hc_132 hc_123 (by simp)))).trans hc_132
                  have hst : st_137 = [] := hst
                  subst hst
                  refine lv_iconst (v := 1) hx hb dX2_inspectPairsOfHoles_91 (by decide) ?_
                  rw [hQ]
                  exact h_zret hx hb hr hlk hsz hw (by simp) (by simp) dX2_inspectPairsOfHoles_92 (by decide) ⟨true, _, _, _, _, rfl, ⟨hc_138, hc_139, hc_140, hc_141⟩, (fun a e9 h1 h2 h3 h4 => (by have g9_0 : am_91 a = some e9 := (by rw [eam_91]; exact (hup_n h2).trans h1); have g9_1 : ah_87 a = some e9 := (by rw [eah_87]; exact (hup_n h3).trans g9_0); have g9_2 : ah_117 a = some e9 := (by rw [eah_117]; exact (hup_n h3).trans g9_1); have g9_3 : ah_134 a = some e9 := (by rw [eah_134]; exact (hup_n h3).trans g9_2); exact g9_3)), (by rw [show firstO nr (fun i => firstO nr (phC shp pp pl RT i)) = some _ from firstO_some (i := i) (by omega) (firstO_some (i := j) (by omega) (phC_s (by omega) (by omega) (Or.inr c_84)) hpw) hpv]; exact ⟨rfl, rfl, rfl⟩)⟩
        exact LP18 ((nr - (i + 1)) + 1) (i + 1) ls _ _ (Nat.lt_succ_self _) (by omega) (fun k hk => phC_l (by omega)) (lv_sub hl [0, 1, 2, 3, 4] rfl) hw
  exact LP7 ((nr + 1 - 1) + 1) 1 ls _ _ (Nat.lt_succ_self _) (by omega) (fun j hj => by rw [show j = 0 by omega]; exact firstO_none (fun j hj => rfl)) (lv_sub hl [0, 1, 2, 3] rfl) hw

set_option maxHeartbeats 4000000 in
set_option maxRecDepth 100000 in
theorem c_X2_inspectWholeness (l : Launch) (D : va_G) (dT : Nat → ClassId) (ah : hA) (sz : Nat) (ins sh fd pa mt : Nat) (shp wh : Int32) (pl : Nat → Int32) (mx my : Int32) (hi9 : inA dT ah ins sh fd pa mt shp wh pl mx my) (pg ra nr : Nat) (pp : Int32) (FR : Nat → Option Nat) (RT : Nat → rgT) (hp9 : plA dT ah pg ra nr pp FR RT) : hMet l yX2_inspectWholeness cX2_inspectWholeness 2 (some .boolean) ({ frames := 5, cells := 1, slots := nr, locals := 116 }) D dT [.ref ins, .ref pg] ah sz (fun r ah2 => ∃ (b : Bool) (wh2 : Int32) (pl2 : Nat → Int32) (mx2 my2 : Int32), r = some (.int (bI b)) ∧ inA dT ah2 ins sh fd pa mt shp wh2 pl2 mx2 my2 ∧ inK ah ah2 fd pa mt ∧ inR (whM shp pp pl nr RT) wh pl b wh2 pl2) 1 nr := by
  refine h_met (by decide) (Nat.le_of_ble_eq_true rfl) ?_
  intro p e s m below meth c ls R Q args hav hR hQ hB hl hsz hw
  obtain ⟨hx, hb, hml, hr, hts, hown, hlk, hin, hK⟩ := hB
  have hown : s.vm.findClass RX2 = some m.cls := hown
  have hl : lv_has ls 2 [(0, .ref ins), (1, .ref pg)] := hl
  have hp90 := hp9
  obtain ⟨hpg, hra, hnr, hpl⟩ := hp90
  refine lv_aload_n hx hb dX2_inspectWholeness_0 rfl (lv_at hl 1 rfl) ?_
  refine h_getN (ci := 4) (v := .ref ra) (C := RX4) (T := TX4) (N := 2) hx hb hts kl_X4 hown hK hw hpg rfl 1 (by decide) (va_Nw.use rfl (hK.2.1 _ (List.mem_of_getElem? (i := 34) rfl))) rfl rfl dX2_inspectWholeness_1 ?_
  refine h_alen hx hb hK hw 3 rfl hra dX2_inspectWholeness_4 ?_
  refine lv_iconst (v := 2) hx hb dX2_inspectWholeness_5 (by decide) ?_
  refine lv_icmp_lt (tgt := 16) hx hb dX2_inspectWholeness_6 (by decide) (fun c_1 => ?_) (fun c_1 => ?_)
  · skip
    have c_1 : nr < 2 := (nI_ltx (by rfl) (by decide) (by omega) (by omega)).mp c_1
    refine lv_iconst (v := 0) hx hb dX2_inspectWholeness_16 (by decide) ?_
    rw [hQ]
    exact h_zret hx hb hr hlk hsz hw (by simp) (by simp) dX2_inspectWholeness_17 (by decide) ⟨false, _, _, _, _, rfl, ⟨hi9.1, hi9.2.1, hi9.2.2.1, hi9.2.2.2⟩, (fun a e9 h1 h2 h3 h4 => (by exact h1)), (by unfold whM; rw [if_pos c_1]; exact ⟨rfl, rfl, rfl⟩)⟩
  · skip
    have c_1 : ¬ (nr < 2) := (not_congr (nI_ltx (by rfl) (by decide) (by omega) (by omega))).mp c_1
    refine lv_aload_n hx hb dX2_inspectWholeness_9 rfl (lv_at hl 1 rfl) ?_
    refine h_callV (n := 0) (ci := 4) (b := pg) (As := []) (rest := []) ⟨hx, hb, hml, hown, hts⟩ hK hw (c_X4_isSplit l D dT ah s.heap.size pg ra nr pp FR RT hp9) ko_X4_isSplit km_X2_147 ki_X4_isSplit ks_X4_isSplit kn_X4 (by decide +kernel) rfl hpg rfl hl.1 rfl (by simp [Value.category]) dX2_inspectWholeness_10 (by rw [hR]; exact ⟨rfl, rfl, Nat.le_of_ble_eq_true rfl, Nat.le_of_ble_eq_true rfl, (by simp), (by simp)⟩) (fun r_2 ah_3 H_4 L_5 st_6 hp hw hst => ?_)
    obtain ⟨bs, rfl, hbs, qs, hqs, hfs⟩ := hp
    have hKs : inK ah ah_3 fd pa mt := fun a e9 h1 _ _ _ => (hfs a (h_fr h1 hqs)).trans h1
    have hc_7 := (hfs _ (h_fr hi9.1 hqs)).trans hi9.1
    have hc_8 := (hfs _ (h_fr hi9.2.1 hqs)).trans hi9.2.1
    have hc_9 := (hfs _ (h_fr hi9.2.2.1 hqs)).trans hi9.2.2.1
    have hc_10 := (hfs _ (h_fr hi9.2.2.2 hqs)).trans hi9.2.2.2
    have hc_11 := (hfs _ (h_fr hpg hqs)).trans hpg
    have hc_12 := (hfs _ (h_fr hra hqs)).trans hra
    have hst : st_6 = [.int (bI bs)] := hst
    subst hst
    refine lv_if_ne (tgt := 18) hx hb dX2_inspectWholeness_13 (by decide) (fun c_13 => ?_) (fun c_13 => ?_)
    · skip
      have c_13 : ¬ (bs = false) := (not_congr bI_0).mp c_13
      refine lv_aload_n hx hb dX2_inspectWholeness_18 rfl (lv_at hl 0 rfl) ?_
      refine h_get (ci := 2) (v := .ref fd) (C := RX2) (T := TX2) (N := 4) hx hb hts kl_X2 hown hK hw hc_7 rfl 1 (by decide) (hts _ kf_X2_15) rfl rfl dX2_inspectWholeness_19 ?_
      refine lv_bipush (v := 8) hx hb dX2_inspectWholeness_22 (by decide) ?_
      refine lv_aload_n hx hb dX2_inspectWholeness_24 rfl (lv_at hl 0 rfl) ?_
      refine h_get (ci := 2) (v := .int shp) (C := RX2) (T := TX2) (N := 4) hx hb hts kl_X2 hown hK hw hc_7 rfl 3 (by decide) (hts _ kf_X2_26) rfl rfl dX2_inspectWholeness_25 ?_
      refine h_callV (n := 2) (ci := 1) (b := fd) (As := [.int 8, .int shp]) (rest := []) ⟨hx, hb, hml, hown, hts⟩ hK hw (c_X1_tell l D dT ah_3 H_4.size fd pa wh pl hc_8 hc_9 8 shp) ko_X1_tell km_X2_77 ki_X1_tell ks_X1_tell kn_X1 (by decide +kernel) rfl hc_8 rfl hl.1 rfl (by simp [Value.category]) dX2_inspectWholeness_28 (by rw [hR]; exact ⟨rfl, rfl, Nat.le_of_ble_eq_true rfl, Nat.le_of_ble_eq_true rfl, (by simp), (by simp)⟩) (fun r_14 ah_15 H_16 L_17 st_18 hp hw hst => ?_)
      obtain ⟨rfl, eah_15⟩ := hp
      obtain ⟨am_19, eam_19⟩ : ∃ z9 : hA, z9 = hup ah_3 fd (.inr (1, [.int 8, .ref pa])) := ⟨_, rfl⟩
      rw [← eam_19] at eah_15
      have hc_20 := (show am_19 ins = _ from (by rw [eam_19]; exact hup_n (h_ne hc_7 hc_8 (by simp)))).trans hc_7
      have hc_21 : am_19 fd = some (.inr (1, [.int 8, .ref pa])) := by rw [eam_19]; exact hup_s
      have hc_22 := (show am_19 pa = _ from (by rw [eam_19]; exact hup_n (h_ne hc_9 hc_8 (by simp)))).trans hc_9
      have hc_23 := (show am_19 mt = _ from (by rw [eam_19]; exact hup_n (h_ne hc_10 hc_8 (by simp)))).trans hc_10
      have hc_24 := (show am_19 pg = _ from (by rw [eam_19]; exact hup_n (h_ne hc_11 hc_8 (by simp)))).trans hc_11
      have hc_25 := (show am_19 ra = _ from (by rw [eam_19]; exact hup_n (h_ne hc_12 hc_8 (by simp)))).trans hc_12
      have hc_26 := (show ah_15 ins = _ from (by rw [eah_15]; exact hup_n (h_ne hc_20 hc_22 (by simp)))).trans hc_20
      have hc_27 := (show ah_15 fd = _ from (by rw [eah_15]; exact hup_n (h_ne hc_21 hc_22 (by simp)))).trans hc_21
      have hc_28 : ah_15 pa = some (.inl (dT 0, 7, .inl (upd pl 0 shp))) := by rw [eah_15]; exact hup_s
      have hc_29 := (show ah_15 mt = _ from (by rw [eah_15]; exact hup_n (h_ne hc_23 hc_22 (by simp)))).trans hc_23
      have hc_30 := (show ah_15 pg = _ from (by rw [eah_15]; exact hup_n (h_ne hc_24 hc_22 (by simp)))).trans hc_24
      have hc_31 := (show ah_15 ra = _ from (by rw [eah_15]; exact hup_n (h_ne hc_25 hc_22 (by simp)))).trans hc_25
      have hst : st_18 = [] := hst
      subst hst
      refine lv_aload_n hx hb dX2_inspectWholeness_31 rfl (lv_at hl 0 rfl) ?_
      refine h_get (ci := 2) (v := .ref fd) (C := RX2) (T := TX2) (N := 4) hx hb hts kl_X2 hown hK hw hc_26 rfl 1 (by decide) (hts _ kf_X2_15) rfl rfl dX2_inspectWholeness_32 ?_
      refine lv_aload_n hx hb dX2_inspectWholeness_35 rfl (lv_at hl 1 rfl) ?_
      refine h_getN (ci := 4) (v := .int pp) (C := RX4) (T := TX4) (N := 2) hx hb hts kl_X4 hown hK hw hc_30 rfl 0 (by decide) (va_Nw.use rfl (hK.2.1 _ (List.mem_of_getElem? (i := 33) rfl))) rfl rfl dX2_inspectWholeness_36 ?_
      refine lv_iconst (v := (-1)) hx hb dX2_inspectWholeness_39 (by decide) ?_
      refine lv_iconst (v := (-1)) hx hb dX2_inspectWholeness_40 (by decide) ?_
      refine h_callV (n := 3) (ci := 1) (b := fd) (As := [.int pp, .int (-1), .int (-1)]) (rest := []) ⟨hx, hb, hml, hown, hts⟩ hK hw (c_X1_tellOne l D dT ah_15 H_16.size fd pa 8 (upd pl 0 shp) hc_27 hc_28 pp (-1) (-1)) ko_X1_tellOne km_X2_95 ki_X1_tellOne ks_X1_tellOne kn_X1 (by decide +kernel) rfl hc_27 rfl hl.1 rfl (by simp [Value.category]) dX2_inspectWholeness_41 (by rw [hR]; exact ⟨rfl, rfl, Nat.le_of_ble_eq_true rfl, Nat.le_of_ble_eq_true rfl, (by simp), (by simp)⟩) (fun r_32 ah_33 H_34 L_35 st_36 hp hw hst => ?_)
      obtain ⟨rfl, eah_33⟩ := hp
      have hc_37 := (show ah_33 ins = _ from (by rw [eah_33]; exact hup_n (h_ne hc_26 hc_28 (by simp)))).trans hc_26
      have hc_38 := (show ah_33 fd = _ from (by rw [eah_33]; exact hup_n (h_ne hc_27 hc_28 (by simp)))).trans hc_27
      have hc_39 : ah_33 pa = some (.inl (dT 0, 7, .inl (upd (upd (upd (upd pl 0 shp) 1 pp) 2 (-1)) 3 (-1)))) := by rw [eah_33]; exact hup_s
      have hc_40 := (show ah_33 mt = _ from (by rw [eah_33]; exact hup_n (h_ne hc_29 hc_28 (by simp)))).trans hc_29
      have hc_41 := (show ah_33 pg = _ from (by rw [eah_33]; exact hup_n (h_ne hc_30 hc_28 (by simp)))).trans hc_30
      have hc_42 := (show ah_33 ra = _ from (by rw [eah_33]; exact hup_n (h_ne hc_31 hc_28 (by simp)))).trans hc_31
      have hst : st_36 = [] := hst
      subst hst
      refine lv_iconst (v := 1) hx hb dX2_inspectWholeness_44 (by decide) ?_
      rw [hQ]
      exact h_zret hx hb hr hlk hsz hw (by simp) (by simp) dX2_inspectWholeness_45 (by decide) ⟨true, _, _, _, _, rfl, ⟨hc_37, hc_38, hc_39, hc_40⟩, (fun a e9 h1 h2 h3 h4 => (by have g9_0 : ah_3 a = some e9 := hKs a e9 h1 h2 h3 h4; have g9_1 : am_19 a = some e9 := (by rw [eam_19]; exact (hup_n h2).trans g9_0); have g9_2 : ah_15 a = some e9 := (by rw [eah_15]; exact (hup_n h3).trans g9_1); have g9_3 : ah_33 a = some e9 := (by rw [eah_33]; exact (hup_n h3).trans g9_2); exact g9_3)), (by unfold whM; rw [if_neg c_1, ← hbs, if_neg c_13]; exact ⟨rfl, rfl, rfl⟩)⟩
    · skip
      have c_13 : bs = false := bI_0.mp c_13
      refine lv_iconst (v := 0) hx hb dX2_inspectWholeness_16 (by decide) ?_
      rw [hQ]
      exact h_zret hx hb hr hlk hsz hw (by simp) (by simp) dX2_inspectWholeness_17 (by decide) ⟨false, _, _, _, _, rfl, ⟨hc_7, hc_8, hc_9, hc_10⟩, (fun a e9 h1 h2 h3 h4 => (by have g9_0 : ah_3 a = some e9 := hKs a e9 h1 h2 h3 h4; exact g9_0)), (by unfold whM; rw [if_neg c_1, ← hbs, if_pos c_13]; exact ⟨rfl, rfl, rfl⟩)⟩

set_option maxHeartbeats 4000000 in
set_option maxRecDepth 100000 in
theorem c_X2_inspectPairsOfParts (l : Launch) (D : va_G) (dT : Nat → ClassId) (ah : hA) (sz : Nat) (ins sh fd pa mt : Nat) (shp wh : Int32) (pl : Nat → Int32) (mx my : Int32) (hi9 : inA dT ah ins sh fd pa mt shp wh pl mx my) (qa cn : Nat) (FQ : Nat → Option Nat) (PT : Nat → pT) (NR : Nat → Nat) (PP : Nat → Int32) (hcn9 : cn ≤ 100000) (hmp : mpA dT ah qa cn FQ PT NR PP) : hMet l yX2_inspectPairsOfParts cX2_inspectPairsOfParts 4 none ({ frames := 5, cells := 0, slots := 0, locals := 125 }) D dT [.ref ins, .ref qa] ah sz (fun r ah2 => ∃ (b : Bool) (wh2 : Int32) (pl2 : Nat → Int32) (mx2 my2 : Int32), r = none ∧ inA dT ah2 ins sh fd pa mt shp wh2 pl2 mx2 my2 ∧ inK ah ah2 fd pa mt ∧ inR (firstO cn (fun i => firstO cn (ppC shp pl NR PT i))) wh pl b wh2 pl2) 0 0 := by
  refine h_met (by decide) (Nat.le_of_ble_eq_true rfl) ?_
  intro p e s m below meth c ls R Q args hav hR hQ hB hl hsz hw
  obtain ⟨hx, hb, hml, hr, hts, hown, hlk, hin, hK⟩ := hB
  have hown : s.vm.findClass RX2 = some m.cls := hown
  have hl : lv_has ls 4 [(0, .ref ins), (1, .ref qa)] := hl
  refine lv_iconst (v := 0) hx hb dX2_inspectPairsOfParts_0 (by decide) ?_
  refine lv_istore_n (lv' := [(2, .int 0), (0, .ref ins), (1, .ref qa)]) hx hb dX2_inspectPairsOfParts_1 rfl hl (by decide) rfl (fun ls hl => ?_)
  have LP2 : ∀ (k2 : Nat) (i : Nat) (ls : Array Slot) (H2 : Heap) (L2 : List Loc), (cn - i < k2) → (i ≤ cn) → (∀ j, j < i → firstO cn (ppC shp pl NR PT j) = none) → lv_has ls 4 [(2, .int (nI i)), (0, .ref ins), (1, .ref qa)] → hW D ah s.heap ah H2 L2 → W p l e R s m args below meth c H2 L2 (0) (0) Q (F0 m 2 ls []) := by
    intro k2
    induction k2 with
    | zero => intro i ls H2 L2 hk; exact absurd hk (Nat.not_lt_zero _)
    | succ k2 ih2 =>
      intro i ls H2 L2 hk2 hi hpv hl hw
      refine lv_iload_n hx hb dX2_inspectPairsOfParts_2 rfl (lv_at hl 0 rfl) ?_
      refine lv_aload_n hx hb dX2_inspectPairsOfParts_3 rfl (lv_at hl 2 rfl) ?_
      refine h_alen hx hb hK hw 4 rfl hmp.1 dX2_inspectPairsOfParts_4 ?_
      refine lv_icmp_ge (tgt := 88) hx hb dX2_inspectPairsOfParts_5 (by decide) (fun c_1 => ?_) (fun c_1 => ?_)
      · skip
        have c_1 : cn ≤ i := (nI_lex (by rfl) (by rfl) (by omega) (by omega)).mp c_1
        rw [hQ]
        exact h_vret hx hb hr hlk hsz hw (by simp) (by simp) dX2_inspectPairsOfParts_88 ⟨false, _, _, _, _, rfl, ⟨hi9.1, hi9.2.1, hi9.2.2.1, hi9.2.2.2⟩, (fun a e9 h1 h2 h3 h4 => (by exact h1)), (by rw [show firstO cn (fun i => firstO cn (ppC shp pl NR PT i)) = none from firstO_none (fun j hj => hpv j (by omega))]; exact ⟨rfl, rfl, rfl⟩)⟩
      · skip
        have c_1 : ¬ (cn ≤ i) := (not_congr (nI_lex (by rfl) (by rfl) (by omega) (by omega))).mp c_1
        refine lv_iload_n hx hb dX2_inspectPairsOfParts_8 rfl (lv_at hl 0 rfl) ?_
        refine lv_iconst (v := 1) hx hb dX2_inspectPairsOfParts_9 (by decide) ?_
        refine lv_iadd hx hb dX2_inspectPairsOfParts_10 ?_
        refine lv_topi (fun t_2 et_2 => ?_)
        obtain rfl : t_2 = nI (i + 1) := et_2.trans (nI_c _ 1)
        refine lv_istore_n (lv' := [(3, .int (nI (i + 1))), (2, .int (nI i)), (0, .ref ins), (1, .ref qa)]) hx hb dX2_inspectPairsOfParts_11 rfl hl (by decide) rfl (fun ls hl => ?_)
        have LP12 : ∀ (k12 : Nat) (j : Nat) (ls : Array Slot) (H12 : Heap) (L12 : List Loc), (cn - j < k12) → (i + 1 ≤ j ∧ j ≤ cn) → (∀ k, k < j → ppC shp pl NR PT i k = none) → lv_has ls 4 [(3, .int (nI j)), (2, .int (nI i)), (0, .ref ins), (1, .ref qa)] → hW D ah s.heap ah H12 L12 → W p l e R s m args below meth c H12 L12 (0) (0) Q (F0 m 12 ls []) := by
          intro k12
          induction k12 with
          | zero => intro j ls H12 L12 hk; exact absurd hk (Nat.not_lt_zero _)
          | succ k12 ih12 =>
            intro j ls H12 L12 hk12 hj hpw hl hw
            refine lv_iload_n hx hb dX2_inspectPairsOfParts_12 rfl (lv_at hl 0 rfl) ?_
            refine lv_aload_n hx hb dX2_inspectPairsOfParts_13 rfl (lv_at hl 3 rfl) ?_
            refine h_alen hx hb hK hw 4 rfl hmp.1 dX2_inspectPairsOfParts_14 ?_
            refine lv_icmp_ge (tgt := 82) hx hb dX2_inspectPairsOfParts_15 (by decide) (fun c_3 => ?_) (fun c_3 => ?_)
            · skip
              have c_3 : cn ≤ j := (nI_lex (by rfl) (by rfl) (by omega) (by omega)).mp c_3
              refine lv_iinc (v := nI (i + 1)) (lv' := [(2, .int (nI (i + 1))), (3, .int (nI j)), (0, .ref ins), (1, .ref qa)]) hx hb dX2_inspectPairsOfParts_82 hl (k := 1) rfl (nI_c _ 1) (by decide) rfl (fun ls hl => ?_)
              refine lv_goto (tgt := 2) hx hb dX2_inspectPairsOfParts_85 (by decide) ?_
              exact ih2 (i + 1) ls _ _ (by omega) (by omega) (lt_o hpv (firstO_none (fun j hj => hpw j (by omega)))) (lv_sub hl [0, 2, 3] rfl) hw
            · skip
              have c_3 : ¬ (cn ≤ j) := (not_congr (nI_lex (by rfl) (by rfl) (by omega) (by omega))).mp c_3
              refine lv_aload_n hx hb dX2_inspectPairsOfParts_18 rfl (lv_at hl 3 rfl) ?_
              refine lv_iload_n hx hb dX2_inspectPairsOfParts_19 rfl (lv_at hl 1 rfl) ?_
              obtain ⟨hq_5_f, hq_5_g⟩ := hmp.2 i (by omega)
              refine h_aald hx hb hK hw 4 rfl hmp.1 i rfl (by omega) (by omega) hq_5_f dX2_inspectPairsOfParts_20 ?_
              refine lv_aload_n hx hb dX2_inspectPairsOfParts_21 rfl (lv_at hl 3 rfl) ?_
              refine lv_iload_n hx hb dX2_inspectPairsOfParts_22 rfl (lv_at hl 0 rfl) ?_
              obtain ⟨hq_6_f, hq_6_g⟩ := hmp.2 j (by omega)
              refine h_aald hx hb hK hw 4 rfl hmp.1 j rfl (by omega) (by omega) hq_6_f dX2_inspectPairsOfParts_23 ?_
              refine h_callV (n := 1) (ci := 4) (b := ((PT i).1)) (As := [.ref ((PT j).1)]) (rest := []) ⟨hx, hb, hml, hown, hts⟩ hK hw (c_X4_isInside l D dT ah H12.size (PT i).1 (PT i).2.1 (NR i) (PP i) (PT i).2.2.1 (PT i).2.2.2 hq_5_g (PT j).1 (PT j).2.1 (NR j) (PP j) (PT j).2.2.1 (PT j).2.2.2 hq_6_g) ko_X4_isInside km_X2_151 ki_X4_isInside ks_X4_isInside kn_X4 (by decide +kernel) rfl hq_5_g.1 rfl hl.1 rfl (by simp [Value.category]) dX2_inspectPairsOfParts_24 (by rw [hR]; exact ⟨rfl, rfl, Nat.le_of_ble_eq_true rfl, Nat.le_of_ble_eq_true rfl, by simp, by simp⟩) (fun r_7 ah_8 H_9 L_10 st_11 hp hw hst => ?_)
              obtain ⟨rfl, rfl⟩ := hp
              have hst : st_11 = [.int (bI (plIn (NR i) (PT i).2.2.2 (NR j) (PT j).2.2.2))] := hst
              subst hst
              refine lv_if_ne (tgt := 42) hx hb dX2_inspectPairsOfParts_27 (by decide) (fun c_12 => ?_) (fun c_12 => ?_)
              · skip
                have c_12 : ¬ (plIn (NR i) (PT i).2.2.2 (NR j) (PT j).2.2.2 = false) := (not_congr bI_0).mp c_12
                refine lv_aload_n hx hb dX2_inspectPairsOfParts_42 rfl (lv_at hl 2 rfl) ?_
                refine h_get (ci := 2) (v := .ref fd) (C := RX2) (T := TX2) (N := 4) hx hb hts kl_X2 hown hK hw hi9.1 rfl 1 (by decide) (hts _ kf_X2_15) rfl rfl dX2_inspectPairsOfParts_43 ?_
                refine lv_bipush (v := 11) hx hb dX2_inspectPairsOfParts_46 (by decide) ?_
                refine lv_aload_n hx hb dX2_inspectPairsOfParts_48 rfl (lv_at hl 2 rfl) ?_
                refine h_get (ci := 2) (v := .int shp) (C := RX2) (T := TX2) (N := 4) hx hb hts kl_X2 hown hK hw hi9.1 rfl 3 (by decide) (hts _ kf_X2_26) rfl rfl dX2_inspectPairsOfParts_49 ?_
                refine h_callV (n := 2) (ci := 1) (b := fd) (As := [.int 11, .int shp]) (rest := []) ⟨hx, hb, hml, hown, hts⟩ hK hw (c_X1_tell l D dT ah H_9.size fd pa wh pl hi9.2.1 hi9.2.2.1 11 shp) ko_X1_tell km_X2_77 ki_X1_tell ks_X1_tell kn_X1 (by decide +kernel) rfl hi9.2.1 rfl hl.1 rfl (by simp [Value.category]) dX2_inspectPairsOfParts_52 (by rw [hR]; exact ⟨rfl, rfl, Nat.le_of_ble_eq_true rfl, Nat.le_of_ble_eq_true rfl, by simp, by simp⟩) (fun r_13 ah_14 H_15 L_16 st_17 hp hw hst => ?_)
                obtain ⟨rfl, eah_14⟩ := hp
                obtain ⟨am_18, eam_18⟩ : ∃ z9 : hA, z9 = hup ah fd (.inr (1, [.int 11, .ref pa])) := ⟨_, rfl⟩
                rw [← eam_18] at eah_14
                have hc_19 := (show am_18 ins = _ from (by rw [eam_18]; exact hup_n (h_ne hi9.1 hi9.2.1 (by simp)))).trans hi9.1
                have hc_20 : am_18 fd = some (.inr (1, [.int 11, .ref pa])) := by rw [eam_18]; exact hup_s
                have hc_21 := (show am_18 pa = _ from (by rw [eam_18]; exact hup_n (h_ne hi9.2.2.1 hi9.2.1 (by simp)))).trans hi9.2.2.1
                have hc_22 := (show am_18 mt = _ from (by rw [eam_18]; exact hup_n (h_ne hi9.2.2.2 hi9.2.1 (by simp)))).trans hi9.2.2.2
                have hc_23 := (show am_18 qa = _ from (by rw [eam_18]; exact hup_n (h_ne hmp.1 hi9.2.1 (by simp)))).trans hmp.1
                have hc_24 := (show am_18 ((PT i).1) = _ from (by rw [eam_18]; exact hup_n (h_ne hq_5_g.1 hi9.2.1 (by simp)))).trans hq_5_g.1
                have hc_25 := (show am_18 ((PT j).1) = _ from (by rw [eam_18]; exact hup_n (h_ne hq_6_g.1 hi9.2.1 (by simp)))).trans hq_6_g.1
                have hc_26 := (show ah_14 ins = _ from (by rw [eah_14]; exact hup_n (h_ne hc_19 hc_21 (by simp)))).trans hc_19
                have hc_27 := (show ah_14 fd = _ from (by rw [eah_14]; exact hup_n (h_ne hc_20 hc_21 (by simp)))).trans hc_20
                have hc_28 : ah_14 pa = some (.inl (dT 0, 7, .inl (upd pl 0 shp))) := by rw [eah_14]; exact hup_s
                have hc_29 := (show ah_14 mt = _ from (by rw [eah_14]; exact hup_n (h_ne hc_22 hc_21 (by simp)))).trans hc_22
                have hc_30 := (show ah_14 qa = _ from (by rw [eah_14]; exact hup_n (h_ne hc_23 hc_21 (by simp)))).trans hc_23
                have hc_31 := (show ah_14 ((PT i).1) = _ from (by rw [eah_14]; exact hup_n (h_ne hc_24 hc_21 (by simp)))).trans hc_24
                have hc_32 := (show ah_14 ((PT j).1) = _ from (by rw [eah_14]; exact hup_n (h_ne hc_25 hc_21 (by simp)))).trans hc_25
                have hst : st_17 = [] := hst
                subst hst
                refine lv_aload_n hx hb dX2_inspectPairsOfParts_55 rfl (lv_at hl 2 rfl) ?_
                refine h_get (ci := 2) (v := .ref fd) (C := RX2) (T := TX2) (N := 4) hx hb hts kl_X2 hown hK hw hc_26 rfl 1 (by decide) (hts _ kf_X2_15) rfl rfl dX2_inspectPairsOfParts_56 ?_
                refine lv_iload_n hx hb dX2_inspectPairsOfParts_59 rfl (lv_at hl 1 rfl) ?_
                refine lv_iconst (v := (-1)) hx hb dX2_inspectPairsOfParts_60 (by decide) ?_
                refine lv_iconst (v := (-1)) hx hb dX2_inspectPairsOfParts_61 (by decide) ?_
                refine h_callV (n := 3) (ci := 1) (b := fd) (As := [.int (nI i), .int (-1), .int (-1)]) (rest := []) ⟨hx, hb, hml, hown, hts⟩ hK hw (c_X1_tellOne l D dT ah_14 H_15.size fd pa 11 (upd pl 0 shp) hc_27 hc_28 (nI i) (-1) (-1)) ko_X1_tellOne km_X2_95 ki_X1_tellOne ks_X1_tellOne kn_X1 (by decide +kernel) rfl hc_27 rfl hl.1 rfl (by simp [Value.category]) dX2_inspectPairsOfParts_62 (by rw [hR]; exact ⟨rfl, rfl, Nat.le_of_ble_eq_true rfl, Nat.le_of_ble_eq_true rfl, by simp, by simp⟩) (fun r_33 ah_34 H_35 L_36 st_37 hp hw hst => ?_)
                obtain ⟨rfl, eah_34⟩ := hp
                have hc_38 := (show ah_34 ins = _ from (by rw [eah_34]; exact hup_n (h_ne hc_26 hc_28 (by simp)))).trans hc_26
                have hc_39 := (show ah_34 fd = _ from (by rw [eah_34]; exact hup_n (h_ne hc_27 hc_28 (by simp)))).trans hc_27
                have hc_40 : ah_34 pa = some (.inl (dT 0, 7, .inl (upd (upd (upd (upd pl 0 shp) 1 (nI i)) 2 (-1)) 3 (-1)))) := by rw [eah_34]; exact hup_s
                have hc_41 := (show ah_34 mt = _ from (by rw [eah_34]; exact hup_n (h_ne hc_29 hc_28 (by simp)))).trans hc_29
                have hc_42 := (show ah_34 qa = _ from (by rw [eah_34]; exact hup_n (h_ne hc_30 hc_28 (by simp)))).trans hc_30
                have hc_43 := (show ah_34 ((PT i).1) = _ from (by rw [eah_34]; exact hup_n (h_ne hc_31 hc_28 (by simp)))).trans hc_31
                have hc_44 := (show ah_34 ((PT j).1) = _ from (by rw [eah_34]; exact hup_n (h_ne hc_32 hc_28 (by simp)))).trans hc_32
                have hst : st_37 = [] := hst
                subst hst
                refine lv_aload_n hx hb dX2_inspectPairsOfParts_65 rfl (lv_at hl 2 rfl) ?_
                refine h_get (ci := 2) (v := .ref fd) (C := RX2) (T := TX2) (N := 4) hx hb hts kl_X2 hown hK hw hc_38 rfl 1 (by decide) (hts _ kf_X2_15) rfl rfl dX2_inspectPairsOfParts_66 ?_
                refine lv_iload_n hx hb dX2_inspectPairsOfParts_69 rfl (lv_at hl 0 rfl) ?_
                refine lv_iconst (v := (-1)) hx hb dX2_inspectPairsOfParts_70 (by decide) ?_
                refine lv_iconst (v := (-1)) hx hb dX2_inspectPairsOfParts_71 (by decide) ?_
                refine h_callV (n := 3) (ci := 1) (b := fd) (As := [.int (nI j), .int (-1), .int (-1)]) (rest := []) ⟨hx, hb, hml, hown, hts⟩ hK hw (c_X1_tellOther l D dT ah_34 H_35.size fd pa 11 (upd (upd (upd (upd pl 0 shp) 1 (nI i)) 2 (-1)) 3 (-1)) hc_39 hc_40 (nI j) (-1) (-1)) ko_X1_tellOther km_X2_140 ki_X1_tellOther ks_X1_tellOther kn_X1 (by decide +kernel) rfl hc_39 rfl hl.1 rfl (by simp [Value.category]) dX2_inspectPairsOfParts_72 (by rw [hR]; exact ⟨rfl, rfl, Nat.le_of_ble_eq_true rfl, Nat.le_of_ble_eq_true rfl, by simp, by simp⟩) (fun r_45 ah_46 H_47 L_48 st_49 hp hw hst => ?_)
                obtain ⟨rfl, eah_46⟩ := hp
                have hc_50 := (show ah_46 ins = _ from (by rw [eah_46]; exact hup_n (h_ne hc_38 hc_40 (by simp)))).trans hc_38
                have hc_51 := (show ah_46 fd = _ from (by rw [eah_46]; exact hup_n (h_ne hc_39 hc_40 (by simp)))).trans hc_39
                have hc_52 : ah_46 pa = some (.inl (dT 0, 7, .inl (upd (upd (upd (upd (upd (upd (upd pl 0 shp) 1 (nI i)) 2 (-1)) 3 (-1)) 4 (nI j)) 5 (-1)) 6 (-1)))) := by rw [eah_46]; exact hup_s
                have hc_53 := (show ah_46 mt = _ from (by rw [eah_46]; exact hup_n (h_ne hc_41 hc_40 (by simp)))).trans hc_41
                have hc_54 := (show ah_46 qa = _ from (by rw [eah_46]; exact hup_n (h_ne hc_42 hc_40 (by simp)))).trans hc_42
                have hc_55 := (show ah_46 ((PT i).1) = _ from (by rw [eah_46]; exact hup_n (h_ne hc_43 hc_40 (by simp)))).trans hc_43
                have hc_56 := (show ah_46 ((PT j).1) = _ from (by rw [eah_46]; exact hup_n (h_ne hc_44 hc_40 (by simp)))).trans hc_44
                have hst : st_49 = [] := hst
                subst hst
                rw [hQ]
                exact h_vret hx hb hr hlk hsz hw (by simp) (by simp) dX2_inspectPairsOfParts_75 ⟨true, _, _, _, _, rfl, ⟨hc_50, hc_51, hc_52, hc_53⟩, (fun a e9 h1 h2 h3 h4 => (by have g9_0 : am_18 a = some e9 := (by rw [eam_18]; exact (hup_n h2).trans h1); have g9_1 : ah_14 a = some e9 := (by rw [eah_14]; exact (hup_n h3).trans g9_0); have g9_2 : ah_34 a = some e9 := (by rw [eah_34]; exact (hup_n h3).trans g9_1); have g9_3 : ah_46 a = some e9 := (by rw [eah_46]; exact (hup_n h3).trans g9_2); exact g9_3)), (by rw [show firstO cn (fun i => firstO cn (ppC shp pl NR PT i)) = some _ from firstO_some (i := i) (by omega) (firstO_some (i := j) (by omega) (ppC_s (by omega) (Or.inl c_12)) hpw) hpv]; exact ⟨rfl, rfl, rfl⟩)⟩
              · skip
                have c_12 : plIn (NR i) (PT i).2.2.2 (NR j) (PT j).2.2.2 = false := bI_0.mp c_12
                refine lv_aload_n hx hb dX2_inspectPairsOfParts_30 rfl (lv_at hl 3 rfl) ?_
                refine lv_iload_n hx hb dX2_inspectPairsOfParts_31 rfl (lv_at hl 0 rfl) ?_
                obtain ⟨hq_57_f, hq_57_g⟩ := hmp.2 j (by omega)
                refine h_aald hx hb hK hw 4 rfl hmp.1 j rfl (by omega) (by omega) hq_57_f dX2_inspectPairsOfParts_32 ?_
                refine lv_aload_n hx hb dX2_inspectPairsOfParts_33 rfl (lv_at hl 3 rfl) ?_
                refine lv_iload_n hx hb dX2_inspectPairsOfParts_34 rfl (lv_at hl 1 rfl) ?_
                obtain ⟨hq_58_f, hq_58_g⟩ := hmp.2 i (by omega)
                refine h_aald hx hb hK hw 4 rfl hmp.1 i rfl (by omega) (by omega) hq_58_f dX2_inspectPairsOfParts_35 ?_
                refine h_callV (n := 1) (ci := 4) (b := ((PT j).1)) (As := [.ref ((PT i).1)]) (rest := []) ⟨hx, hb, hml, hown, hts⟩ hK hw (c_X4_isInside l D dT ah H_9.size (PT j).1 (PT j).2.1 (NR j) (PP j) (PT j).2.2.1 (PT j).2.2.2 hq_57_g (PT i).1 (PT i).2.1 (NR i) (PP i) (PT i).2.2.1 (PT i).2.2.2 hq_58_g) ko_X4_isInside km_X2_151 ki_X4_isInside ks_X4_isInside kn_X4 (by decide +kernel) rfl hq_57_g.1 rfl hl.1 rfl (by simp [Value.category]) dX2_inspectPairsOfParts_36 (by rw [hR]; exact ⟨rfl, rfl, Nat.le_of_ble_eq_true rfl, Nat.le_of_ble_eq_true rfl, by simp, by simp⟩) (fun r_59 ah_60 H_61 L_62 st_63 hp hw hst => ?_)
                obtain ⟨rfl, rfl⟩ := hp
                have hst : st_63 = [.int (bI (plIn (NR j) (PT j).2.2.2 (NR i) (PT i).2.2.2))] := hst
                subst hst
                refine lv_if_eq (tgt := 76) hx hb dX2_inspectPairsOfParts_39 (by decide) (fun c_64 => ?_) (fun c_64 => ?_)
                · skip
                  have c_64 : plIn (NR j) (PT j).2.2.2 (NR i) (PT i).2.2.2 = false := bI_0.mp c_64
                  refine lv_iinc (v := nI (j + 1)) (lv' := [(3, .int (nI (j + 1))), (2, .int (nI i)), (0, .ref ins), (1, .ref qa)]) hx hb dX2_inspectPairsOfParts_76 hl (k := 0) rfl (nI_c _ 1) (by decide) rfl (fun ls hl => ?_)
                  refine lv_goto (tgt := 12) hx hb dX2_inspectPairsOfParts_79 (by decide) ?_
                  refine W.widen (k := 0) (n := 0) (by omega) (by omega) ?_
                  exact ih12 (j + 1) ls _ _ (by omega) (by omega) (lt_o hpw (ppC_n c_12 c_64)) (lv_sub hl [0, 1, 2, 3] rfl) hw
                · skip
                  have c_64 : ¬ (plIn (NR j) (PT j).2.2.2 (NR i) (PT i).2.2.2 = false) := (not_congr bI_0).mp c_64
                  refine lv_aload_n hx hb dX2_inspectPairsOfParts_42 rfl (lv_at hl 2 rfl) ?_
                  refine h_get (ci := 2) (v := .ref fd) (C := RX2) (T := TX2) (N := 4) hx hb hts kl_X2 hown hK hw hi9.1 rfl 1 (by decide) (hts _ kf_X2_15) rfl rfl dX2_inspectPairsOfParts_43 ?_
                  refine lv_bipush (v := 11) hx hb dX2_inspectPairsOfParts_46 (by decide) ?_
                  refine lv_aload_n hx hb dX2_inspectPairsOfParts_48 rfl (lv_at hl 2 rfl) ?_
                  refine h_get (ci := 2) (v := .int shp) (C := RX2) (T := TX2) (N := 4) hx hb hts kl_X2 hown hK hw hi9.1 rfl 3 (by decide) (hts _ kf_X2_26) rfl rfl dX2_inspectPairsOfParts_49 ?_
                  refine h_callV (n := 2) (ci := 1) (b := fd) (As := [.int 11, .int shp]) (rest := []) ⟨hx, hb, hml, hown, hts⟩ hK hw (c_X1_tell l D dT ah H_61.size fd pa wh pl hi9.2.1 hi9.2.2.1 11 shp) ko_X1_tell km_X2_77 ki_X1_tell ks_X1_tell kn_X1 (by decide +kernel) rfl hi9.2.1 rfl hl.1 rfl (by simp [Value.category]) dX2_inspectPairsOfParts_52 (by rw [hR]; exact ⟨rfl, rfl, Nat.le_of_ble_eq_true rfl, Nat.le_of_ble_eq_true rfl, by simp, by simp⟩) (fun r_66 ah_67 H_68 L_69 st_70 hp hw hst => ?_)
                  obtain ⟨rfl, eah_67⟩ := hp
                  obtain ⟨am_71, eam_71⟩ : ∃ z9 : hA, z9 = hup ah fd (.inr (1, [.int 11, .ref pa])) := ⟨_, rfl⟩
                  rw [← eam_71] at eah_67
                  have hc_72 := (show am_71 ins = _ from (by rw [eam_71]; exact hup_n (h_ne hi9.1 hi9.2.1 (by simp)))).trans hi9.1
                  have hc_73 : am_71 fd = some (.inr (1, [.int 11, .ref pa])) := by rw [eam_71]; exact hup_s
                  have hc_74 := (show am_71 pa = _ from (by rw [eam_71]; exact hup_n (h_ne hi9.2.2.1 hi9.2.1 (by simp)))).trans hi9.2.2.1
                  have hc_75 := (show am_71 mt = _ from (by rw [eam_71]; exact hup_n (h_ne hi9.2.2.2 hi9.2.1 (by simp)))).trans hi9.2.2.2
                  have hc_76 := (show am_71 qa = _ from (by rw [eam_71]; exact hup_n (h_ne hmp.1 hi9.2.1 (by simp)))).trans hmp.1
                  have hc_77 := (show am_71 ((PT i).1) = _ from (by rw [eam_71]; exact hup_n (h_ne hq_58_g.1 hi9.2.1 (by simp)))).trans hq_58_g.1
                  have hc_78 := (show am_71 ((PT j).1) = _ from (by rw [eam_71]; exact hup_n (h_ne hq_57_g.1 hi9.2.1 (by simp)))).trans hq_57_g.1
                  have hc_79 := (show ah_67 ins = _ from (by rw [eah_67]; exact hup_n (h_ne hc_72 hc_74 (by simp)))).trans hc_72
                  have hc_80 := (show ah_67 fd = _ from (by rw [eah_67]; exact hup_n (h_ne hc_73 hc_74 (by simp)))).trans hc_73
                  have hc_81 : ah_67 pa = some (.inl (dT 0, 7, .inl (upd pl 0 shp))) := by rw [eah_67]; exact hup_s
                  have hc_82 := (show ah_67 mt = _ from (by rw [eah_67]; exact hup_n (h_ne hc_75 hc_74 (by simp)))).trans hc_75
                  have hc_83 := (show ah_67 qa = _ from (by rw [eah_67]; exact hup_n (h_ne hc_76 hc_74 (by simp)))).trans hc_76
                  have hc_84 := (show ah_67 ((PT i).1) = _ from (by rw [eah_67]; exact hup_n (h_ne hc_77 hc_74 (by simp)))).trans hc_77
                  have hc_85 := (show ah_67 ((PT j).1) = _ from (by rw [eah_67]; exact hup_n (h_ne hc_78 hc_74 (by simp)))).trans hc_78
                  have hst : st_70 = [] := hst
                  subst hst
                  refine lv_aload_n hx hb dX2_inspectPairsOfParts_55 rfl (lv_at hl 2 rfl) ?_
                  refine h_get (ci := 2) (v := .ref fd) (C := RX2) (T := TX2) (N := 4) hx hb hts kl_X2 hown hK hw hc_79 rfl 1 (by decide) (hts _ kf_X2_15) rfl rfl dX2_inspectPairsOfParts_56 ?_
                  refine lv_iload_n hx hb dX2_inspectPairsOfParts_59 rfl (lv_at hl 1 rfl) ?_
                  refine lv_iconst (v := (-1)) hx hb dX2_inspectPairsOfParts_60 (by decide) ?_
                  refine lv_iconst (v := (-1)) hx hb dX2_inspectPairsOfParts_61 (by decide) ?_
                  refine h_callV (n := 3) (ci := 1) (b := fd) (As := [.int (nI i), .int (-1), .int (-1)]) (rest := []) ⟨hx, hb, hml, hown, hts⟩ hK hw (c_X1_tellOne l D dT ah_67 H_68.size fd pa 11 (upd pl 0 shp) hc_80 hc_81 (nI i) (-1) (-1)) ko_X1_tellOne km_X2_95 ki_X1_tellOne ks_X1_tellOne kn_X1 (by decide +kernel) rfl hc_80 rfl hl.1 rfl (by simp [Value.category]) dX2_inspectPairsOfParts_62 (by rw [hR]; exact ⟨rfl, rfl, Nat.le_of_ble_eq_true rfl, Nat.le_of_ble_eq_true rfl, by simp, by simp⟩) (fun r_86 ah_87 H_88 L_89 st_90 hp hw hst => ?_)
                  obtain ⟨rfl, eah_87⟩ := hp
                  have hc_91 := (show ah_87 ins = _ from (by rw [eah_87]; exact hup_n (h_ne hc_79 hc_81 (by simp)))).trans hc_79
                  have hc_92 := (show ah_87 fd = _ from (by rw [eah_87]; exact hup_n (h_ne hc_80 hc_81 (by simp)))).trans hc_80
                  have hc_93 : ah_87 pa = some (.inl (dT 0, 7, .inl (upd (upd (upd (upd pl 0 shp) 1 (nI i)) 2 (-1)) 3 (-1)))) := by rw [eah_87]; exact hup_s
                  have hc_94 := (show ah_87 mt = _ from (by rw [eah_87]; exact hup_n (h_ne hc_82 hc_81 (by simp)))).trans hc_82
                  have hc_95 := (show ah_87 qa = _ from (by rw [eah_87]; exact hup_n (h_ne hc_83 hc_81 (by simp)))).trans hc_83
                  have hc_96 := (show ah_87 ((PT i).1) = _ from (by rw [eah_87]; exact hup_n (h_ne hc_84 hc_81 (by simp)))).trans hc_84
                  have hc_97 := (show ah_87 ((PT j).1) = _ from (by rw [eah_87]; exact hup_n (h_ne hc_85 hc_81 (by simp)))).trans hc_85
                  have hst : st_90 = [] := hst
                  subst hst
                  refine lv_aload_n hx hb dX2_inspectPairsOfParts_65 rfl (lv_at hl 2 rfl) ?_
                  refine h_get (ci := 2) (v := .ref fd) (C := RX2) (T := TX2) (N := 4) hx hb hts kl_X2 hown hK hw hc_91 rfl 1 (by decide) (hts _ kf_X2_15) rfl rfl dX2_inspectPairsOfParts_66 ?_
                  refine lv_iload_n hx hb dX2_inspectPairsOfParts_69 rfl (lv_at hl 0 rfl) ?_
                  refine lv_iconst (v := (-1)) hx hb dX2_inspectPairsOfParts_70 (by decide) ?_
                  refine lv_iconst (v := (-1)) hx hb dX2_inspectPairsOfParts_71 (by decide) ?_
                  refine h_callV (n := 3) (ci := 1) (b := fd) (As := [.int (nI j), .int (-1), .int (-1)]) (rest := []) ⟨hx, hb, hml, hown, hts⟩ hK hw (c_X1_tellOther l D dT ah_87 H_88.size fd pa 11 (upd (upd (upd (upd pl 0 shp) 1 (nI i)) 2 (-1)) 3 (-1)) hc_92 hc_93 (nI j) (-1) (-1)) ko_X1_tellOther km_X2_140 ki_X1_tellOther ks_X1_tellOther kn_X1 (by decide +kernel) rfl hc_92 rfl hl.1 rfl (by simp [Value.category]) dX2_inspectPairsOfParts_72 (by rw [hR]; exact ⟨rfl, rfl, Nat.le_of_ble_eq_true rfl, Nat.le_of_ble_eq_true rfl, by simp, by simp⟩) (fun r_98 ah_99 H_100 L_101 st_102 hp hw hst => ?_)
                  obtain ⟨rfl, eah_99⟩ := hp
                  have hc_103 := (show ah_99 ins = _ from (by rw [eah_99]; exact hup_n (h_ne hc_91 hc_93 (by simp)))).trans hc_91
                  have hc_104 := (show ah_99 fd = _ from (by rw [eah_99]; exact hup_n (h_ne hc_92 hc_93 (by simp)))).trans hc_92
                  have hc_105 : ah_99 pa = some (.inl (dT 0, 7, .inl (upd (upd (upd (upd (upd (upd (upd pl 0 shp) 1 (nI i)) 2 (-1)) 3 (-1)) 4 (nI j)) 5 (-1)) 6 (-1)))) := by rw [eah_99]; exact hup_s
                  have hc_106 := (show ah_99 mt = _ from (by rw [eah_99]; exact hup_n (h_ne hc_94 hc_93 (by simp)))).trans hc_94
                  have hc_107 := (show ah_99 qa = _ from (by rw [eah_99]; exact hup_n (h_ne hc_95 hc_93 (by simp)))).trans hc_95
                  have hc_108 := (show ah_99 ((PT i).1) = _ from (by rw [eah_99]; exact hup_n (h_ne hc_96 hc_93 (by simp)))).trans hc_96
                  have hc_109 := (show ah_99 ((PT j).1) = _ from (by rw [eah_99]; exact hup_n (h_ne hc_97 hc_93 (by simp)))).trans hc_97
                  have hst : st_102 = [] := hst
                  subst hst
                  rw [hQ]
                  exact h_vret hx hb hr hlk hsz hw (by simp) (by simp) dX2_inspectPairsOfParts_75 ⟨true, _, _, _, _, rfl, ⟨hc_103, hc_104, hc_105, hc_106⟩, (fun a e9 h1 h2 h3 h4 => (by have g9_0 : am_71 a = some e9 := (by rw [eam_71]; exact (hup_n h2).trans h1); have g9_1 : ah_67 a = some e9 := (by rw [eah_67]; exact (hup_n h3).trans g9_0); have g9_2 : ah_87 a = some e9 := (by rw [eah_87]; exact (hup_n h3).trans g9_1); have g9_3 : ah_99 a = some e9 := (by rw [eah_99]; exact (hup_n h3).trans g9_2); exact g9_3)), (by rw [show firstO cn (fun i => firstO cn (ppC shp pl NR PT i)) = some _ from firstO_some (i := i) (by omega) (firstO_some (i := j) (by omega) (ppC_s (by omega) (Or.inr c_64)) hpw) hpv]; exact ⟨rfl, rfl, rfl⟩)⟩
        exact LP12 ((cn - (i + 1)) + 1) (i + 1) ls _ _ (Nat.lt_succ_self _) (by omega) (fun k hk => ppC_l (by omega)) (lv_sub hl [0, 1, 2, 3] rfl) hw
  exact LP2 ((cn - 0) + 1) 0 ls _ _ (Nat.lt_succ_self _) (by omega) (fun j hj => absurd hj (Nat.not_lt_zero _)) (lv_sub hl [0, 1, 2] rfl) hw

set_option maxHeartbeats 4000000 in
set_option maxRecDepth 100000 in
theorem c_X2_tellSegments (l : Launch) (D : va_G) (dT : Nat → ClassId) (ah : hA) (sz : Nat) (ins sh fd pa mt : Nat) (shp wh : Int32) (pl : Nat → Int32) (mx my : Int32) (hi9 : inA dT ah ins sh fd pa mt shp wh pl mx my) (x : Int32) (t u : rgT) (i j : Nat) (ht : rgA dT ah t) (hu : rgA dT ah u) (ht2 : 2 ≤ t.1 4) (hu2 : 2 ≤ u.1 4) (hi : i < t.1 4) (hj : j < u.1 4) : hMet l yX2_tellSegments cX2_tellSegments 5 none ({ frames := 2, cells := 0, slots := 0, locals := 47 }) D dT [.ref ins, .int x, .ref (tG t i), .ref (tG u j)] ah sz (fun r ah2 => r = none ∧ inA dT ah2 ins sh fd pa mt shp (tellC x (t.2.1 0) (u.2.1 0)) (p2 (p1 (upd pl 0 shp) (t.2.1 0) (t.2.1 1) (tS t i 0)) (u.2.1 0) (u.2.1 1) (tS u j 0)) mx my ∧ inK ah ah2 fd pa mt) 0 0 := by
  refine h_met (by decide) (Nat.le_of_ble_eq_true rfl) ?_
  intro p e s m below meth c ls R Q args hav hR hQ hB hl hsz hw
  obtain ⟨hx, hb, hml, hr, hts, hown, hlk, hin, hK⟩ := hB
  have hown : s.vm.findClass RX2 = some m.cls := hown
  have hl : lv_has ls 5 [(0, .ref ins), (1, .int x), (2, .ref (tG t i)), (3, .ref (tG u j))] := hl
  obtain ⟨hs_1_g, hs_1_b⟩ := rgA_sg ht ht2 (i := i) (by omega)
  obtain ⟨hs_2_g, hs_2_b⟩ := rgA_sg hu hu2 (i := j) (by omega)
  refine lv_iload_n hx hb dX2_tellSegments_0 rfl (lv_at hl 1 rfl) ?_
  refine lv_istore (lv' := [(4, .int x), (0, .ref ins), (1, .int x), (2, .ref (tG t i)), (3, .ref (tG u j))]) hx hb dX2_tellSegments_1 hl (by decide) rfl (fun ls hl => ?_)
  refine lv_aload_n hx hb dX2_tellSegments_3 rfl (lv_at hl 3 rfl) ?_
  refine h_getN (ci := 7) (v := .ref (t.1 0)) (C := RX7) (T := TX7) (N := 8) hx hb hts kl_X7 hown hK hw hs_1_g rfl 0 (by decide) (va_Nw.use rfl (hK.2.1 _ (List.mem_of_getElem? (i := 17) rfl))) rfl rfl dX2_tellSegments_4 ?_
  refine h_getN (ci := 5) (v := .int (t.2.1 0)) (C := RX5) (T := TX5) (N := 7) hx hb hts kl_X5 hown hK hw ht.1 rfl 0 (by decide) (va_Nw.use rfl (hK.2.1 _ (List.mem_of_getElem? (i := 4) rfl))) rfl rfl dX2_tellSegments_7 ?_
  refine lv_aload_n hx hb dX2_tellSegments_10 rfl (lv_at hl 4 rfl) ?_
  refine h_getN (ci := 7) (v := .ref (u.1 0)) (C := RX7) (T := TX7) (N := 8) hx hb hts kl_X7 hown hK hw hs_2_g rfl 0 (by decide) (va_Nw.use rfl (hK.2.1 _ (List.mem_of_getElem? (i := 17) rfl))) rfl rfl dX2_tellSegments_11 ?_
  refine h_getN (ci := 5) (v := .int (u.2.1 0)) (C := RX5) (T := TX5) (N := 7) hx hb hts kl_X5 hown hK hw hu.1 rfl 0 (by decide) (va_Nw.use rfl (hK.2.1 _ (List.mem_of_getElem? (i := 4) rfl))) rfl rfl dX2_tellSegments_14 ?_
  have J_6 : ∀ (v_5 : Int32) (ls : Array Slot), lv_has ls 5 [(4, .int v_5), (0, .ref ins), (1, .int x), (2, .ref (tG t i)), (3, .ref (tG u j))] → v_5 = (if t.2.1 0 = u.2.1 0 then x else (if x = 3 then 9 else 10)) → W p l e R s m args below meth c s.heap [] (0) (0) Q (F0 m 34 ls []) := by
    intro v_5 ls hl ev_5
    refine lv_aload_n hx hb dX2_tellSegments_34 rfl (lv_at hl 1 rfl) ?_
    refine h_get (ci := 2) (v := .ref fd) (C := RX2) (T := TX2) (N := 4) hx hb hts kl_X2 hown hK hw hi9.1 rfl 1 (by decide) (hts _ kf_X2_15) rfl rfl dX2_tellSegments_35 ?_
    refine lv_iload hx hb dX2_tellSegments_38 (lv_at hl 0 rfl) ?_
    refine lv_aload_n hx hb dX2_tellSegments_40 rfl (lv_at hl 1 rfl) ?_
    refine h_get (ci := 2) (v := .int shp) (C := RX2) (T := TX2) (N := 4) hx hb hts kl_X2 hown hK hw hi9.1 rfl 3 (by decide) (hts _ kf_X2_26) rfl rfl dX2_tellSegments_41 ?_
    refine h_callV (n := 2) (ci := 1) (b := fd) (As := [.int v_5, .int shp]) (rest := []) ⟨hx, hb, hml, hown, hts⟩ hK hw (c_X1_tell l D dT ah s.heap.size fd pa wh pl hi9.2.1 hi9.2.2.1 v_5 shp) ko_X1_tell km_X2_77 ki_X1_tell ks_X1_tell kn_X1 (by decide +kernel) rfl hi9.2.1 rfl hl.1 rfl (by simp [Value.category]) dX2_tellSegments_44 (by rw [hR]; exact ⟨rfl, rfl, Nat.le_of_ble_eq_true rfl, Nat.le_of_ble_eq_true rfl, by simp, by simp⟩) (fun r_7 ah_8 H_9 L_10 st_11 hp hw hst => ?_)
    obtain ⟨rfl, eah_8⟩ := hp
    obtain ⟨am_12, eam_12⟩ : ∃ z9 : hA, z9 = hup ah fd (.inr (1, [.int v_5, .ref pa])) := ⟨_, rfl⟩
    rw [← eam_12] at eah_8
    have hc_13 := (show am_12 ins = _ from (by rw [eam_12]; exact hup_n (h_ne hi9.1 hi9.2.1 (by simp)))).trans hi9.1
    have hc_14 : am_12 fd = some (.inr (1, [.int v_5, .ref pa])) := by rw [eam_12]; exact hup_s
    have hc_15 := (show am_12 pa = _ from (by rw [eam_12]; exact hup_n (h_ne hi9.2.2.1 hi9.2.1 (by simp)))).trans hi9.2.2.1
    have hc_16 := (show am_12 mt = _ from (by rw [eam_12]; exact hup_n (h_ne hi9.2.2.2 hi9.2.1 (by simp)))).trans hi9.2.2.2
    have hc_17 := (show am_12 (tG t i) = _ from (by rw [eam_12]; exact hup_n (h_ne hs_1_g hi9.2.1 (by simp)))).trans hs_1_g
    have hc_18 := (show am_12 (tB t i) = _ from (by rw [eam_12]; exact hup_n (h_ne hs_1_b hi9.2.1 (by simp)))).trans hs_1_b
    have hc_19 := (show am_12 (tG u j) = _ from (by rw [eam_12]; exact hup_n (h_ne hs_2_g hi9.2.1 (by simp)))).trans hs_2_g
    have hc_20 := (show am_12 (tB u j) = _ from (by rw [eam_12]; exact hup_n (h_ne hs_2_b hi9.2.1 (by simp)))).trans hs_2_b
    have hc_21 := (show am_12 (t.1 0) = _ from (by rw [eam_12]; exact hup_n (h_ne ht.1 hi9.2.1 (by simp)))).trans ht.1
    have hc_22 := (show am_12 (t.1 1) = _ from (by rw [eam_12]; exact hup_n (h_ne ht.2.1 hi9.2.1 (by simp)))).trans ht.2.1
    have hc_23 := (show am_12 (t.1 2) = _ from (by rw [eam_12]; exact hup_n (h_ne ht.2.2.1 hi9.2.1 (by simp)))).trans ht.2.2.1
    have hc_24 := (show am_12 (u.1 0) = _ from (by rw [eam_12]; exact hup_n (h_ne hu.1 hi9.2.1 (by simp)))).trans hu.1
    have hc_25 := (show am_12 (u.1 1) = _ from (by rw [eam_12]; exact hup_n (h_ne hu.2.1 hi9.2.1 (by simp)))).trans hu.2.1
    have hc_26 := (show am_12 (u.1 2) = _ from (by rw [eam_12]; exact hup_n (h_ne hu.2.2.1 hi9.2.1 (by simp)))).trans hu.2.2.1
    have hc_27 := (show ah_8 ins = _ from (by rw [eah_8]; exact hup_n (h_ne hc_13 hc_15 (by simp)))).trans hc_13
    have hc_28 := (show ah_8 fd = _ from (by rw [eah_8]; exact hup_n (h_ne hc_14 hc_15 (by simp)))).trans hc_14
    have hc_29 : ah_8 pa = some (.inl (dT 0, 7, .inl (upd pl 0 shp))) := by rw [eah_8]; exact hup_s
    have hc_30 := (show ah_8 mt = _ from (by rw [eah_8]; exact hup_n (h_ne hc_16 hc_15 (by simp)))).trans hc_16
    have hc_31 := (show ah_8 (tG t i) = _ from (by rw [eah_8]; exact hup_n (h_ne hc_17 hc_15 (by simp)))).trans hc_17
    have hc_32 := (show ah_8 (tB t i) = _ from (by rw [eah_8]; exact hup_n (h_ne hc_18 hc_15 (by simp)))).trans hc_18
    have hc_33 := (show ah_8 (tG u j) = _ from (by rw [eah_8]; exact hup_n (h_ne hc_19 hc_15 (by simp)))).trans hc_19
    have hc_34 := (show ah_8 (tB u j) = _ from (by rw [eah_8]; exact hup_n (h_ne hc_20 hc_15 (by simp)))).trans hc_20
    have hc_35 := (show ah_8 (t.1 0) = _ from (by rw [eah_8]; exact hup_n (h_ne hc_21 hc_15 (by simp)))).trans hc_21
    have hc_36 := (show ah_8 (t.1 1) = _ from (by rw [eah_8]; exact hup_n (h_ne hc_22 hc_15 (by simp)))).trans hc_22
    have hc_37 := (show ah_8 (t.1 2) = _ from (by rw [eah_8]; exact hup_n (h_ne hc_23 hc_15 (by simp)))).trans hc_23
    have hc_38 := (show ah_8 (u.1 0) = _ from (by rw [eah_8]; exact hup_n (h_ne hc_24 hc_15 (by simp)))).trans hc_24
    have hc_39 := (show ah_8 (u.1 1) = _ from (by rw [eah_8]; exact hup_n (h_ne hc_25 hc_15 (by simp)))).trans hc_25
    have hc_40 := (show ah_8 (u.1 2) = _ from (by rw [eah_8]; exact hup_n (h_ne hc_26 hc_15 (by simp)))).trans hc_26
    have hst : st_11 = [] := hst
    subst hst
    refine lv_aload_n hx hb dX2_tellSegments_47 rfl (lv_at hl 1 rfl) ?_
    refine h_get (ci := 2) (v := .ref fd) (C := RX2) (T := TX2) (N := 4) hx hb hts kl_X2 hown hK hw hc_27 rfl 1 (by decide) (hts _ kf_X2_15) rfl rfl dX2_tellSegments_48 ?_
    refine lv_aload_n hx hb dX2_tellSegments_51 rfl (lv_at hl 3 rfl) ?_
    refine h_getN (ci := 7) (v := .ref (t.1 0)) (C := RX7) (T := TX7) (N := 8) hx hb hts kl_X7 hown hK hw hc_31 rfl 0 (by decide) (va_Nw.use rfl (hK.2.1 _ (List.mem_of_getElem? (i := 17) rfl))) rfl rfl dX2_tellSegments_52 ?_
    refine h_getN (ci := 5) (v := .int (t.2.1 0)) (C := RX5) (T := TX5) (N := 7) hx hb hts kl_X5 hown hK hw hc_35 rfl 0 (by decide) (va_Nw.use rfl (hK.2.1 _ (List.mem_of_getElem? (i := 4) rfl))) rfl rfl dX2_tellSegments_55 ?_
    refine lv_aload_n hx hb dX2_tellSegments_58 rfl (lv_at hl 3 rfl) ?_
    refine h_getN (ci := 7) (v := .ref (t.1 0)) (C := RX7) (T := TX7) (N := 8) hx hb hts kl_X7 hown hK hw hc_31 rfl 0 (by decide) (va_Nw.use rfl (hK.2.1 _ (List.mem_of_getElem? (i := 17) rfl))) rfl rfl dX2_tellSegments_59 ?_
    refine h_getN (ci := 5) (v := .int (t.2.1 1)) (C := RX5) (T := TX5) (N := 7) hx hb hts kl_X5 hown hK hw hc_35 rfl 1 (by decide) (va_Nw.use rfl (hK.2.1 _ (List.mem_of_getElem? (i := 5) rfl))) rfl rfl dX2_tellSegments_62 ?_
    refine lv_aload_n hx hb dX2_tellSegments_65 rfl (lv_at hl 3 rfl) ?_
    refine h_getN (ci := 7) (v := .int (tS t i 0)) (C := RX7) (T := TX7) (N := 8) hx hb hts kl_X7 hown hK hw hc_31 rfl 1 (by decide) (va_Nw.use rfl (hK.2.1 _ (List.mem_of_getElem? (i := 18) rfl))) rfl rfl dX2_tellSegments_66 ?_
    refine h_callV (n := 3) (ci := 1) (b := fd) (As := [.int (t.2.1 0), .int (t.2.1 1), .int (tS t i 0)]) (rest := []) ⟨hx, hb, hml, hown, hts⟩ hK hw (c_X1_tellOne l D dT ah_8 H_9.size fd pa v_5 (upd pl 0 shp) hc_28 hc_29 (t.2.1 0) (t.2.1 1) (tS t i 0)) ko_X1_tellOne km_X2_95 ki_X1_tellOne ks_X1_tellOne kn_X1 (by decide +kernel) rfl hc_28 rfl hl.1 rfl (by simp [Value.category]) dX2_tellSegments_69 (by rw [hR]; exact ⟨rfl, rfl, Nat.le_of_ble_eq_true rfl, Nat.le_of_ble_eq_true rfl, by simp, by simp⟩) (fun r_41 ah_42 H_43 L_44 st_45 hp hw hst => ?_)
    obtain ⟨rfl, eah_42⟩ := hp
    have hc_46 := (show ah_42 ins = _ from (by rw [eah_42]; exact hup_n (h_ne hc_27 hc_29 (by simp)))).trans hc_27
    have hc_47 := (show ah_42 fd = _ from (by rw [eah_42]; exact hup_n (h_ne hc_28 hc_29 (by simp)))).trans hc_28
    have hc_48 : ah_42 pa = some (.inl (dT 0, 7, .inl (upd (upd (upd (upd pl 0 shp) 1 (t.2.1 0)) 2 (t.2.1 1)) 3 (tS t i 0)))) := by rw [eah_42]; exact hup_s
    have hc_49 := (show ah_42 mt = _ from (by rw [eah_42]; exact hup_n (h_ne hc_30 hc_29 (by simp)))).trans hc_30
    have hc_50 := (show ah_42 (tG t i) = _ from (by rw [eah_42]; exact hup_n (h_ne hc_31 hc_29 (by simp)))).trans hc_31
    have hc_51 := (show ah_42 (tB t i) = _ from (by rw [eah_42]; exact hup_n (h_ne hc_32 hc_29 (by simp)))).trans hc_32
    have hc_52 := (show ah_42 (tG u j) = _ from (by rw [eah_42]; exact hup_n (h_ne hc_33 hc_29 (by simp)))).trans hc_33
    have hc_53 := (show ah_42 (tB u j) = _ from (by rw [eah_42]; exact hup_n (h_ne hc_34 hc_29 (by simp)))).trans hc_34
    have hc_54 := (show ah_42 (t.1 0) = _ from (by rw [eah_42]; exact hup_n (h_ne hc_35 hc_29 (by simp)))).trans hc_35
    have hc_55 := (show ah_42 (t.1 1) = _ from (by rw [eah_42]; exact hup_n (h_ne hc_36 hc_29 (by simp)))).trans hc_36
    have hc_56 := (show ah_42 (t.1 2) = _ from (by rw [eah_42]; exact hup_n (h_ne hc_37 hc_29 (by simp)))).trans hc_37
    have hc_57 := (show ah_42 (u.1 0) = _ from (by rw [eah_42]; exact hup_n (h_ne hc_38 hc_29 (by simp)))).trans hc_38
    have hc_58 := (show ah_42 (u.1 1) = _ from (by rw [eah_42]; exact hup_n (h_ne hc_39 hc_29 (by simp)))).trans hc_39
    have hc_59 := (show ah_42 (u.1 2) = _ from (by rw [eah_42]; exact hup_n (h_ne hc_40 hc_29 (by simp)))).trans hc_40
    have hst : st_45 = [] := hst
    subst hst
    refine lv_aload_n hx hb dX2_tellSegments_72 rfl (lv_at hl 1 rfl) ?_
    refine h_get (ci := 2) (v := .ref fd) (C := RX2) (T := TX2) (N := 4) hx hb hts kl_X2 hown hK hw hc_46 rfl 1 (by decide) (hts _ kf_X2_15) rfl rfl dX2_tellSegments_73 ?_
    refine lv_aload_n hx hb dX2_tellSegments_76 rfl (lv_at hl 4 rfl) ?_
    refine h_getN (ci := 7) (v := .ref (u.1 0)) (C := RX7) (T := TX7) (N := 8) hx hb hts kl_X7 hown hK hw hc_52 rfl 0 (by decide) (va_Nw.use rfl (hK.2.1 _ (List.mem_of_getElem? (i := 17) rfl))) rfl rfl dX2_tellSegments_77 ?_
    refine h_getN (ci := 5) (v := .int (u.2.1 0)) (C := RX5) (T := TX5) (N := 7) hx hb hts kl_X5 hown hK hw hc_57 rfl 0 (by decide) (va_Nw.use rfl (hK.2.1 _ (List.mem_of_getElem? (i := 4) rfl))) rfl rfl dX2_tellSegments_80 ?_
    refine lv_aload_n hx hb dX2_tellSegments_83 rfl (lv_at hl 4 rfl) ?_
    refine h_getN (ci := 7) (v := .ref (u.1 0)) (C := RX7) (T := TX7) (N := 8) hx hb hts kl_X7 hown hK hw hc_52 rfl 0 (by decide) (va_Nw.use rfl (hK.2.1 _ (List.mem_of_getElem? (i := 17) rfl))) rfl rfl dX2_tellSegments_84 ?_
    refine h_getN (ci := 5) (v := .int (u.2.1 1)) (C := RX5) (T := TX5) (N := 7) hx hb hts kl_X5 hown hK hw hc_57 rfl 1 (by decide) (va_Nw.use rfl (hK.2.1 _ (List.mem_of_getElem? (i := 5) rfl))) rfl rfl dX2_tellSegments_87 ?_
    refine lv_aload_n hx hb dX2_tellSegments_90 rfl (lv_at hl 4 rfl) ?_
    refine h_getN (ci := 7) (v := .int (tS u j 0)) (C := RX7) (T := TX7) (N := 8) hx hb hts kl_X7 hown hK hw hc_52 rfl 1 (by decide) (va_Nw.use rfl (hK.2.1 _ (List.mem_of_getElem? (i := 18) rfl))) rfl rfl dX2_tellSegments_91 ?_
    refine h_callV (n := 3) (ci := 1) (b := fd) (As := [.int (u.2.1 0), .int (u.2.1 1), .int (tS u j 0)]) (rest := []) ⟨hx, hb, hml, hown, hts⟩ hK hw (c_X1_tellOther l D dT ah_42 H_43.size fd pa v_5 (upd (upd (upd (upd pl 0 shp) 1 (t.2.1 0)) 2 (t.2.1 1)) 3 (tS t i 0)) hc_47 hc_48 (u.2.1 0) (u.2.1 1) (tS u j 0)) ko_X1_tellOther km_X2_140 ki_X1_tellOther ks_X1_tellOther kn_X1 (by decide +kernel) rfl hc_47 rfl hl.1 rfl (by simp [Value.category]) dX2_tellSegments_94 (by rw [hR]; exact ⟨rfl, rfl, Nat.le_of_ble_eq_true rfl, Nat.le_of_ble_eq_true rfl, by simp, by simp⟩) (fun r_60 ah_61 H_62 L_63 st_64 hp hw hst => ?_)
    obtain ⟨rfl, eah_61⟩ := hp
    have hc_65 := (show ah_61 ins = _ from (by rw [eah_61]; exact hup_n (h_ne hc_46 hc_48 (by simp)))).trans hc_46
    have hc_66 := (show ah_61 fd = _ from (by rw [eah_61]; exact hup_n (h_ne hc_47 hc_48 (by simp)))).trans hc_47
    have hc_67 : ah_61 pa = some (.inl (dT 0, 7, .inl (upd (upd (upd (upd (upd (upd (upd pl 0 shp) 1 (t.2.1 0)) 2 (t.2.1 1)) 3 (tS t i 0)) 4 (u.2.1 0)) 5 (u.2.1 1)) 6 (tS u j 0)))) := by rw [eah_61]; exact hup_s
    have hc_68 := (show ah_61 mt = _ from (by rw [eah_61]; exact hup_n (h_ne hc_49 hc_48 (by simp)))).trans hc_49
    have hc_69 := (show ah_61 (tG t i) = _ from (by rw [eah_61]; exact hup_n (h_ne hc_50 hc_48 (by simp)))).trans hc_50
    have hc_70 := (show ah_61 (tB t i) = _ from (by rw [eah_61]; exact hup_n (h_ne hc_51 hc_48 (by simp)))).trans hc_51
    have hc_71 := (show ah_61 (tG u j) = _ from (by rw [eah_61]; exact hup_n (h_ne hc_52 hc_48 (by simp)))).trans hc_52
    have hc_72 := (show ah_61 (tB u j) = _ from (by rw [eah_61]; exact hup_n (h_ne hc_53 hc_48 (by simp)))).trans hc_53
    have hc_73 := (show ah_61 (t.1 0) = _ from (by rw [eah_61]; exact hup_n (h_ne hc_54 hc_48 (by simp)))).trans hc_54
    have hc_74 := (show ah_61 (t.1 1) = _ from (by rw [eah_61]; exact hup_n (h_ne hc_55 hc_48 (by simp)))).trans hc_55
    have hc_75 := (show ah_61 (t.1 2) = _ from (by rw [eah_61]; exact hup_n (h_ne hc_56 hc_48 (by simp)))).trans hc_56
    have hc_76 := (show ah_61 (u.1 0) = _ from (by rw [eah_61]; exact hup_n (h_ne hc_57 hc_48 (by simp)))).trans hc_57
    have hc_77 := (show ah_61 (u.1 1) = _ from (by rw [eah_61]; exact hup_n (h_ne hc_58 hc_48 (by simp)))).trans hc_58
    have hc_78 := (show ah_61 (u.1 2) = _ from (by rw [eah_61]; exact hup_n (h_ne hc_59 hc_48 (by simp)))).trans hc_59
    have hst : st_64 = [] := hst
    subst hst
    rw [hQ]
    exact h_vret hx hb hr hlk hsz hw (by simp) (by simp) dX2_tellSegments_97 ⟨rfl, (by rw [show tellC x (t.2.1 0) (u.2.1 0) = v_5 from ev_5.symm]; exact ⟨hc_65, hc_66, hc_67, hc_68⟩), (fun a e9 h1 h2 h3 h4 => (by have g9_0 : am_12 a = some e9 := (by rw [eam_12]; exact (hup_n h2).trans h1); have g9_1 : ah_8 a = some e9 := (by rw [eah_8]; exact (hup_n h3).trans g9_0); have g9_2 : ah_42 a = some e9 := (by rw [eah_42]; exact (hup_n h3).trans g9_1); have g9_3 : ah_61 a = some e9 := (by rw [eah_61]; exact (hup_n h3).trans g9_2); exact g9_3))⟩
  refine lv_icmp_eq (tgt := 34) hx hb dX2_tellSegments_17 (by decide) (fun c_3 => ?_) (fun c_3 => ?_)
  · skip
    exact J_6 x ls (lv_sub hl [0, 1, 2, 3, 4] rfl) (by rw [if_pos c_3])
  · skip
    refine lv_iload_n hx hb dX2_tellSegments_20 rfl (lv_at hl 2 rfl) ?_
    refine lv_iconst (v := 3) hx hb dX2_tellSegments_21 (by decide) ?_
    refine lv_icmp_ne (tgt := 30) hx hb dX2_tellSegments_22 (by decide) (fun c_4 => ?_) (fun c_4 => ?_)
    · skip
      refine lv_bipush (v := 10) hx hb dX2_tellSegments_30 (by decide) ?_
      refine lv_istore (lv' := [(4, .int 10), (0, .ref ins), (1, .int x), (2, .ref (tG t i)), (3, .ref (tG u j))]) hx hb dX2_tellSegments_32 hl (by decide) rfl (fun ls hl => ?_)
      exact J_6 10 ls (lv_sub hl [0, 1, 2, 3, 4] rfl) (by rw [if_neg c_3, if_neg c_4])
    · skip
      refine lv_bipush (v := 9) hx hb dX2_tellSegments_25 (by decide) ?_
      refine lv_goto (tgt := 32) hx hb dX2_tellSegments_27 (by decide) ?_
      refine lv_istore (lv' := [(4, .int 9), (0, .ref ins), (1, .int x), (2, .ref (tG t i)), (3, .ref (tG u j))]) hx hb dX2_tellSegments_32 hl (by decide) rfl (fun ls hl => ?_)
      exact J_6 9 ls (lv_sub hl [0, 1, 2, 3, 4] rfl) (by rw [if_neg c_3, if_pos c_4])

set_option maxHeartbeats 4000000 in
set_option maxRecDepth 100000 in
theorem c_X2_inspectSegment (l : Launch) (D : va_G) (dT : Nat → ClassId) (ah : hA) (sz : Nat) (ins sh fd pa mt : Nat) (shp wh : Int32) (pl : Nat → Int32) (mx my : Int32) (hi9 : inA dT ah ins sh fd pa mt shp wh pl mx my) (t u : rgT) (i k0 : Nat) (ht : rgA dT ah t) (hu : rgA dT ah u) (ht2 : 2 ≤ t.1 4) (hu2 : 2 ≤ u.1 4) (hi : i < t.1 4) (hk0 : k0 ≤ 200000) : hMet l yX2_inspectSegment cX2_inspectSegment 7 (some .boolean) ({ frames := 4, cells := 0, slots := 0, locals := 102 }) D dT [.ref ins, .ref (tG t i), .ref (u.1 0), .int (nI k0)] ah sz (fun r ah2 => ∃ (b : Bool) (wh2 : Int32) (pl2 : Nat → Int32) (mx2 my2 : Int32), r = some (.int (bI b)) ∧ inA dT ah2 ins sh fd pa mt shp wh2 pl2 mx2 my2 ∧ inK ah ah2 fd pa mt ∧ inR (fsR shp pl t u i k0) wh pl b wh2 pl2) 0 0 := by
  refine h_met (by decide) (Nat.le_of_ble_eq_true rfl) ?_
  intro p e s m below meth c ls R Q args hav hR hQ hB hl hsz hw
  obtain ⟨hx, hb, hml, hr, hts, hown, hlk, hin, hK⟩ := hB
  have hown : s.vm.findClass RX2 = some m.cls := hown
  have hl : lv_has ls 7 [(0, .ref ins), (1, .ref (tG t i)), (2, .ref (u.1 0)), (3, .int (nI k0))] := hl
  obtain ⟨hs_1_g, hs_1_b⟩ := rgA_sg ht ht2 (i := i) (by omega)
  refine lv_iload_n hx hb dX2_inspectSegment_0 rfl (lv_at hl 3 rfl) ?_
  refine lv_if_lt (tgt := 18) hx hb dX2_inspectSegment_1 (by decide) (fun c_2 => ?_) (fun c_2 => ?_)
  · skip
    have c_2 : k0 < 0 := (nI_ltx (by rfl) (by decide) (by omega) (by omega)).mp c_2
    exfalso
    omega
  · skip
    have c_2 : ¬ (k0 < 0) := (not_congr (nI_ltx (by rfl) (by decide) (by omega) (by omega))).mp c_2
    refine lv_aload_n hx hb dX2_inspectSegment_4 rfl (lv_at hl 1 rfl) ?_
    refine h_getN (ci := 7) (v := .ref (tB t i)) (C := RX7) (T := TX7) (N := 8) hx hb hts kl_X7 hown hK hw hs_1_g rfl 6 (by decide) (va_Nw.use rfl (hK.2.1 _ (List.mem_of_getElem? (i := 30) rfl))) rfl rfl dX2_inspectSegment_5 ?_
    refine lv_aload_n hx hb dX2_inspectSegment_8 rfl (lv_at hl 2 rfl) ?_
    refine h_getN (ci := 5) (v := .ref (u.1 1)) (C := RX5) (T := TX5) (N := 7) hx hb hts kl_X5 hown hK hw hu.1 rfl 2 (by decide) (va_Nw.use rfl (hK.2.1 _ (List.mem_of_getElem? (i := 7) rfl))) rfl rfl dX2_inspectSegment_9 ?_
    refine h_callV (n := 1) (ci := 0) (b := (tB t i)) (As := [.ref (u.1 1)]) (rest := []) ⟨hx, hb, hml, hown, hts⟩ hK hw (c_X0_isApartFrom l D dT ah s.heap.size (tB t i) (tS t i 5) (tS t i 6) (tS t i 7) (tS t i 8) hs_1_b (u.1 1) (u.2.2.2.1 0) (u.2.2.2.1 1) (u.2.2.2.1 2) (u.2.2.2.1 3) hu.2.1) ko_X0_isApartFrom km_X2_118 ki_X0_isApartFrom ks_X0_isApartFrom kn_X0 (by decide +kernel) rfl hs_1_b rfl hl.1 rfl (by simp [Value.category]) dX2_inspectSegment_12 (by rw [hR]; exact ⟨rfl, rfl, Nat.le_of_ble_eq_true rfl, Nat.le_of_ble_eq_true rfl, by simp, by simp⟩) (fun r_3 ah_4 H_5 L_6 st_7 hp hw hst => ?_)
    obtain ⟨rfl, rfl⟩ := hp
    have hst : st_7 = [.int (bI (bxApart (tS t i 5) (tS t i 6) (tS t i 7) (tS t i 8) (u.2.2.2.1 0) (u.2.2.2.1 1) (u.2.2.2.1 2) (u.2.2.2.1 3)))] := hst
    subst hst
    refine lv_if_eq (tgt := 20) hx hb dX2_inspectSegment_15 (by decide) (fun c_8 => ?_) (fun c_8 => ?_)
    · skip
      have c_8 : bxApart (tS t i 5) (tS t i 6) (tS t i 7) (tS t i 8) (u.2.2.2.1 0) (u.2.2.2.1 1) (u.2.2.2.1 2) (u.2.2.2.1 3) = false := bI_0.mp c_8
      refine lv_iload_n hx hb dX2_inspectSegment_20 rfl (lv_at hl 3 rfl) ?_
      refine lv_istore (lv' := [(4, .int (nI k0)), (0, .ref ins), (1, .ref (tG t i)), (2, .ref (u.1 0)), (3, .int (nI k0))]) hx hb dX2_inspectSegment_21 hl (by decide) rfl (fun ls hl => ?_)
      have LP23 : ∀ (k23 : Nat) (k : Nat) (mx3 : Int32) (my3 : Int32) (ah23 : hA) (ls : Array Slot) (H23 : Heap) (L23 : List Loc), (u.1 4 + k0 + 1 - k < k23) → (k0 ≤ k ∧ (k ≤ u.1 4 ∨ k = k0)) → (inA dT ah23 ins sh fd pa mt shp wh pl mx3 my3) → (inK ah ah23 fd pa mt) → (∀ j, j < k → isC t u i k0 j = false) → lv_has ls 7 [(4, .int (nI k)), (0, .ref ins), (1, .ref (tG t i)), (2, .ref (u.1 0)), (3, .int (nI k0))] → hW D ah s.heap ah23 H23 L23 → W p l e R s m args below meth c H23 L23 (0 + 0) (0 + 0) Q (F0 m 23 ls []) := by
        intro k23
        induction k23 with
        | zero => intro k mx3 my3 ah23 ls H23 L23 hk; exact absurd hk (Nat.not_lt_zero _)
        | succ k23 ih23 =>
          intro k mx3 my3 ah23 ls H23 L23 hk23 hk1 hi23 hK23 hpv hl hw
          have ht23 := rgA_j (fun a e h hj => inK_j hi9 hK23 h hj) ht
          have hu23 := rgA_j (fun a e h hj => inK_j hi9 hK23 h hj) hu
          have hcc : u.1 4 ≤ u.1 3 ∧ u.1 3 ≤ 100000 := ⟨hu23.2.2.2.1, hu23.2.2.2.2.1⟩
          obtain ⟨hs_9_g, hs_9_b⟩ := rgA_sg ht23 ht2 (i := i) (by omega)
          refine lv_iload hx hb dX2_inspectSegment_23 (lv_at hl 0 rfl) ?_
          refine lv_aload_n hx hb dX2_inspectSegment_25 rfl (lv_at hl 3 rfl) ?_
          refine h_getN (ci := 5) (v := .int (nI (u.1 4))) (C := RX5) (T := TX5) (N := 7) hx hb hts kl_X5 hown hK hw hu23.1 rfl 4 (by decide) (va_Nw.use rfl (hK.2.1 _ (List.mem_of_getElem? (i := 11) rfl))) rfl rfl dX2_inspectSegment_26 ?_
          refine lv_icmp_ge (tgt := 75) hx hb dX2_inspectSegment_29 (by decide) (fun c_10 => ?_) (fun c_10 => ?_)
          · skip
            have c_10 : u.1 4 ≤ k := (nI_lex (by rfl) (by rfl) (by omega) (by omega)).mp c_10
            refine lv_iconst (v := 0) hx hb dX2_inspectSegment_75 (by decide) ?_
            rw [hQ]
            exact h_zret hx hb hr hlk hsz hw (by simp) (by simp) dX2_inspectSegment_76 (by decide) ⟨false, _, _, _, _, rfl, ⟨hi23.1, hi23.2.1, hi23.2.2.1, hi23.2.2.2⟩, (fun a e9 h1 h2 h3 h4 => (by have g9_0 : ah23 a = some e9 := hK23 a e9 h1 h2 h3 h4; exact g9_0)), (by rw [show fsR shp pl t u i k0 = none from fsR_n (fun j hj => hpv j (by omega))]; exact ⟨rfl, rfl, rfl⟩)⟩
          · skip
            have c_10 : ¬ (u.1 4 ≤ k) := (not_congr (nI_lex (by rfl) (by rfl) (by omega) (by omega))).mp c_10
            refine lv_aload_n hx hb dX2_inspectSegment_32 rfl (lv_at hl 3 rfl) ?_
            refine h_getN (ci := 5) (v := .ref (u.1 2)) (C := RX5) (T := TX5) (N := 7) hx hb hts kl_X5 hown hK hw hu23.1 rfl 3 (by decide) (va_Nw.use rfl (hK.2.1 _ (List.mem_of_getElem? (i := 9) rfl))) rfl rfl dX2_inspectSegment_33 ?_
            refine lv_iload hx hb dX2_inspectSegment_36 (lv_at hl 0 rfl) ?_
            obtain ⟨hs_11_g, hs_11_b⟩ := rgA_sg hu23 hu2 (i := k) (by omega)
            refine h_aald hx hb hK hw 2 rfl hu23.2.2.1 k rfl (by omega) (by omega) (hu23.2.2.2.2.2 k (by omega)).1 dX2_inspectSegment_38 ?_
            refine lv_astore (lv' := [(5, .ref (tG u k)), (4, .int (nI k)), (0, .ref ins), (1, .ref (tG t i)), (2, .ref (u.1 0)), (3, .int (nI k0))]) hx hb dX2_inspectSegment_39 hl (by decide) rfl (fun ls hl => ?_)
            refine lv_aload_n hx hb dX2_inspectSegment_41 rfl (lv_at hl 2 rfl) ?_
            refine h_get (ci := 2) (v := .ref mt) (C := RX2) (T := TX2) (N := 4) hx hb hts kl_X2 hown hK hw hi23.1 rfl 2 (by decide) (hts _ kf_X2_22) rfl rfl dX2_inspectSegment_42 ?_
            refine lv_aload_n hx hb dX2_inspectSegment_45 rfl (lv_at hl 3 rfl) ?_
            refine lv_aload hx hb dX2_inspectSegment_46 (lv_at hl 0 rfl) ?_
            obtain ⟨hs_12_g, hs_12_b⟩ := rgA_sg ht23 ht2 (i := (nxI (t.1 4) i)) (nxI_lt hi)
            obtain ⟨hs_13_g, hs_13_b⟩ := rgA_sg hu23 hu2 (i := (nxI (u.1 4) k)) (nxI_lt (by omega))
            refine h_callV (n := 2) (ci := 3) (b := mt) (As := [.ref (tG t i), .ref (tG u k)]) (rest := []) ⟨hx, hb, hml, hown, hts⟩ hK hw (c_X3_fault l D dT ah23 H23.size mt mx3 my3 hi23.2.2.2 (tG t i) (t.1 0) (tB t i) (tG t (nxI (t.1 4) i)) (tS t i 0) (tS t i 1) (tS t i 2) (tS t i 3) (tS t i 4) hs_9_g (tS t i 5) (tS t i 6) (tS t i 7) (tS t i 8) hs_9_b (t.1 0) (tB t (nxI (t.1 4) i)) (tG t (nxI (t.1 4) (nxI (t.1 4) i))) (tS t (nxI (t.1 4) i) 0) (tS t (nxI (t.1 4) i) 1) (tS t (nxI (t.1 4) i) 2) (tS t (nxI (t.1 4) i) 3) (tS t (nxI (t.1 4) i) 4) hs_12_g (tG u k) (u.1 0) (tB u k) (tG u (nxI (u.1 4) k)) (tS u k 0) (tS u k 1) (tS u k 2) (tS u k 3) (tS u k 4) hs_11_g (tS u k 5) (tS u k 6) (tS u k 7) (tS u k 8) hs_11_b (u.1 0) (tB u (nxI (u.1 4) k)) (tG u (nxI (u.1 4) (nxI (u.1 4) k))) (tS u (nxI (u.1 4) k) 0) (tS u (nxI (u.1 4) k) 1) (tS u (nxI (u.1 4) k) 2) (tS u (nxI (u.1 4) k) 3) (tS u (nxI (u.1 4) k) 4) hs_13_g) ko_X3_fault km_X2_124 ki_X3_fault ks_X3_fault kn_X3 (by decide +kernel) rfl hi23.2.2.2 rfl hl.1 rfl (by simp [Value.category]) dX2_inspectSegment_48 (by rw [hR]; exact ⟨rfl, rfl, Nat.le_of_ble_eq_true rfl, Nat.le_of_ble_eq_true rfl, by simp, by simp⟩) (fun r_14 ah_15 H_16 L_17 st_18 hp hw hst => ?_)
            obtain ⟨rfl, eah_15⟩ := hp
            have hc_19 := (show ah_15 ins = _ from (by rw [eah_15]; exact hup_n (h_ne hi23.1 hi23.2.2.2 (by simp)))).trans hi23.1
            have hc_20 := (show ah_15 fd = _ from (by rw [eah_15]; exact hup_n (h_ne hi23.2.1 hi23.2.2.2 (by simp)))).trans hi23.2.1
            have hc_21 := (show ah_15 pa = _ from (by rw [eah_15]; exact hup_n (h_ne hi23.2.2.1 hi23.2.2.2 (by simp)))).trans hi23.2.2.1
            have hc_22 : ah_15 mt = some (.inr (3, [.int ((sgF mx3 my3 t u i k).2.1), .int ((sgF mx3 my3 t u i k).2.2)])) := by rw [eah_15]; exact hup_s
            have hi_f : inA dT ah_15 ins sh fd pa mt shp wh pl ((sgF mx3 my3 t u i k).2.1) ((sgF mx3 my3 t u i k).2.2) := ⟨hc_19, hc_20, hc_21, hc_22⟩
            have hK_f : inK ah ah_15 fd pa mt := (fun a e9 h1 h2 h3 h4 => (by have g9_0 : ah23 a = some e9 := hK23 a e9 h1 h2 h3 h4; have g9_1 : ah_15 a = some e9 := (by rw [eah_15]; exact (hup_n h4).trans g9_0); exact g9_1))
            have ht_f := rgA_j (fun a e h hj => inK_j hi9 hK_f h hj) ht
            have hu_f := rgA_j (fun a e h hj => inK_j hi9 hK_f h hj) hu
            have hst : st_18 = [.int ((sgF mx3 my3 t u i k).1)] := hst
            subst hst
            refine lv_istore (lv' := [(6, .int ((sgF mx3 my3 t u i k).1)), (5, .ref (tG u k)), (4, .int (nI k)), (0, .ref ins), (1, .ref (tG t i)), (2, .ref (u.1 0)), (3, .int (nI k0))]) hx hb dX2_inspectSegment_51 hl (by decide) rfl (fun ls hl => ?_)
            refine lv_iload hx hb dX2_inspectSegment_53 (lv_at hl 0 rfl) ?_
            refine lv_if_eq (tgt := 69) hx hb dX2_inspectSegment_55 (by decide) (fun c_23 => ?_) (fun c_23 => ?_)
            · skip
              refine lv_iinc (v := nI (k + 1)) (lv' := [(4, .int (nI (k + 1))), (6, .int ((sgF mx3 my3 t u i k).1)), (5, .ref (tG u k)), (0, .ref ins), (1, .ref (tG t i)), (2, .ref (u.1 0)), (3, .int (nI k0))]) hx hb dX2_inspectSegment_69 hl (k := 2) rfl (nI_c _ 1) (by decide) rfl (fun ls hl => ?_)
              refine lv_goto (tgt := 23) hx hb dX2_inspectSegment_72 (by decide) ?_
              refine W.widen (k := 0 + 0) (n := 0 + 0) (by omega) (by omega) ?_
              exact ih23 (k + 1) ((sgF mx3 my3 t u i k).2.1) ((sgF mx3 my3 t u i k).2.2) ah_15 ls _ _ (by omega) (by omega) hi_f hK_f (lt_s hpv (isC_f c_23)) (lv_sub hl [0, 3, 4, 5, 6] rfl) hw
            · skip
              refine lv_aload_n hx hb dX2_inspectSegment_58 rfl (lv_at hl 3 rfl) ?_
              refine lv_iload hx hb dX2_inspectSegment_59 (lv_at hl 0 rfl) ?_
              refine lv_aload_n hx hb dX2_inspectSegment_61 rfl (lv_at hl 4 rfl) ?_
              refine lv_aload hx hb dX2_inspectSegment_62 (lv_at hl 1 rfl) ?_
              refine h_callV (n := 3) (ci := 2) (b := ins) (As := [.int ((sgF mx3 my3 t u i k).1), .ref (tG t i), .ref (tG u k)]) (rest := []) ⟨hx, hb, hml, hown, hts⟩ hK hw (c_X2_tellSegments l D dT ah_15 H_16.size ins sh fd pa mt shp wh pl ((sgF mx3 my3 t u i k).2.1) ((sgF mx3 my3 t u i k).2.2) hi_f ((sgF mx3 my3 t u i k).1) t u i k ht_f hu_f ht2 hu2 hi (by omega)) ko_X2_tellSegments km_X2_128 ki_X2_tellSegments ks_X2_tellSegments kn_X2 (by decide +kernel) rfl hi_f.1 rfl hl.1 rfl (by simp [Value.category]) dX2_inspectSegment_64 (by rw [hR]; exact ⟨rfl, rfl, Nat.le_of_ble_eq_true rfl, Nat.le_of_ble_eq_true rfl, by simp, by simp⟩) (fun r_25 ah_26 H_27 L_28 st_29 hp hw hst => ?_)
              obtain ⟨rfl, hi_t, hK_t⟩ := hp
              have hst : st_29 = [] := hst
              subst hst
              refine lv_iconst (v := 1) hx hb dX2_inspectSegment_67 (by decide) ?_
              rw [hQ]
              exact h_zret hx hb hr hlk hsz hw (by simp) (by simp) dX2_inspectSegment_68 (by decide) ⟨true, _, _, _, _, rfl, ⟨hi_t.1, hi_t.2.1, hi_t.2.2.1, hi_t.2.2.2⟩, (fun a e9 h1 h2 h3 h4 => (by have g9_0 : ah23 a = some e9 := hK23 a e9 h1 h2 h3 h4; have g9_1 : ah_15 a = some e9 := (by rw [eah_15]; exact (hup_n h4).trans g9_0); have g9_2 : ah_26 a = some e9 := hK_t a e9 g9_1 h2 h3 h4; exact g9_2)), (by rw [show fsR shp pl t u i k0 = some (_, _) from fsR_s (k := k) (by omega) c_8 (isC_t (by omega) c_23) hpv]; exact ⟨rfl, (by rw [sgF_c]), rfl⟩)⟩
      exact LP23 ((u.1 4 + k0 + 1 - k0) + 1) k0 mx my ah ls _ _ (Nat.lt_succ_self _) (by omega) hi9 (fun a e9 h1 _ _ _ => h1) (fun j hj => isC_l (by omega)) (lv_sub hl [0, 1, 2, 3, 4] rfl) hw
    · skip
      have c_8 : ¬ (bxApart (tS t i 5) (tS t i 6) (tS t i 7) (tS t i 8) (u.2.2.2.1 0) (u.2.2.2.1 1) (u.2.2.2.1 2) (u.2.2.2.1 3) = false) := (not_congr bI_0).mp c_8
      refine lv_iconst (v := 0) hx hb dX2_inspectSegment_18 (by decide) ?_
      rw [hQ]
      exact h_zret hx hb hr hlk hsz hw (by simp) (by simp) dX2_inspectSegment_19 (by decide) ⟨false, _, _, _, _, rfl, ⟨hi9.1, hi9.2.1, hi9.2.2.1, hi9.2.2.2⟩, (fun a e9 h1 h2 h3 h4 => (by exact h1)), (by rw [show fsR shp pl t u i k0 = none from fsR_a c_8]; exact ⟨rfl, rfl, rfl⟩)⟩

/-! ShapeJudge$Inspector.inspect -/
def lnM (shp : Int32) (pl : Nat → Int32) (dv : Int32) : fT := if dv = 1 then some (2, upd pl 0 shp) else none
def oe (a b : fT) : fT := match a with
  | some q => some q
  | none => b
/-- a polygon: its rings, their segments, its holes, their pairs, whether it is of one piece -/
def paM (shp : Int32) (pl : Nat → Int32) (nr : Nat) (pp : Int32) (RT : Nat → rgT) : fT :=
  oe (frR shp pp pl nr RT) (oe (firstO nr (ciS false shp pl nr RT)) (oe (firstO nr (hoC shp pp pl RT)) (oe (firstO nr (fun i => firstO nr (phC shp pp pl RT i))) (whM shp pp pl nr RT))))
def nrF (FC : Nat → Nat) (fi j : Nat) : Nat := FC (fi + j + 1) - FC (fi + j)
def mpD (X Y : Nat → Int32) (FC FP : Nat → Nat) (fi cn : Nat) (PT : Nat → pT) : Prop :=
  (∀ j, j < cn → plD X Y FP (FC (fi + j)) (nrF FC fi j) (nI j) (PT j).2.2.2) ∧ ∀ j k a b, j < cn → k < cn → a < nrF FC fi j → b < nrF FC fi k → ((PT j).2.2.2 a).1 0 = ((PT k).2.2.2 b).1 0 → j = k
def insM (shp : Int32) (pl : Nat → Int32) (cn : Nat) (NR : Nat → Nat) (PT : Nat → pT) (nrA : Nat) (RTA : Nat → rgT) : fT :=
  oe (firstO cn (fun j => paM shp pl (NR j) (nI j) (PT j).2.2.2)) (if cn ≤ 1 then none else oe (firstO nrA (ciS true shp pl nrA RTA)) (firstO cn (fun i => firstO cn (ppC shp pl NR PT i))))
theorem insM_f {shp : Int32} {pl : Nat → Int32} {cn nrA : Nat} {NR : Nat → Nat} {PT : Nat → pT} {RTA : Nat → rgT} {q : Int32 × (Nat → Int32)} (h : firstO cn (fun j => paM shp pl (NR j) (nI j) (PT j).2.2.2) = some q) : insM shp pl cn NR PT nrA RTA = some q := by unfold insM; rw [h]; rfl
theorem insM_1 {shp : Int32} {pl : Nat → Int32} {cn nrA : Nat} {NR : Nat → Nat} {PT : Nat → pT} {RTA : Nat → rgT} (h : firstO cn (fun j => paM shp pl (NR j) (nI j) (PT j).2.2.2) = none) (h1 : cn ≤ 1) : insM shp pl cn NR PT nrA RTA = none := by unfold insM; rw [h, if_pos h1]; rfl
theorem insM_s {shp : Int32} {pl : Nat → Int32} {cn nrA : Nat} {NR : Nat → Nat} {PT : Nat → pT} {RTA : Nat → rgT} {q : Int32 × (Nat → Int32)} (h : firstO cn (fun j => paM shp pl (NR j) (nI j) (PT j).2.2.2) = none) (h1 : ¬ cn ≤ 1) (h2 : firstO nrA (ciS true shp pl nrA RTA) = some q) : insM shp pl cn NR PT nrA RTA = some q := by unfold insM; rw [h, if_neg h1, h2]; rfl
theorem insM_p {shp : Int32} {pl : Nat → Int32} {cn nrA : Nat} {NR : Nat → Nat} {PT : Nat → pT} {RTA : Nat → rgT} (h : firstO cn (fun j => paM shp pl (NR j) (nI j) (PT j).2.2.2) = none) (h1 : ¬ cn ≤ 1) (h2 : firstO nrA (ciS true shp pl nrA RTA) = none) : insM shp pl cn NR PT nrA RTA = firstO cn (fun i => firstO cn (ppC shp pl NR PT i)) := by unfold insM; rw [h, if_neg h1, h2]; rfl
theorem firstO_up {α : Type} {g : Nat → Option α} {i n : Nat} {x : α} (h : firstO i g = some x) (hi : i ≤ n) : firstO n g = some x := by
  induction n with
  | zero => rw [show i = 0 by omega] at h; exact h
  | succ n ih =>
    by_cases e : i = n + 1
    · rw [← e]; exact h
    · simp [firstO, ih (by omega)]
theorem firstO_n {α : Type} {g : Nat → Option α} {n : Nat} (h : firstO n g = none) : ∀ j, j < n → g j = none := by
  induction n with
  | zero => intro j hj; omega
  | succ n ih =>
    intro j hj
    cases h1 : firstO n g with
    | some x => simp [firstO, h1] at h
    | none =>
      by_cases e : j = n
      · rw [e]; simpa [firstO, h1] using h
      · exact ih h1 j (by omega)
theorem firstO_s {α : Type} {g : Nat → Option α} {n : Nat} (h : firstO n g = none) : firstO (n + 1) g = g n := by simp [firstO, h]
theorem firstB_n {n : Nat} {f : Nat → Bool} (h : firstB n f = none) : ∀ j, j < n → f j = false := by
  induction n with
  | zero => intro j hj; omega
  | succ n ih =>
    intro j hj
    cases h1 : firstB n f with
    | some x => simp [firstB, h1] at h
    | none =>
      by_cases e : j = n
      · rw [e]; simpa [firstB, h1] using h
      · exact ih h1 j (by omega)
theorem cntS_e {X Y : Nat → Int32} {po a b : Nat} (hab : a ≤ b) (h : cntS X Y po a = cntS X Y po b) : smP X Y (po + b) (po + a) = true := by
  induction b with
  | zero => rw [show a = 0 by omega]; exact smP_iff.mpr ⟨rfl, rfl⟩
  | succ b ih =>
    by_cases e : a = b + 1
    · rw [e]; exact smP_iff.mpr ⟨rfl, rfl⟩
    · have h1 := cntS_m (X := X) (Y := Y) (po := po) (show a ≤ b by omega)
      have h2 : ¬ smP X Y (po + b) (po + b + 1) = false := fun hs => by rw [cntS_s hs] at h; omega
      have h3 := ih (by omega) (by rw [cntS_k h2] at h; exact h)
      have h4 := smP_iff.mp (nF h2)
      have h5 := smP_iff.mp h3
      exact smP_iff.mpr ⟨h4.1.symm.trans h5.1, h4.2.symm.trans h5.2⟩
theorem rgD_2 {X Y : Nat → Int32} {po pe : Nat} {t : rgT} (h : rgD X Y po pe t) (hb : rgBad t = false) : 2 ≤ t.1 4 := by
  have h3 : 3 ≤ t.2.1 2 := by
    unfold rgBad at hb
    by_cases h1 : t.2.2.1 = false
    · simp [h1] at hb
    · rw [if_neg h1] at hb
      by_cases h2 : 3 ≤ t.2.1 2
      · exact h2
      · simp [h2] at hb
  rcases h.2.1 with ⟨h0, -⟩ | ⟨h0, -⟩ | ⟨h0, -⟩ | ⟨-, k, j, g1, g2, g3, g4, g5, g6⟩
  · rw [h0] at h3; exact absurd h3 (by decide)
  · rw [h0] at h3; exact absurd h3 (by decide)
  · rw [h0] at h3; exact absurd h3 (by decide)
  · have n1 : cntS X Y po 0 ≠ cntS X Y po (k - po) := fun h9 => by
      have h8 := cntS_e (by omega) h9
      rw [show po + (k - po) = k by omega, Nat.add_zero, g4] at h8; cases h8
    have n2 : cntS X Y po (k - po) ≠ cntS X Y po (j - po) := fun h9 => by
      have h8 := cntS_e (by omega) h9
      rw [show po + (k - po) = k by omega, show po + (j - po) = j by omega, g6] at h8; cases h8
    have m1 := cntS_m (X := X) (Y := Y) (po := po) (show 0 ≤ k - po by omega)
    have m2 := cntS_m (X := X) (Y := Y) (po := po) (show k - po ≤ j - po by omega)
    have m3 := cntS_m (X := X) (Y := Y) (po := po) (show j - po ≤ pe - 1 - po by omega)
    have m4 := h.2.2.1.1
    omega
theorem frR_2 {shp pp : Int32} {pl : Nat → Int32} {nr : Nat} {RT : Nat → rgT} {X Y : Nat → Int32} {FP : Nat → Nat} {c0 : Nat} {pt : Int32} (h : frR shp pp pl nr RT = none) (hd : plD X Y FP c0 nr pt RT) : ∀ i, i < nr → 2 ≤ (RT i).1 4 := fun i hi =>
  rgD_2 (hd.1 i hi).1 (firstB_n (f := fun i => rgBad (RT i)) (by unfold frR at h; simpa using h) i hi)
theorem oe_n {a b : fT} (h : oe a b = none) : a = none ∧ b = none := by
  cases a with
  | none => exact ⟨rfl, h⟩
  | some q => cases h
theorem al_2 {shp : Int32} {pl : Nat → Int32} {cn : Nat} {PT : Nat → pT} {RTA : Nat → rgT} {X Y : Nat → Int32} {FC FP : Nat → Nat} {fi ns nc np : Nat} {f : Nat → Nat → Int32} (hA : ∀ j, j < cn → ∀ b, b < nrF FC fi j → RTA ((fun j => FC (fi + j) - FC fi) j + b) = (PT j).2.2.2 b) (hD : mpD X Y FC FP fi cn PT) (hn : firstO cn (fun j => paM shp pl (nrF FC fi j) (nI j) (PT j).2.2.2) = none) (hV : shV ns nc np f FC FP) (hf : fi + cn ≤ ns) : ∀ i, i < FC (fi + cn) - FC fi → 2 ≤ (RTA i).1 4 := by
  intro i hi
  have key : ∀ m, m ≤ cn → i < FC (fi + m) - FC fi → 2 ≤ (RTA i).1 4 := by
    intro m
    induction m with
    | zero => intro _ h; simp at h
    | succ m ih =>
      intro hm h
      by_cases h1 : i < FC (fi + m) - FC fi
      · exact ih (by omega) h1
      · have h2 : FC fi ≤ FC (fi + m) := shV_f hV (by omega) (by omega)
        have h9 : FC (fi + (m + 1)) = FC (fi + m + 1) := rfl
        have hb : i - (FC (fi + m) - FC fi) < nrF FC fi m := by unfold nrF; omega
        have h3 := hA m (by omega) _ hb
        dsimp only at h3
        rw [show FC (fi + m) - FC fi + (i - (FC (fi + m) - FC fi)) = i by omega] at h3
        rw [h3]
        exact frR_2 (oe_n (firstO_n hn m (by omega))).1 (hD.1 m (by omega)) _ hb
  exact key cn (Nat.le_refl _) hi
theorem shk_2 {dT : Nat → ClassId} {ah : hA} {a b : Nat} {e : va_E} {fs : List Value} (h : ah a = some e) (hk : shK dT e) (hb : ah b = some (.inr (2, fs))) : a ≠ b := by
  rcases hk with ⟨g, rfl⟩ | ⟨g, rfl⟩ | ⟨n, g, rfl⟩
  · exact h_ne h hb (by simp)
  · exact h_ne h hb (by simp)
  · exact h_ne h hb (by simp)
theorem inA_ext {dT : Nat → ClassId} {ah ah2 : hA} {ins sh fd pa mt : Nat} {shp wh : Int32} {pl : Nat → Int32} {mx my : Int32} (hx : ext ah ah2) (hi : inA dT ah ins sh fd pa mt shp wh pl mx my) : inA dT ah2 ins sh fd pa mt shp wh pl mx my := ⟨hx _ _ hi.1, hx _ _ hi.2.1, hx _ _ hi.2.2.1, hx _ _ hi.2.2.2⟩
theorem inK_x {ah ah1 ah2 : hA} {fd pa mt : Nat} (h1 : inK ah ah1 fd pa mt) (h2 : ext ah1 ah2) : inK ah ah2 fd pa mt := fun a e h n1 n2 n3 => h2 a e (h1 a e h n1 n2 n3)
def inK4 (ah ah2 : hA) (ins fd pa mt : Nat) : Prop := ∀ a e, ah a = some e → a ≠ ins → a ≠ fd → a ≠ pa → a ≠ mt → ah2 a = some e
theorem mpA_j {dT : Nat → ClassId} {ah ah2 : hA} {qa cn : Nat} {FQ : Nat → Option Nat} {PT : Nat → pT} {NR : Nat → Nat} {PP : Nat → Int32} (hk : ∀ a e, ah a = some e → jg dT e → ah2 a = some e) (h : mpA dT ah qa cn FQ PT NR PP) : mpA dT ah2 qa cn FQ PT NR PP := ⟨hk _ _ h.1 ⟨by simp, by simp, by simp⟩, fun j hj => ⟨(h.2 j hj).1, plA_j hk (h.2 j hj).2⟩⟩
theorem pa_ir {shp wh wh2 : Int32} {pl pl2 : Nat → Int32} {b : Bool} {i : Nat} {NR : Nat → Nat} {PT : Nat → pT} (hno : firstO i (fun j => paM shp pl (NR j) (nI j) (PT j).2.2.2) = none) (h : inR (frR shp (nI i) pl (NR i) (PT i).2.2.2) wh pl b wh2 pl2) (hb : ¬ b = false) : inR (firstO (i + 1) (fun j => paM shp pl (NR j) (nI j) (PT j).2.2.2)) wh pl b wh2 pl2 := by
  rw [firstO_s hno]; have h1 := inR_t h hb; rw [h1] at h; unfold paM; rw [h1]; exact h
theorem pa_is {shp wh wh2 : Int32} {pl pl2 : Nat → Int32} {b : Bool} {i : Nat} {NR : Nat → Nat} {PT : Nat → pT} (hno : firstO i (fun j => paM shp pl (NR j) (nI j) (PT j).2.2.2) = none) (h0 : frR shp (nI i) pl (NR i) (PT i).2.2.2 = none) (h : inR (firstO (NR i) (ciS false shp pl (NR i) (PT i).2.2.2)) wh pl b wh2 pl2) (hb : ¬ b = false) : inR (firstO (i + 1) (fun j => paM shp pl (NR j) (nI j) (PT j).2.2.2)) wh pl b wh2 pl2 := by
  rw [firstO_s hno]; have h1 := inR_t h hb; rw [h1] at h; unfold paM; rw [h0, h1]; exact h
theorem pa_ho {shp wh wh2 : Int32} {pl pl2 : Nat → Int32} {b : Bool} {i : Nat} {NR : Nat → Nat} {PT : Nat → pT} (hno : firstO i (fun j => paM shp pl (NR j) (nI j) (PT j).2.2.2) = none) (h0 : frR shp (nI i) pl (NR i) (PT i).2.2.2 = none) (h2 : firstO (NR i) (ciS false shp pl (NR i) (PT i).2.2.2) = none) (h : inR (firstO (NR i) (hoC shp (nI i) pl (PT i).2.2.2)) wh pl b wh2 pl2) (hb : ¬ b = false) : inR (firstO (i + 1) (fun j => paM shp pl (NR j) (nI j) (PT j).2.2.2)) wh pl b wh2 pl2 := by
  rw [firstO_s hno]; have h1 := inR_t h hb; rw [h1] at h; unfold paM; rw [h0, h2, h1]; exact h
theorem pa_ph {shp wh wh2 : Int32} {pl pl2 : Nat → Int32} {b : Bool} {i : Nat} {NR : Nat → Nat} {PT : Nat → pT} (hno : firstO i (fun j => paM shp pl (NR j) (nI j) (PT j).2.2.2) = none) (h0 : frR shp (nI i) pl (NR i) (PT i).2.2.2 = none) (h2 : firstO (NR i) (ciS false shp pl (NR i) (PT i).2.2.2) = none) (h3 : firstO (NR i) (hoC shp (nI i) pl (PT i).2.2.2) = none) (h : inR (firstO (NR i) (fun k => firstO (NR i) (phC shp (nI i) pl (PT i).2.2.2 k))) wh pl b wh2 pl2) (hb : ¬ b = false) : inR (firstO (i + 1) (fun j => paM shp pl (NR j) (nI j) (PT j).2.2.2)) wh pl b wh2 pl2 := by
  rw [firstO_s hno]; have h1 := inR_t h hb; rw [h1] at h; unfold paM; rw [h0, h2, h3, h1]; exact h
theorem pa_wl {shp wh wh2 : Int32} {pl pl2 : Nat → Int32} {b : Bool} {i : Nat} {NR : Nat → Nat} {PT : Nat → pT} (hno : firstO i (fun j => paM shp pl (NR j) (nI j) (PT j).2.2.2) = none) (h0 : frR shp (nI i) pl (NR i) (PT i).2.2.2 = none) (h2 : firstO (NR i) (ciS false shp pl (NR i) (PT i).2.2.2) = none) (h3 : firstO (NR i) (hoC shp (nI i) pl (PT i).2.2.2) = none) (h4 : firstO (NR i) (fun k => firstO (NR i) (phC shp (nI i) pl (PT i).2.2.2 k)) = none) (h : inR (whM shp (nI i) pl (NR i) (PT i).2.2.2) wh pl b wh2 pl2) : inR (firstO (i + 1) (fun j => paM shp pl (NR j) (nI j) (PT j).2.2.2)) wh pl b wh2 pl2 := by
  rw [firstO_s hno]; unfold paM; rw [h0, h2, h3, h4]; exact h
/-- what inspecting a shape finds -/
def insD (f : Nat → Nat → Int32) (ns : Nat) (FC FP : Nat → Nat) (si fi cn : Nat) (pl : Nat → Int32) (o : fT) : Prop :=
  rwGet (f 0) ns (nI si) = 2 ∧ (∃ dv, dfR (f 4) (f 5) (FP (FC si)) (FP (FC si + 1)) dv ∧ o = lnM (nI si) pl dv) ∨
  ¬ rwGet (f 0) ns (nI si) = 2 ∧ ∃ (PT : Nat → pT) (RTA : Nat → rgT), mpD (f 4) (f 5) FC FP fi cn PT ∧ (firstO cn (fun j => paM (nI si) pl (nrF FC fi j) (nI j) (PT j).2.2.2) = none → 2 ≤ cn → ∀ j, j < cn → ∀ b, b < nrF FC fi j → RTA (FC (fi + j) - FC fi + b) = (PT j).2.2.2 b) ∧ o = insM (nI si) pl cn (nrF FC fi) PT (FC (fi + cn) - FC fi) RTA
set_option maxHeartbeats 4000000 in
set_option maxRecDepth 100000 in
theorem c_X2_inspectLine (l : Launch) (D : va_G) (dT : Nat → ClassId) (ah : hA) (sz : Nat) (ins sh fd pa mt : Nat) (si : Nat) (wh : Int32) (pl : Nat → Int32) (mx my : Int32) (hi9 : inA dT ah ins sh fd pa mt (nI si) wh pl mx my) (RO RA cap : Nat → Nat) (ns nc np no rc : Nat) (f : Nat → Nat → Int32) (hs : shA dT ah sh RO RA cap (v7 ns ns ns nc np np no) f rc) (FC FP : Nat → Nat) (hV : shV ns nc np f FC FP) (hsi : si < ns) (hfc : FC si < nc) : hMet l yX2_inspectLine cX2_inspectLine 1 none ({ frames := 4, cells := 0, slots := 0, locals := 89 }) D dT [.ref ins] ah sz (fun r ah2 => ∃ (dv : Int32) (b : Bool) (wh2 : Int32) (pl2 : Nat → Int32) (mx2 my2 : Int32), dfR (f 4) (f 5) (FP (FC si)) (FP (FC si + 1)) dv ∧ r = none ∧ inA dT ah2 ins sh fd pa mt (nI si) wh2 pl2 mx2 my2 ∧ inK ah ah2 fd pa mt ∧ inR (lnM (nI si) pl dv) wh pl b wh2 pl2) 0 0 := by
  refine h_met (by decide) (Nat.le_of_ble_eq_true rfl) ?_
  intro p e s m below meth c ls R Q args hav hR hQ hB hl hsz hw
  obtain ⟨hx, hb, hml, hr, hts, hown, hlk, hin, hK⟩ := hB
  have hown : s.vm.findClass RX2 = some m.cls := hown
  have hl : lv_has ls 1 [(0, .ref ins)] := hl
  have hb0 : ns ≤ cap 0 ∧ 32 ≤ cap 0 ∧ cap 0 ≤ 40000 := (hs.2.1 0 (by omega)).2.2
  have hb1 : ns ≤ cap 1 ∧ 32 ≤ cap 1 ∧ cap 1 ≤ 40000 := (hs.2.1 1 (by omega)).2.2
  have hb2 : ns ≤ cap 2 ∧ 32 ≤ cap 2 ∧ cap 2 ≤ 40000 := (hs.2.1 2 (by omega)).2.2
  have hb3 : nc ≤ cap 3 ∧ 32 ≤ cap 3 ∧ cap 3 ≤ 40000 := (hs.2.1 3 (by omega)).2.2
  have hb4 : np ≤ cap 4 ∧ 32 ≤ cap 4 ∧ cap 4 ≤ 40000 := (hs.2.1 4 (by omega)).2.2
  have hb5 : np ≤ cap 5 ∧ 32 ≤ cap 5 ∧ cap 5 ≤ 40000 := (hs.2.1 5 (by omega)).2.2
  have hb6 : no ≤ cap 6 ∧ 32 ≤ cap 6 ∧ cap 6 ≤ 40000 := (hs.2.1 6 (by omega)).2.2
  refine lv_aload_n hx hb dX2_inspectLine_0 rfl (lv_at hl 0 rfl) ?_
  refine h_get (ci := 2) (v := .ref sh) (C := RX2) (T := TX2) (N := 4) hx hb hts kl_X2 hown hK hw hi9.1 rfl 0 (by decide) (hts _ kf_X2_9) rfl rfl dX2_inspectLine_1 ?_
  refine lv_aload_n hx hb dX2_inspectLine_4 rfl (lv_at hl 0 rfl) ?_
  refine h_get (ci := 2) (v := .int (nI si)) (C := RX2) (T := TX2) (N := 4) hx hb hts kl_X2 hown hK hw hi9.1 rfl 3 (by decide) (hts _ kf_X2_26) rfl rfl dX2_inspectLine_5 ?_
  refine h_callV (n := 1) (ci := 8) (b := sh) (As := [.int (nI si)]) (rest := []) ⟨hx, hb, hml, hown, hts⟩ hK hw (c_X8_differentInLine l D dT ah s.heap.size sh RO RA cap ns nc np no rc f hs si (FC si) ((rwGet_n hsi (by omega)).trans (hV.1 si hsi)) (FP (FC si)) (FP (FC si + 1)) (by omega) (shPo hV hfc (by omega)) (shPe hV hfc (by omega)) (hV.2.2.2.2.2 _ hfc) (shV_n hV (by omega))) ko_X8_differentInLine km_X2_74 ki_X8_differentInLine ks_X8_differentInLine kn_X8 (by decide +kernel) rfl hs.1 rfl hl.1 rfl (by simp [Value.category]) dX2_inspectLine_8 (by rw [hR]; exact ⟨rfl, rfl, Nat.le_of_ble_eq_true rfl, Nat.le_of_ble_eq_true rfl, by simp, by simp⟩) (fun r_1 ah_2 H_3 L_4 st_5 hp hw hst => ?_)
  obtain ⟨dv, rfl, hdf, rfl⟩ := hp
  have hst : st_5 = [.int dv] := hst
  subst hst
  refine lv_iconst (v := 1) hx hb dX2_inspectLine_11 (by decide) ?_
  refine lv_icmp_ne (tgt := 27) hx hb dX2_inspectLine_12 (by decide) (fun c_6 => ?_) (fun c_6 => ?_)
  · skip
    rw [hQ]
    exact h_vret hx hb hr hlk hsz hw (by simp) (by simp) dX2_inspectLine_27 ⟨dv, false, _, _, _, _, hdf, rfl, ⟨hi9.1, hi9.2.1, hi9.2.2.1, hi9.2.2.2⟩, (fun a e9 h1 h2 h3 h4 => (by exact h1)), (by unfold lnM; rw [if_neg c_6]; exact ⟨rfl, rfl, rfl⟩)⟩
  · skip
    refine lv_aload_n hx hb dX2_inspectLine_15 rfl (lv_at hl 0 rfl) ?_
    refine h_get (ci := 2) (v := .ref fd) (C := RX2) (T := TX2) (N := 4) hx hb hts kl_X2 hown hK hw hi9.1 rfl 1 (by decide) (hts _ kf_X2_15) rfl rfl dX2_inspectLine_16 ?_
    refine lv_iconst (v := 2) hx hb dX2_inspectLine_19 (by decide) ?_
    refine lv_aload_n hx hb dX2_inspectLine_20 rfl (lv_at hl 0 rfl) ?_
    refine h_get (ci := 2) (v := .int (nI si)) (C := RX2) (T := TX2) (N := 4) hx hb hts kl_X2 hown hK hw hi9.1 rfl 3 (by decide) (hts _ kf_X2_26) rfl rfl dX2_inspectLine_21 ?_
    refine h_callV (n := 2) (ci := 1) (b := fd) (As := [.int 2, .int (nI si)]) (rest := []) ⟨hx, hb, hml, hown, hts⟩ hK hw (c_X1_tell l D dT ah H_3.size fd pa wh pl hi9.2.1 hi9.2.2.1 2 (nI si)) ko_X1_tell km_X2_77 ki_X1_tell ks_X1_tell kn_X1 (by decide +kernel) rfl hi9.2.1 rfl hl.1 rfl (by simp [Value.category]) dX2_inspectLine_24 (by rw [hR]; exact ⟨rfl, rfl, Nat.le_of_ble_eq_true rfl, Nat.le_of_ble_eq_true rfl, by simp, by simp⟩) (fun r_7 ah_8 H_9 L_10 st_11 hp hw hst => ?_)
    obtain ⟨rfl, eah_8⟩ := hp
    obtain ⟨am_12, eam_12⟩ : ∃ z9 : hA, z9 = hup ah fd (.inr (1, [.int 2, .ref pa])) := ⟨_, rfl⟩
    rw [← eam_12] at eah_8
    have hc_13 := (show am_12 ins = _ from (by rw [eam_12]; exact hup_n (h_ne hi9.1 hi9.2.1 (by simp)))).trans hi9.1
    have hc_14 : am_12 fd = some (.inr (1, [.int 2, .ref pa])) := by rw [eam_12]; exact hup_s
    have hc_15 := (show am_12 pa = _ from (by rw [eam_12]; exact hup_n (h_ne hi9.2.2.1 hi9.2.1 (by simp)))).trans hi9.2.2.1
    have hc_16 := (show am_12 mt = _ from (by rw [eam_12]; exact hup_n (h_ne hi9.2.2.2 hi9.2.1 (by simp)))).trans hi9.2.2.2
    have hc_17 := (show am_12 sh = _ from (by rw [eam_12]; exact hup_n (h_ne hs.1 hi9.2.1 (by simp)))).trans hs.1
    have hc_18 := (show ah_8 ins = _ from (by rw [eah_8]; exact hup_n (h_ne hc_13 hc_15 (by simp)))).trans hc_13
    have hc_19 := (show ah_8 fd = _ from (by rw [eah_8]; exact hup_n (h_ne hc_14 hc_15 (by simp)))).trans hc_14
    have hc_20 : ah_8 pa = some (.inl (dT 0, 7, .inl (upd pl 0 (nI si)))) := by rw [eah_8]; exact hup_s
    have hc_21 := (show ah_8 mt = _ from (by rw [eah_8]; exact hup_n (h_ne hc_16 hc_15 (by simp)))).trans hc_16
    have hc_22 := (show ah_8 sh = _ from (by rw [eah_8]; exact hup_n (h_ne hc_17 hc_15 (by simp)))).trans hc_17
    have hst : st_11 = [] := hst
    subst hst
    rw [hQ]
    exact h_vret hx hb hr hlk hsz hw (by simp) (by simp) dX2_inspectLine_27 ⟨dv, true, _, _, _, _, hdf, rfl, ⟨hc_18, hc_19, hc_20, hc_21⟩, (fun a e9 h1 h2 h3 h4 => (by have g9_0 : am_12 a = some e9 := (by rw [eam_12]; exact (hup_n h2).trans h1); have g9_1 : ah_8 a = some e9 := (by rw [eah_8]; exact (hup_n h3).trans g9_0); exact g9_1)), (by unfold lnM; rw [if_pos c_6]; exact ⟨rfl, rfl, rfl⟩)⟩

set_option maxHeartbeats 4000000 in
set_option maxRecDepth 100000 in
theorem c_X2_inspect (l : Launch) (D : va_G) (dT : Nat → ClassId) (ah : hA) (sz : Nat) (ins sh fd pa mt : Nat) (shp wh : Int32) (pl : Nat → Int32) (mx my : Int32) (hi9 : inA dT ah ins sh fd pa mt shp wh pl mx my) (RO RA cap : Nat → Nat) (ns nc np no rc : Nat) (f : Nat → Nat → Int32) (hs : shA dT ah sh RO RA cap (v7 ns ns ns nc np np no) f rc) (si : Nat) (FC FP : Nat → Nat) (hV : shV ns nc np f FC FP) (hsi : si < ns) (cn : Nat) (hcn : shCnt f ns si cn) (fi : Nat) (hfi : fi = shFi f ns si) (hln : rwGet (f 0) ns (nI si) = 2 → FC si < nc) : hMet l yX2_inspect cX2_inspect 6 none ({ frames := 6, cells := (2 + 3 * cn + 3 * (FC (fi + cn) - FC fi) + 2 * (FP (FC (fi + cn)) - FP (FC fi))), slots := (3 * cn + 14 * (FC (fi + cn) - FC fi) + 13 * (FP (FC (fi + cn)) - FP (FC fi))), locals := 156 }) D dT [.ref ins, .int (nI si)] ah sz (fun r ah2 => ∃ (b : Bool) (wh2 : Int32) (pl2 : Nat → Int32) (mx2 my2 : Int32) (o : fT), r = none ∧ inA dT ah2 ins sh fd pa mt (nI si) wh2 pl2 mx2 my2 ∧ inK4 ah ah2 ins fd pa mt ∧ inR o wh pl b wh2 pl2 ∧ insD f ns FC FP si fi cn pl o) (2 + 3 * cn + 3 * (FC (fi + cn) - FC fi) + 2 * (FP (FC (fi + cn)) - FP (FC fi))) (3 * cn + 14 * (FC (fi + cn) - FC fi) + 13 * (FP (FC (fi + cn)) - FP (FC fi))) := by
  refine h_met (by decide) (Nat.le_of_ble_eq_true rfl) ?_
  intro p e s m below meth c ls R Q args hav hR hQ hB hl hsz hw
  obtain ⟨hx, hb, hml, hr, hts, hown, hlk, hin, hK⟩ := hB
  have hown : s.vm.findClass RX2 = some m.cls := hown
  have hl : lv_has ls 6 [(0, .ref ins), (1, .int (nI si))] := hl
  have hb0 : ns ≤ cap 0 ∧ 32 ≤ cap 0 ∧ cap 0 ≤ 40000 := (hs.2.1 0 (by omega)).2.2
  have hb1 : ns ≤ cap 1 ∧ 32 ≤ cap 1 ∧ cap 1 ≤ 40000 := (hs.2.1 1 (by omega)).2.2
  have hb2 : ns ≤ cap 2 ∧ 32 ≤ cap 2 ∧ cap 2 ≤ 40000 := (hs.2.1 2 (by omega)).2.2
  have hb3 : nc ≤ cap 3 ∧ 32 ≤ cap 3 ∧ cap 3 ≤ 40000 := (hs.2.1 3 (by omega)).2.2
  have hb4 : np ≤ cap 4 ∧ 32 ≤ cap 4 ∧ cap 4 ≤ 40000 := (hs.2.1 4 (by omega)).2.2
  have hb5 : np ≤ cap 5 ∧ 32 ≤ cap 5 ∧ cap 5 ≤ 40000 := (hs.2.1 5 (by omega)).2.2
  have hb6 : no ≤ cap 6 ∧ 32 ≤ cap 6 ∧ cap 6 ≤ 40000 := (hs.2.1 6 (by omega)).2.2
  have hfl : fi + cn ≤ ns := by rw [hfi]; exact shFi_le hcn hsi
  have hfl2 : FC (fi + cn) ≤ nc := shV_c hV (by omega)
  refine lv_aload_n hx hb dX2_inspect_0 rfl (lv_at hl 0 rfl) ?_
  refine lv_iload_n hx hb dX2_inspect_1 rfl (lv_at hl 1 rfl) ?_
  refine h_put (ci := 2) (v := .int (nI si)) (C := RX2) (T := TX2) (N := 4) hx hb hts kl_X2 tyX2 tyX2_ok nmX2 hown hK hw hi9.1 rfl 3 (by decide) (hts _ kf_X2_26) rfl rfl (tyX2_ok 3 (by decide)) rfl rfl (Nat.le_of_ble_eq_true rfl) dX2_inspect_2 (fun H_1 L_2 hw => ?_)
  obtain ⟨ah_3, eah_3⟩ : ∃ z9 : hA, z9 = hup ah ins (.inr (2, [.ref sh, .ref fd, .ref mt, .int (nI si)])) := ⟨_, rfl⟩
  have hw : hW D ah s.heap ah_3 H_1 L_2 := by rw [eah_3]; exact hw
  have hc_4 : ah_3 ins = some (.inr (2, [.ref sh, .ref fd, .ref mt, .int (nI si)])) := by rw [eah_3]; exact hup_s
  have hc_5 := (show ah_3 fd = _ from (by rw [eah_3]; exact hup_n (h_ne hi9.2.1 hi9.1 (by simp)))).trans hi9.2.1
  have hc_6 := (show ah_3 pa = _ from (by rw [eah_3]; exact hup_n (h_ne hi9.2.2.1 hi9.1 (by simp)))).trans hi9.2.2.1
  have hc_7 := (show ah_3 mt = _ from (by rw [eah_3]; exact hup_n (h_ne hi9.2.2.2 hi9.1 (by simp)))).trans hi9.2.2.2
  have hc_8 := (show ah_3 sh = _ from (by rw [eah_3]; exact hup_n (h_ne hs.1 hi9.1 (by simp)))).trans hs.1
  have hs5 := shA_kp (fun a9 e9 h9 hk9 => (show ah_3 a9 = some e9 by rw [eah_3]; exact (hup_n (shk_2 h9 hk9 hi9.1)).trans h9)) hs
  have hi5 : inA dT ah_3 ins sh fd pa mt (nI si) wh pl mx my := ⟨hc_4, hc_5, hc_6, hc_7⟩
  refine lv_aload_n hx hb dX2_inspect_5 rfl (lv_at hl 0 rfl) ?_
  refine h_get (ci := 2) (v := .ref sh) (C := RX2) (T := TX2) (N := 4) hx hb hts kl_X2 hown hK hw hc_4 rfl 0 (by decide) (hts _ kf_X2_9) rfl rfl dX2_inspect_6 ?_
  refine lv_aload_n hx hb dX2_inspect_9 rfl (lv_at hl 0 rfl) ?_
  refine h_get (ci := 2) (v := .int (nI si)) (C := RX2) (T := TX2) (N := 4) hx hb hts kl_X2 hown hK hw hc_4 rfl 3 (by decide) (hts _ kf_X2_26) rfl rfl dX2_inspect_10 ?_
  refine h_callV (n := 1) (ci := 8) (b := sh) (As := [.int (nI si)]) (rest := []) ⟨hx, hb, hml, hown, hts⟩ hK hw (c_X8_kind l D dT ah_3 H_1.size sh RO RA cap ns nc np no rc f hs5 (nI si)) ko_X8_kind km_X2_30 ki_X8_kind ks_X8_kind kn_X8 (by decide +kernel) rfl hc_8 rfl hl.1 rfl (by simp [Value.category]) dX2_inspect_13 (by rw [hR]; exact ⟨rfl, rfl, Nat.le_of_ble_eq_true rfl, Nat.le_of_ble_eq_true rfl, (by dsimp only; omega), (by dsimp only; omega)⟩) (fun r_9 ah_10 H_11 L_12 st_13 hp hw hst => ?_)
  obtain ⟨rfl, rfl⟩ := hp
  have hst : st_13 = [.int (rwGet (f 0) ns (nI si))] := hst
  subst hst
  refine lv_iconst (v := 2) hx hb dX2_inspect_16 (by decide) ?_
  refine lv_icmp_ne (tgt := 25) hx hb dX2_inspect_17 (by decide) (fun c_14 => ?_) (fun c_14 => ?_)
  · skip
    refine lv_aload_n hx hb dX2_inspect_25 rfl (lv_at hl 0 rfl) ?_
    refine h_get (ci := 2) (v := .ref sh) (C := RX2) (T := TX2) (N := 4) hx hb hts kl_X2 hown hK hw hc_4 rfl 0 (by decide) (hts _ kf_X2_9) rfl rfl dX2_inspect_26 ?_
    refine lv_aload_n hx hb dX2_inspect_29 rfl (lv_at hl 0 rfl) ?_
    refine h_get (ci := 2) (v := .int (nI si)) (C := RX2) (T := TX2) (N := 4) hx hb hts kl_X2 hown hK hw hc_4 rfl 3 (by decide) (hts _ kf_X2_26) rfl rfl dX2_inspect_30 ?_
    refine h_callV (n := 1) (ci := 8) (b := sh) (As := [.int (nI si)]) (rest := []) ⟨hx, hb, hml, hown, hts⟩ hK hw (c_X8_polygonsOf l D dT ah_3 H_11.size sh RO RA cap ns nc np no rc f hs5 FC FP hV si hsi cn hcn fi hfi) ko_X8_polygonsOf km_X2_39 ki_X8_polygonsOf ks_X8_polygonsOf kn_X8 (by decide +kernel) rfl hc_8 rfl hl.1 rfl (by simp [Value.category]) dX2_inspect_33 (by rw [hR]; exact ⟨rfl, rfl, Nat.le_of_ble_eq_true rfl, Nat.le_of_ble_eq_true rfl, (by dsimp only; omega), (by dsimp only; omega)⟩) (fun r_15 ah_16 H_17 L_18 st_19 hp hw hst => ?_)
    obtain ⟨qa, FQ, PT, rfl, hqa, hM, hEp⟩ := hp
    have hiP := inA_ext hEp hi5
    have hmP : mpA dT ah_16 qa cn FQ PT (nrF FC fi) nI := ⟨hqa, fun j hj => ⟨(hM.1 j hj).1, (hM.1 j hj).2.1⟩⟩
    have hD : mpD (f 4) (f 5) FC FP fi cn PT := ⟨fun j hj => (hM.1 j hj).2.2.1, hM.2⟩
    have hst : st_19 = [.ref qa] := hst
    subst hst
    refine lv_astore_n (lv' := [(2, .ref qa), (0, .ref ins), (1, .int (nI si))]) hx hb dX2_inspect_36 rfl hl (by decide) rfl (fun ls hl => ?_)
    refine lv_iconst (v := 0) hx hb dX2_inspect_37 (by decide) ?_
    refine lv_istore_n (lv' := [(3, .int 0), (2, .ref qa), (0, .ref ins), (1, .int (nI si))]) hx hb dX2_inspect_38 rfl hl (by decide) rfl (fun ls hl => ?_)
    refine lv_iconst (v := 0) hx hb dX2_inspect_39 (by decide) ?_
    refine lv_istore (lv' := [(4, .int 0), (3, .int 0), (2, .ref qa), (0, .ref ins), (1, .int (nI si))]) hx hb dX2_inspect_40 hl (by decide) rfl (fun ls hl => ?_)
    have LP42 : ∀ (k42 : Nat) (i : Nat) (fb : Bool) (wh42 : Int32) (pl42 : Nat → Int32) (mx42 : Int32) (my42 : Int32) (ah42 : hA) (ls : Array Slot) (H42 : Heap) (L42 : List Loc), (cn - i < k42) → (i ≤ cn) → (inA dT ah42 ins sh fd pa mt (nI si) wh42 pl42 mx42 my42) → (inK ah_16 ah42 fd pa mt) → (inR (firstO i (fun j => paM (nI si) pl (nrF FC fi j) (nI j) (PT j).2.2.2)) wh pl fb wh42 pl42) → lv_has ls 6 [(4, .int (nI i)), (3, .int (bI fb)), (2, .ref qa), (0, .ref ins), (1, .int (nI si))] → hW D ah s.heap ah42 H42 L42 → W p l e R s m args below meth c H42 L42 (1 + 2 * cn + 3 * (FC (fi + cn) - FC fi) + 2 * (FP (FC (fi + cn)) - FP (FC fi)) + i) (3 * cn + 12 * (FC (fi + cn) - FC fi) + 13 * (FP (FC (fi + cn)) - FP (FC fi)) + (FC (fi + i) - FC fi)) Q (F0 m 42 ls []) := by
      intro k42
      induction k42 with
      | zero => intro i fb wh42 pl42 mx42 my42 ah42 ls H42 L42 hk; exact absurd hk (Nat.not_lt_zero _)
      | succ k42 ih42 =>
        intro i fb wh42 pl42 mx42 my42 ah42 ls H42 L42 hk42 hi42n hi42 hK42 hR42 hl hw
        have hmp42 := mpA_j (fun a e h hj => inK_j hiP hK42 h hj) hmP
        have hu1 : FC fi ≤ FC (fi + i) := shV_f hV (by omega) (by omega)
        have hu2 : FC (fi + i) ≤ FC (fi + cn) := shV_f hV (by omega) (by omega)
        refine lv_iload hx hb dX2_inspect_42 (lv_at hl 0 rfl) ?_
        refine lv_aload_n hx hb dX2_inspect_44 rfl (lv_at hl 2 rfl) ?_
        refine h_alen hx hb hK hw 4 rfl hmp42.1 dX2_inspect_45 ?_
        refine lv_icmp_ge (tgt := 120) hx hb dX2_inspect_46 (by decide) (fun c_20 => ?_) (fun c_20 => ?_)
        · skip
          have c_20 : cn ≤ i := (nI_lex (by rfl) (by rfl) (by omega) (by omega)).mp c_20
          refine lv_iload_n hx hb dX2_inspect_120 rfl (lv_at hl 1 rfl) ?_
          refine lv_if_ne (tgt := 147) hx hb dX2_inspect_121 (by decide) (fun c_21 => ?_) (fun c_21 => ?_)
          · skip
            have c_21 : ¬ (fb = false) := (not_congr bI_0).mp c_21
            rw [hQ]
            exact h_vret hx hb hr hlk hsz hw (by omega) (by omega) dX2_inspect_147 ⟨fb, _, _, _, _, _, rfl, hi42, (fun a e9 h1 h5 h2 h3 h4 => (by have g9_0 : ah_3 a = some e9 := (by rw [eah_3]; exact (hup_n h5).trans h1); have g9_1 : ah_16 a = some e9 := hEp a e9 g9_0; have g9_2 : ah42 a = some e9 := hK42 a e9 g9_1 h2 h3 h4; exact g9_2)), hR42, Or.inr ⟨c_14, PT, fun _ => rg0, hD, (fun h9 => absurd (firstO_up (inR_t hR42 c_21) hi42n) (by rw [h9]; simp)), (insM_f (firstO_up (inR_t hR42 c_21) hi42n)).trans (inR_t hR42 c_21).symm |>.symm⟩⟩
          · skip
            have c_21 : fb = false := bI_0.mp c_21
            obtain ⟨hno42, rfl, rfl⟩ := inR_f hR42 c_21
            have hno42 : firstO cn (fun j => paM (nI si) pl (nrF FC fi j) (nI j) (PT j).2.2.2) = none := by rw [← hno42, show cn = i by omega]
            refine lv_aload_n hx hb dX2_inspect_124 rfl (lv_at hl 2 rfl) ?_
            refine h_alen hx hb hK hw 4 rfl hmp42.1 dX2_inspect_125 ?_
            refine lv_iconst (v := 1) hx hb dX2_inspect_126 (by decide) ?_
            refine lv_icmp_le (tgt := 147) hx hb dX2_inspect_127 (by decide) (fun c_22 => ?_) (fun c_22 => ?_)
            · skip
              have c_22 : cn ≤ 1 := (nI_lex (by rfl) (by decide) (by omega) (by omega)).mp c_22
              rw [hQ]
              exact h_vret hx hb hr hlk hsz hw (by omega) (by omega) dX2_inspect_147 ⟨false, _, _, _, _, none, rfl, hi42, (fun a e9 h1 h5 h2 h3 h4 => (by have g9_0 : ah_3 a = some e9 := (by rw [eah_3]; exact (hup_n h5).trans h1); have g9_1 : ah_16 a = some e9 := hEp a e9 g9_0; have g9_2 : ah42 a = some e9 := hK42 a e9 g9_1 h2 h3 h4; exact g9_2)), ⟨rfl, rfl, rfl⟩, Or.inr ⟨c_14, PT, fun _ => rg0, hD, (fun _ h9 => by omega), (insM_1 hno42 c_22).symm⟩⟩
            · skip
              have c_22 : ¬ (cn ≤ 1) := (not_congr (nI_lex (by rfl) (by decide) (by omega) (by omega))).mp c_22
              refine lv_aload_n hx hb dX2_inspect_130 rfl (lv_at hl 3 rfl) ?_
              refine lv_aload_n hx hb dX2_inspect_131 rfl (lv_at hl 2 rfl) ?_
              refine h_callS (n := 1) (As := [.ref qa]) (rest := [.ref ins]) ⟨hx, hb, hml, hown, hts⟩ hK hw (c_X2_allRings l D dT ah42 H42.size qa cn FQ PT (nrF FC fi) nI (by omega) hmp42 (fun j => FC (fi + j) - FC fi) (by simp) (fun j hj => by have h7 : FC (fi + j) ≤ FC (fi + j + 1) := hV.2.2.2.2.1 _ (by omega); have h8 : FC fi ≤ FC (fi + j) := shV_f hV (by omega) (by omega); show FC (fi + (j + 1)) - FC fi = FC (fi + j) - FC fi + (FC (fi + j + 1) - FC (fi + j)); have h9 : FC (fi + (j + 1)) = FC (fi + j + 1) := rfl; omega) (by omega)) ko_X2_allRings km_X2_66 kt_X2_allRings kn_X2 (by decide +kernel) rfl hl.1 rfl (by simp [Value.category]) dX2_inspect_132 (by rw [hR]; exact ⟨rfl, rfl, Nat.le_of_ble_eq_true rfl, Nat.le_of_ble_eq_true rfl, (by dsimp only; omega), (by dsimp only; omega)⟩) (fun r_23 ah_24 H_25 L_26 st_27 hp hw hst => ?_)
              obtain ⟨qb, FA, RTA, rfl, hrA, hAl, hEa⟩ := hp
              have hi_al := inA_ext hEa hi42
              have hst : st_27 = [.ref qb, .ref ins] := hst
              subst hst
              refine lv_iconst (v := 1) hx hb dX2_inspect_135 (by decide) ?_
              refine h_callV (n := 2) (ci := 2) (b := ins) (As := [.ref qb, .int 1]) (rest := []) ⟨hx, hb, hml, hown, hts⟩ hK hw (c_X2_inspectSegments l D dT ah_24 H_25.size ins sh fd pa mt (nI si) wh pl mx42 my42 hi_al qb (FC (fi + cn) - FC fi) FA RTA hrA (al_2 hAl hD hno42 hV (by omega)) true) ko_X2_inspectSegments km_X2_53 ki_X2_inspectSegments ks_X2_inspectSegments kn_X2 (by decide +kernel) rfl hi_al.1 rfl hl.1 rfl (by simp [Value.category]) dX2_inspect_136 (by rw [hR]; exact ⟨rfl, rfl, Nat.le_of_ble_eq_true rfl, Nat.le_of_ble_eq_true rfl, (by dsimp only; omega), (by dsimp only; omega)⟩) (fun r_28 ah_29 H_30 L_31 st_32 hp hw hst => ?_)
              obtain ⟨b_al2, wh_al2, pl_al2, mx_al2, my_al2, rfl, hi_al2, hK_al2, hR_al2⟩ := hp
              have hKK_al2 := inK_t (inK_x hK42 hEa) hK_al2
              have hst : st_32 = [.int (bI b_al2)] := hst
              subst hst
              refine lv_if_ne (tgt := 147) hx hb dX2_inspect_139 (by decide) (fun c_33 => ?_) (fun c_33 => ?_)
              · skip
                have c_33 : ¬ (b_al2 = false) := (not_congr bI_0).mp c_33
                rw [hQ]
                exact h_vret hx hb hr hlk hsz hw (by omega) (by omega) dX2_inspect_147 ⟨b_al2, _, _, _, _, _, rfl, hi_al2, (fun a e9 h1 h5 h2 h3 h4 => (by have g9_0 : ah_3 a = some e9 := (by rw [eah_3]; exact (hup_n h5).trans h1); have g9_1 : ah_16 a = some e9 := hEp a e9 g9_0; have g9_2 : ah42 a = some e9 := hK42 a e9 g9_1 h2 h3 h4; have g9_3 : ah_24 a = some e9 := hEa a e9 g9_2; have g9_4 : ah_29 a = some e9 := hK_al2 a e9 g9_3 h2 h3 h4; exact g9_4)), hR_al2, Or.inr ⟨c_14, PT, RTA, hD, (fun _ _ => hAl), (insM_s hno42 c_22 (inR_t hR_al2 c_33)).trans (inR_t hR_al2 c_33).symm |>.symm⟩⟩
              · skip
                have c_33 : b_al2 = false := bI_0.mp c_33
                obtain ⟨hn_al2, rfl, rfl⟩ := inR_f hR_al2 c_33
                refine lv_aload_n hx hb dX2_inspect_142 rfl (lv_at hl 3 rfl) ?_
                refine lv_aload_n hx hb dX2_inspect_143 rfl (lv_at hl 2 rfl) ?_
                refine h_callV (n := 1) (ci := 2) (b := ins) (As := [.ref qa]) (rest := []) ⟨hx, hb, hml, hown, hts⟩ hK hw (c_X2_inspectPairsOfParts l D dT ah_29 H_30.size ins sh fd pa mt (nI si) wh pl mx_al2 my_al2 hi_al2 qa cn FQ PT (nrF FC fi) nI (by omega) (mpA_j (fun a e h hj => inK_j hiP hKK_al2 h hj) hmP)) ko_X2_inspectPairsOfParts km_X2_70 ki_X2_inspectPairsOfParts ks_X2_inspectPairsOfParts kn_X2 (by decide +kernel) rfl hi_al2.1 rfl hl.1 rfl (by simp [Value.category]) dX2_inspect_144 (by rw [hR]; exact ⟨rfl, rfl, Nat.le_of_ble_eq_true rfl, Nat.le_of_ble_eq_true rfl, (by dsimp only; omega), (by dsimp only; omega)⟩) (fun r_34 ah_35 H_36 L_37 st_38 hp hw hst => ?_)
                obtain ⟨b_pp, wh_pp, pl_pp, mx_pp, my_pp, rfl, hi_pp, hK_pp, hR_pp⟩ := hp
                have hKK_pp := inK_t hKK_al2 hK_pp
                have hst : st_38 = [] := hst
                subst hst
                rw [hQ]
                exact h_vret hx hb hr hlk hsz hw (by omega) (by omega) dX2_inspect_147 ⟨b_pp, _, _, _, _, _, rfl, hi_pp, (fun a e9 h1 h5 h2 h3 h4 => (by have g9_0 : ah_3 a = some e9 := (by rw [eah_3]; exact (hup_n h5).trans h1); have g9_1 : ah_16 a = some e9 := hEp a e9 g9_0; have g9_2 : ah42 a = some e9 := hK42 a e9 g9_1 h2 h3 h4; have g9_3 : ah_24 a = some e9 := hEa a e9 g9_2; have g9_4 : ah_29 a = some e9 := hK_al2 a e9 g9_3 h2 h3 h4; have g9_5 : ah_35 a = some e9 := hK_pp a e9 g9_4 h2 h3 h4; exact g9_5)), hR_pp, Or.inr ⟨c_14, PT, RTA, hD, (fun _ _ => hAl), (insM_p hno42 c_22 hn_al2).symm⟩⟩
        · skip
          have c_20 : ¬ (cn ≤ i) := (not_congr (nI_lex (by rfl) (by rfl) (by omega) (by omega))).mp c_20
          refine lv_iload_n hx hb dX2_inspect_49 rfl (lv_at hl 1 rfl) ?_
          refine lv_if_ne (tgt := 120) hx hb dX2_inspect_50 (by decide) (fun c_39 => ?_) (fun c_39 => ?_)
          · skip
            have c_39 : ¬ (fb = false) := (not_congr bI_0).mp c_39
            refine lv_iload_n hx hb dX2_inspect_120 rfl (lv_at hl 1 rfl) ?_
            refine lv_if_ne (tgt := 147) hx hb dX2_inspect_121 (by decide) (fun c_40 => ?_) (fun c_40 => ?_)
            · skip
              have c_40 : ¬ (fb = false) := (not_congr bI_0).mp c_40
              rw [hQ]
              exact h_vret hx hb hr hlk hsz hw (by omega) (by omega) dX2_inspect_147 ⟨fb, _, _, _, _, _, rfl, hi42, (fun a e9 h1 h5 h2 h3 h4 => (by have g9_0 : ah_3 a = some e9 := (by rw [eah_3]; exact (hup_n h5).trans h1); have g9_1 : ah_16 a = some e9 := hEp a e9 g9_0; have g9_2 : ah42 a = some e9 := hK42 a e9 g9_1 h2 h3 h4; exact g9_2)), hR42, Or.inr ⟨c_14, PT, fun _ => rg0, hD, (fun h9 => absurd (firstO_up (inR_t hR42 c_40) hi42n) (by rw [h9]; simp)), (insM_f (firstO_up (inR_t hR42 c_40) hi42n)).trans (inR_t hR42 c_40).symm |>.symm⟩⟩
            · skip
              have c_40 : fb = false := bI_0.mp c_40
              exfalso
              exact c_39 c_40
          · skip
            have c_39 : fb = false := bI_0.mp c_39
            obtain ⟨hno42, rfl, rfl⟩ := inR_f hR42 c_39
            have hpl42 := (hmp42.2 i (by omega)).2
            have hnr1 : nrF FC fi i = FC (fi + i + 1) - FC (fi + i) := rfl
            have hnr2 : FC (fi + i) ≤ FC (fi + i + 1) := hV.2.2.2.2.1 _ (by omega)
            have hnr3 : FC (fi + i + 1) ≤ FC (fi + cn) := shV_f hV (by omega) (by omega)
            refine lv_aload_n hx hb dX2_inspect_53 rfl (lv_at hl 2 rfl) ?_
            refine lv_iload hx hb dX2_inspect_54 (lv_at hl 0 rfl) ?_
            refine h_aald hx hb hK hw 4 rfl hmp42.1 i rfl (by omega) (by omega) (hmp42.2 i (by omega)).1 dX2_inspect_56 ?_
            refine lv_astore (lv' := [(5, .ref ((PT i).1)), (4, .int (nI i)), (3, .int (bI fb)), (2, .ref qa), (0, .ref ins), (1, .int (nI si))]) hx hb dX2_inspect_57 hl (by decide) rfl (fun ls hl => ?_)
            refine lv_aload_n hx hb dX2_inspect_59 rfl (lv_at hl 4 rfl) ?_
            refine lv_aload hx hb dX2_inspect_60 (lv_at hl 0 rfl) ?_
            refine h_callV (n := 1) (ci := 2) (b := ins) (As := [.ref ((PT i).1)]) (rest := []) ⟨hx, hb, hml, hown, hts⟩ hK hw (c_X2_inspectRings l D dT ah42 H42.size ins sh fd pa mt (nI si) wh pl mx42 my42 hi42 (PT i).1 (PT i).2.1 (nrF FC fi i) (nI i) (PT i).2.2.1 (PT i).2.2.2 hpl42) ko_X2_inspectRings km_X2_43 ki_X2_inspectRings ks_X2_inspectRings kn_X2 (by decide +kernel) rfl hi42.1 rfl hl.1 rfl (by simp [Value.category]) dX2_inspect_62 (by rw [hR]; exact ⟨rfl, rfl, Nat.le_of_ble_eq_true rfl, Nat.le_of_ble_eq_true rfl, (by dsimp only; omega), (by dsimp only; omega)⟩) (fun r_41 ah_42 H_43 L_44 st_45 hp hw hst => ?_)
            obtain ⟨b_ir, wh_ir, pl_ir, mx_ir, my_ir, rfl, hi_ir, hK_ir, hR_ir⟩ := hp
            have hKK_ir := inK_t hK42 hK_ir
            have hpl_ir := plA_j (fun a e h hj => inK_j hiP hKK_ir h hj) (hmP.2 i (by omega)).2
            have hst : st_45 = [.int (bI b_ir)] := hst
            subst hst
            refine lv_if_ne (tgt := 108) hx hb dX2_inspect_65 (by decide) (fun c_46 => ?_) (fun c_46 => ?_)
            · skip
              have c_46 : ¬ (b_ir = false) := (not_congr bI_0).mp c_46
              refine lv_iconst (v := 1) hx hb dX2_inspect_108 (by decide) ?_
              refine lv_goto (tgt := 113) hx hb dX2_inspect_109 (by decide) ?_
              refine lv_istore_n (lv' := [(3, .int 1), (5, .ref ((PT i).1)), (4, .int (nI i)), (2, .ref qa), (0, .ref ins), (1, .int (nI si))]) hx hb dX2_inspect_113 rfl hl (by decide) rfl (fun ls hl => ?_)
              refine lv_iinc (v := nI (i + 1)) (lv' := [(4, .int (nI (i + 1))), (3, .int 1), (5, .ref ((PT i).1)), (2, .ref qa), (0, .ref ins), (1, .int (nI si))]) hx hb dX2_inspect_114 hl (k := 2) rfl (nI_c _ 1) (by decide) rfl (fun ls hl => ?_)
              refine lv_goto (tgt := 42) hx hb dX2_inspect_117 (by decide) ?_
              refine W.widen (k := 1 + 2 * cn + 3 * (FC (fi + cn) - FC fi) + 2 * (FP (FC (fi + cn)) - FP (FC fi)) + (i + 1)) (n := 3 * cn + 12 * (FC (fi + cn) - FC fi) + 13 * (FP (FC (fi + cn)) - FP (FC fi)) + (FC (fi + (i + 1)) - FC fi)) (by have h7 : FC (fi + (i + 1)) = FC (fi + i + 1) := rfl; have h8 : nrF FC fi i = FC (fi + i + 1) - FC (fi + i) := rfl; have h6 : FC (fi + i) ≤ FC (fi + i + 1) := hV.2.2.2.2.1 _ (by omega); omega) (by have h7 : FC (fi + (i + 1)) = FC (fi + i + 1) := rfl; have h8 : nrF FC fi i = FC (fi + i + 1) - FC (fi + i) := rfl; have h6 : FC (fi + i) ≤ FC (fi + i + 1) := hV.2.2.2.2.1 _ (by omega); omega) ?_
              exact ih42 (i + 1) true wh_ir pl_ir mx_ir my_ir ah_42 ls _ _ (by omega) (by omega) hi_ir hKK_ir (by have h9 := (pa_ir hno42  hR_ir c_46); rw [show b_ir = true from nF c_46] at h9; exact h9) (lv_sub hl [0, 1, 3, 4, 5] rfl) hw
            · skip
              have c_46 : b_ir = false := bI_0.mp c_46
              obtain ⟨hn_ir, rfl, rfl⟩ := inR_f hR_ir c_46
              refine lv_aload_n hx hb dX2_inspect_68 rfl (lv_at hl 4 rfl) ?_
              refine lv_aload hx hb dX2_inspect_69 (lv_at hl 0 rfl) ?_
              refine h_getN (ci := 4) (v := .ref ((PT i).2.1)) (C := RX4) (T := TX4) (N := 2) hx hb hts kl_X4 hown hK hw hpl_ir.1 rfl 1 (by decide) (va_Nw.use rfl (hK.2.1 _ (List.mem_of_getElem? (i := 34) rfl))) rfl rfl dX2_inspect_71 ?_
              refine lv_iconst (v := 0) hx hb dX2_inspect_74 (by decide) ?_
              refine h_callV (n := 2) (ci := 2) (b := ins) (As := [.ref ((PT i).2.1), .int 0]) (rest := []) ⟨hx, hb, hml, hown, hts⟩ hK hw (c_X2_inspectSegments l D dT ah_42 H_43.size ins sh fd pa mt (nI si) wh pl mx_ir my_ir hi_ir (PT i).2.1 (nrF FC fi i) (PT i).2.2.1 (PT i).2.2.2 hpl_ir.2 (frR_2 hn_ir (hD.1 i (by omega)))  false) ko_X2_inspectSegments km_X2_53 ki_X2_inspectSegments ks_X2_inspectSegments kn_X2 (by decide +kernel) rfl hi_ir.1 rfl hl.1 rfl (by simp [Value.category]) dX2_inspect_75 (by rw [hR]; exact ⟨rfl, rfl, Nat.le_of_ble_eq_true rfl, Nat.le_of_ble_eq_true rfl, (by dsimp only; omega), (by dsimp only; omega)⟩) (fun r_48 ah_49 H_50 L_51 st_52 hp hw hst => ?_)
              obtain ⟨b_is, wh_is, pl_is, mx_is, my_is, rfl, hi_is, hK_is, hR_is⟩ := hp
              have hKK_is := inK_t hKK_ir hK_is
              have hpl_is := plA_j (fun a e h hj => inK_j hiP hKK_is h hj) (hmP.2 i (by omega)).2
              have hst : st_52 = [.int (bI b_is)] := hst
              subst hst
              refine lv_if_ne (tgt := 108) hx hb dX2_inspect_78 (by decide) (fun c_53 => ?_) (fun c_53 => ?_)
              · skip
                have c_53 : ¬ (b_is = false) := (not_congr bI_0).mp c_53
                refine lv_iconst (v := 1) hx hb dX2_inspect_108 (by decide) ?_
                refine lv_goto (tgt := 113) hx hb dX2_inspect_109 (by decide) ?_
                refine lv_istore_n (lv' := [(3, .int 1), (5, .ref ((PT i).1)), (4, .int (nI i)), (2, .ref qa), (0, .ref ins), (1, .int (nI si))]) hx hb dX2_inspect_113 rfl hl (by decide) rfl (fun ls hl => ?_)
                refine lv_iinc (v := nI (i + 1)) (lv' := [(4, .int (nI (i + 1))), (3, .int 1), (5, .ref ((PT i).1)), (2, .ref qa), (0, .ref ins), (1, .int (nI si))]) hx hb dX2_inspect_114 hl (k := 2) rfl (nI_c _ 1) (by decide) rfl (fun ls hl => ?_)
                refine lv_goto (tgt := 42) hx hb dX2_inspect_117 (by decide) ?_
                refine W.widen (k := 1 + 2 * cn + 3 * (FC (fi + cn) - FC fi) + 2 * (FP (FC (fi + cn)) - FP (FC fi)) + (i + 1)) (n := 3 * cn + 12 * (FC (fi + cn) - FC fi) + 13 * (FP (FC (fi + cn)) - FP (FC fi)) + (FC (fi + (i + 1)) - FC fi)) (by have h7 : FC (fi + (i + 1)) = FC (fi + i + 1) := rfl; have h8 : nrF FC fi i = FC (fi + i + 1) - FC (fi + i) := rfl; have h6 : FC (fi + i) ≤ FC (fi + i + 1) := hV.2.2.2.2.1 _ (by omega); omega) (by have h7 : FC (fi + (i + 1)) = FC (fi + i + 1) := rfl; have h8 : nrF FC fi i = FC (fi + i + 1) - FC (fi + i) := rfl; have h6 : FC (fi + i) ≤ FC (fi + i + 1) := hV.2.2.2.2.1 _ (by omega); omega) ?_
                exact ih42 (i + 1) true wh_is pl_is mx_is my_is ah_49 ls _ _ (by omega) (by omega) hi_is hKK_is (by have h9 := (pa_is hno42 hn_ir hR_is c_53); rw [show b_is = true from nF c_53] at h9; exact h9) (lv_sub hl [0, 1, 3, 4, 5] rfl) hw
              · skip
                have c_53 : b_is = false := bI_0.mp c_53
                obtain ⟨hn_is, rfl, rfl⟩ := inR_f hR_is c_53
                refine lv_aload_n hx hb dX2_inspect_81 rfl (lv_at hl 4 rfl) ?_
                refine lv_aload hx hb dX2_inspect_82 (lv_at hl 0 rfl) ?_
                refine h_callV (n := 1) (ci := 2) (b := ins) (As := [.ref ((PT i).1)]) (rest := []) ⟨hx, hb, hml, hown, hts⟩ hK hw (c_X2_inspectHoles l D dT ah_49 H_50.size ins sh fd pa mt (nI si) wh pl mx_is my_is hi_is (PT i).1 (PT i).2.1 (nrF FC fi i) (nI i) (PT i).2.2.1 (PT i).2.2.2 hpl_is) ko_X2_inspectHoles km_X2_57 ki_X2_inspectHoles ks_X2_inspectHoles kn_X2 (by decide +kernel) rfl hi_is.1 rfl hl.1 rfl (by simp [Value.category]) dX2_inspect_84 (by rw [hR]; exact ⟨rfl, rfl, Nat.le_of_ble_eq_true rfl, Nat.le_of_ble_eq_true rfl, (by dsimp only; omega), (by dsimp only; omega)⟩) (fun r_55 ah_56 H_57 L_58 st_59 hp hw hst => ?_)
                obtain ⟨b_ho, wh_ho, pl_ho, mx_ho, my_ho, rfl, hi_ho, hK_ho, hR_ho⟩ := hp
                have hKK_ho := inK_t hKK_is hK_ho
                have hpl_ho := plA_j (fun a e h hj => inK_j hiP hKK_ho h hj) (hmP.2 i (by omega)).2
                have hst : st_59 = [.int (bI b_ho)] := hst
                subst hst
                refine lv_if_ne (tgt := 108) hx hb dX2_inspect_87 (by decide) (fun c_60 => ?_) (fun c_60 => ?_)
                · skip
                  have c_60 : ¬ (b_ho = false) := (not_congr bI_0).mp c_60
                  refine lv_iconst (v := 1) hx hb dX2_inspect_108 (by decide) ?_
                  refine lv_goto (tgt := 113) hx hb dX2_inspect_109 (by decide) ?_
                  refine lv_istore_n (lv' := [(3, .int 1), (5, .ref ((PT i).1)), (4, .int (nI i)), (2, .ref qa), (0, .ref ins), (1, .int (nI si))]) hx hb dX2_inspect_113 rfl hl (by decide) rfl (fun ls hl => ?_)
                  refine lv_iinc (v := nI (i + 1)) (lv' := [(4, .int (nI (i + 1))), (3, .int 1), (5, .ref ((PT i).1)), (2, .ref qa), (0, .ref ins), (1, .int (nI si))]) hx hb dX2_inspect_114 hl (k := 2) rfl (nI_c _ 1) (by decide) rfl (fun ls hl => ?_)
                  refine lv_goto (tgt := 42) hx hb dX2_inspect_117 (by decide) ?_
                  refine W.widen (k := 1 + 2 * cn + 3 * (FC (fi + cn) - FC fi) + 2 * (FP (FC (fi + cn)) - FP (FC fi)) + (i + 1)) (n := 3 * cn + 12 * (FC (fi + cn) - FC fi) + 13 * (FP (FC (fi + cn)) - FP (FC fi)) + (FC (fi + (i + 1)) - FC fi)) (by have h7 : FC (fi + (i + 1)) = FC (fi + i + 1) := rfl; have h8 : nrF FC fi i = FC (fi + i + 1) - FC (fi + i) := rfl; have h6 : FC (fi + i) ≤ FC (fi + i + 1) := hV.2.2.2.2.1 _ (by omega); omega) (by have h7 : FC (fi + (i + 1)) = FC (fi + i + 1) := rfl; have h8 : nrF FC fi i = FC (fi + i + 1) - FC (fi + i) := rfl; have h6 : FC (fi + i) ≤ FC (fi + i + 1) := hV.2.2.2.2.1 _ (by omega); omega) ?_
                  exact ih42 (i + 1) true wh_ho pl_ho mx_ho my_ho ah_56 ls _ _ (by omega) (by omega) hi_ho hKK_ho (by have h9 := (pa_ho hno42 hn_ir hn_is hR_ho c_60); rw [show b_ho = true from nF c_60] at h9; exact h9) (lv_sub hl [0, 1, 3, 4, 5] rfl) hw
                · skip
                  have c_60 : b_ho = false := bI_0.mp c_60
                  obtain ⟨hn_ho, rfl, rfl⟩ := inR_f hR_ho c_60
                  refine lv_aload_n hx hb dX2_inspect_90 rfl (lv_at hl 4 rfl) ?_
                  refine lv_aload hx hb dX2_inspect_91 (lv_at hl 0 rfl) ?_
                  refine h_callV (n := 1) (ci := 2) (b := ins) (As := [.ref ((PT i).1)]) (rest := []) ⟨hx, hb, hml, hown, hts⟩ hK hw (c_X2_inspectPairsOfHoles l D dT ah_56 H_57.size ins sh fd pa mt (nI si) wh pl mx_ho my_ho hi_ho (PT i).1 (PT i).2.1 (nrF FC fi i) (nI i) (PT i).2.2.1 (PT i).2.2.2 hpl_ho) ko_X2_inspectPairsOfHoles km_X2_60 ki_X2_inspectPairsOfHoles ks_X2_inspectPairsOfHoles kn_X2 (by decide +kernel) rfl hi_ho.1 rfl hl.1 rfl (by simp [Value.category]) dX2_inspect_93 (by rw [hR]; exact ⟨rfl, rfl, Nat.le_of_ble_eq_true rfl, Nat.le_of_ble_eq_true rfl, (by dsimp only; omega), (by dsimp only; omega)⟩) (fun r_62 ah_63 H_64 L_65 st_66 hp hw hst => ?_)
                  obtain ⟨b_ph, wh_ph, pl_ph, mx_ph, my_ph, rfl, hi_ph, hK_ph, hR_ph⟩ := hp
                  have hKK_ph := inK_t hKK_ho hK_ph
                  have hpl_ph := plA_j (fun a e h hj => inK_j hiP hKK_ph h hj) (hmP.2 i (by omega)).2
                  have hst : st_66 = [.int (bI b_ph)] := hst
                  subst hst
                  refine lv_if_ne (tgt := 108) hx hb dX2_inspect_96 (by decide) (fun c_67 => ?_) (fun c_67 => ?_)
                  · skip
                    have c_67 : ¬ (b_ph = false) := (not_congr bI_0).mp c_67
                    refine lv_iconst (v := 1) hx hb dX2_inspect_108 (by decide) ?_
                    refine lv_goto (tgt := 113) hx hb dX2_inspect_109 (by decide) ?_
                    refine lv_istore_n (lv' := [(3, .int 1), (5, .ref ((PT i).1)), (4, .int (nI i)), (2, .ref qa), (0, .ref ins), (1, .int (nI si))]) hx hb dX2_inspect_113 rfl hl (by decide) rfl (fun ls hl => ?_)
                    refine lv_iinc (v := nI (i + 1)) (lv' := [(4, .int (nI (i + 1))), (3, .int 1), (5, .ref ((PT i).1)), (2, .ref qa), (0, .ref ins), (1, .int (nI si))]) hx hb dX2_inspect_114 hl (k := 2) rfl (nI_c _ 1) (by decide) rfl (fun ls hl => ?_)
                    refine lv_goto (tgt := 42) hx hb dX2_inspect_117 (by decide) ?_
                    refine W.widen (k := 1 + 2 * cn + 3 * (FC (fi + cn) - FC fi) + 2 * (FP (FC (fi + cn)) - FP (FC fi)) + (i + 1)) (n := 3 * cn + 12 * (FC (fi + cn) - FC fi) + 13 * (FP (FC (fi + cn)) - FP (FC fi)) + (FC (fi + (i + 1)) - FC fi)) (by have h7 : FC (fi + (i + 1)) = FC (fi + i + 1) := rfl; have h8 : nrF FC fi i = FC (fi + i + 1) - FC (fi + i) := rfl; have h6 : FC (fi + i) ≤ FC (fi + i + 1) := hV.2.2.2.2.1 _ (by omega); omega) (by have h7 : FC (fi + (i + 1)) = FC (fi + i + 1) := rfl; have h8 : nrF FC fi i = FC (fi + i + 1) - FC (fi + i) := rfl; have h6 : FC (fi + i) ≤ FC (fi + i + 1) := hV.2.2.2.2.1 _ (by omega); omega) ?_
                    exact ih42 (i + 1) true wh_ph pl_ph mx_ph my_ph ah_63 ls _ _ (by omega) (by omega) hi_ph hKK_ph (by have h9 := (pa_ph hno42 hn_ir hn_is hn_ho hR_ph c_67); rw [show b_ph = true from nF c_67] at h9; exact h9) (lv_sub hl [0, 1, 3, 4, 5] rfl) hw
                  · skip
                    have c_67 : b_ph = false := bI_0.mp c_67
                    obtain ⟨hn_ph, rfl, rfl⟩ := inR_f hR_ph c_67
                    refine lv_aload_n hx hb dX2_inspect_99 rfl (lv_at hl 4 rfl) ?_
                    refine lv_aload hx hb dX2_inspect_100 (lv_at hl 0 rfl) ?_
                    refine h_callV (n := 1) (ci := 2) (b := ins) (As := [.ref ((PT i).1)]) (rest := []) ⟨hx, hb, hml, hown, hts⟩ hK hw (c_X2_inspectWholeness l D dT ah_63 H_64.size ins sh fd pa mt (nI si) wh pl mx_ph my_ph hi_ph (PT i).1 (PT i).2.1 (nrF FC fi i) (nI i) (PT i).2.2.1 (PT i).2.2.2 hpl_ph) ko_X2_inspectWholeness km_X2_63 ki_X2_inspectWholeness ks_X2_inspectWholeness kn_X2 (by decide +kernel) rfl hi_ph.1 rfl hl.1 rfl (by simp [Value.category]) dX2_inspect_102 (by rw [hR]; exact ⟨rfl, rfl, Nat.le_of_ble_eq_true rfl, Nat.le_of_ble_eq_true rfl, (by dsimp only; omega), (by dsimp only; omega)⟩) (fun r_69 ah_70 H_71 L_72 st_73 hp hw hst => ?_)
                    obtain ⟨b_wl, wh_wl, pl_wl, mx_wl, my_wl, rfl, hi_wl, hK_wl, hR_wl⟩ := hp
                    have hKK_wl := inK_t hKK_ph hK_wl
                    have hpl_wl := plA_j (fun a e h hj => inK_j hiP hKK_wl h hj) (hmP.2 i (by omega)).2
                    have hst : st_73 = [.int (bI b_wl)] := hst
                    subst hst
                    refine lv_if_eq (tgt := 112) hx hb dX2_inspect_105 (by decide) (fun c_74 => ?_) (fun c_74 => ?_)
                    · skip
                      have c_74 : b_wl = false := bI_0.mp c_74
                      refine lv_iconst (v := 0) hx hb dX2_inspect_112 (by decide) ?_
                      refine lv_istore_n (lv' := [(3, .int 0), (5, .ref ((PT i).1)), (4, .int (nI i)), (2, .ref qa), (0, .ref ins), (1, .int (nI si))]) hx hb dX2_inspect_113 rfl hl (by decide) rfl (fun ls hl => ?_)
                      refine lv_iinc (v := nI (i + 1)) (lv' := [(4, .int (nI (i + 1))), (3, .int 0), (5, .ref ((PT i).1)), (2, .ref qa), (0, .ref ins), (1, .int (nI si))]) hx hb dX2_inspect_114 hl (k := 2) rfl (nI_c _ 1) (by decide) rfl (fun ls hl => ?_)
                      refine lv_goto (tgt := 42) hx hb dX2_inspect_117 (by decide) ?_
                      refine W.widen (k := 1 + 2 * cn + 3 * (FC (fi + cn) - FC fi) + 2 * (FP (FC (fi + cn)) - FP (FC fi)) + (i + 1)) (n := 3 * cn + 12 * (FC (fi + cn) - FC fi) + 13 * (FP (FC (fi + cn)) - FP (FC fi)) + (FC (fi + (i + 1)) - FC fi)) (by have h7 : FC (fi + (i + 1)) = FC (fi + i + 1) := rfl; have h8 : nrF FC fi i = FC (fi + i + 1) - FC (fi + i) := rfl; have h6 : FC (fi + i) ≤ FC (fi + i + 1) := hV.2.2.2.2.1 _ (by omega); omega) (by have h7 : FC (fi + (i + 1)) = FC (fi + i + 1) := rfl; have h8 : nrF FC fi i = FC (fi + i + 1) - FC (fi + i) := rfl; have h6 : FC (fi + i) ≤ FC (fi + i + 1) := hV.2.2.2.2.1 _ (by omega); omega) ?_
                      exact ih42 (i + 1) false wh_wl pl_wl mx_wl my_wl ah_70 ls _ _ (by omega) (by omega) hi_wl hKK_wl (by have h9 := (pa_wl hno42 hn_ir hn_is hn_ho hn_ph hR_wl); rw [c_74] at h9; exact h9) (lv_sub hl [0, 1, 3, 4, 5] rfl) hw
                    · skip
                      have c_74 : ¬ (b_wl = false) := (not_congr bI_0).mp c_74
                      refine lv_iconst (v := 1) hx hb dX2_inspect_108 (by decide) ?_
                      refine lv_goto (tgt := 113) hx hb dX2_inspect_109 (by decide) ?_
                      refine lv_istore_n (lv' := [(3, .int 1), (5, .ref ((PT i).1)), (4, .int (nI i)), (2, .ref qa), (0, .ref ins), (1, .int (nI si))]) hx hb dX2_inspect_113 rfl hl (by decide) rfl (fun ls hl => ?_)
                      refine lv_iinc (v := nI (i + 1)) (lv' := [(4, .int (nI (i + 1))), (3, .int 1), (5, .ref ((PT i).1)), (2, .ref qa), (0, .ref ins), (1, .int (nI si))]) hx hb dX2_inspect_114 hl (k := 2) rfl (nI_c _ 1) (by decide) rfl (fun ls hl => ?_)
                      refine lv_goto (tgt := 42) hx hb dX2_inspect_117 (by decide) ?_
                      refine W.widen (k := 1 + 2 * cn + 3 * (FC (fi + cn) - FC fi) + 2 * (FP (FC (fi + cn)) - FP (FC fi)) + (i + 1)) (n := 3 * cn + 12 * (FC (fi + cn) - FC fi) + 13 * (FP (FC (fi + cn)) - FP (FC fi)) + (FC (fi + (i + 1)) - FC fi)) (by have h7 : FC (fi + (i + 1)) = FC (fi + i + 1) := rfl; have h8 : nrF FC fi i = FC (fi + i + 1) - FC (fi + i) := rfl; have h6 : FC (fi + i) ≤ FC (fi + i + 1) := hV.2.2.2.2.1 _ (by omega); omega) (by have h7 : FC (fi + (i + 1)) = FC (fi + i + 1) := rfl; have h8 : nrF FC fi i = FC (fi + i + 1) - FC (fi + i) := rfl; have h6 : FC (fi + i) ≤ FC (fi + i + 1) := hV.2.2.2.2.1 _ (by omega); omega) ?_
                      exact ih42 (i + 1) true wh_wl pl_wl mx_wl my_wl ah_70 ls _ _ (by omega) (by omega) hi_wl hKK_wl (by have h9 := (pa_wl hno42 hn_ir hn_is hn_ho hn_ph hR_wl); rw [show b_wl = true from nF c_74] at h9; exact h9) (lv_sub hl [0, 1, 3, 4, 5] rfl) hw
    refine W.widen (k := 1 + 2 * cn + 3 * (FC (fi + cn) - FC fi) + 2 * (FP (FC (fi + cn)) - FP (FC fi)) + 0) (n := 3 * cn + 12 * (FC (fi + cn) - FC fi) + 13 * (FP (FC (fi + cn)) - FP (FC fi)) + (FC (fi + 0) - FC fi)) (by simp) (by simp) ?_
    exact LP42 ((cn - 0) + 1) 0 false wh pl mx my ah_16 ls _ _ (Nat.lt_succ_self _) (by omega) hiP inK_r ⟨rfl, rfl, rfl⟩ (lv_sub hl [0, 1, 2, 3, 4] rfl) hw
  · skip
    refine lv_aload_n hx hb dX2_inspect_20 rfl (lv_at hl 0 rfl) ?_
    refine h_callV (n := 0) (ci := 2) (b := ins) (As := []) (rest := []) ⟨hx, hb, hml, hown, hts⟩ hK hw (c_X2_inspectLine l D dT ah_3 H_11.size ins sh fd pa mt si wh pl mx my hi5 RO RA cap ns nc np no rc f hs5 FC FP hV hsi (hln c_14)) ko_X2_inspectLine km_X2_36 ki_X2_inspectLine ks_X2_inspectLine kn_X2 (by decide +kernel) rfl hc_4 rfl hl.1 rfl (by simp [Value.category]) dX2_inspect_21 (by rw [hR]; exact ⟨rfl, rfl, Nat.le_of_ble_eq_true rfl, Nat.le_of_ble_eq_true rfl, (by dsimp only; omega), (by dsimp only; omega)⟩) (fun r_77 ah_78 H_79 L_80 st_81 hp hw hst => ?_)
    obtain ⟨dv, b9, wh9, pl9, mx9, my9, hdf, rfl, hi_l, hK_l, hR_l⟩ := hp
    have hst : st_81 = [] := hst
    subst hst
    rw [hQ]
    exact h_vret hx hb hr hlk hsz hw (by omega) (by omega) dX2_inspect_24 ⟨b9, _, _, _, _, _, rfl, hi_l, (fun a e9 h1 h5 h2 h3 h4 => (by have g9_0 : ah_3 a = some e9 := (by rw [eah_3]; exact (hup_n h5).trans h1); have g9_1 : ah_78 a = some e9 := hK_l a e9 g9_0 h2 h3 h4; exact g9_1)), hR_l, Or.inl ⟨c_14, dv, hdf, rfl⟩⟩

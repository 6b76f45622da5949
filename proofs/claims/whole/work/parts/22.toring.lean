/-! ShapeJudge$Shapes.toRing -/
def ext (a b : hA) : Prop := ∀ x e, a x = some e → b x = some e
theorem ext_r {a : hA} : ext a a := fun _ _ h => h
theorem ext_t {a b c : hA} (h1 : ext a b) (h2 : ext b c) : ext a c := fun x e h => h2 x e (h1 x e h)
theorem ext_new {a : hA} {q : Nat} {e : va_E} (h : a q = none) : ext a (hup a q e) := fun x e9 hx => (hup_n (h_fr hx h)).trans hx
theorem ext_n {a b : hA} {q : Nat} (h : ext a b) (hq : b q = none) : a q = none := by
  cases h' : a q with
  | none => rfl
  | some e => rw [h q e h'] at hq; cases hq
theorem shA_ext {dT : Nat → ClassId} {ah ah' : hA} {sh rc : Nat} {RO RA cap v : Nat → Nat} {f : Nat → Nat → Int32} (hk : ext ah ah') (hs : shA dT ah sh RO RA cap v f rc) : shA dT ah' sh RO RA cap v f rc :=
  ⟨hk _ _ hs.1, fun k h => ⟨hk _ _ (hs.2.1 k h).1, hk _ _ (hs.2.1 k h).2.1, (hs.2.1 k h).2.2⟩, hs.2.2⟩
/-- what the shapes are made of -/
def shK (dT : Nat → ClassId) (e : va_E) : Prop := (∃ fs, e = .inr (8, fs)) ∨ (∃ fs, e = .inr (6, fs)) ∨ ∃ (n : Nat) (g : Nat → Int32), e = .inl (dT 0, n, .inl g)
theorem shA_kp {dT : Nat → ClassId} {ah ah' : hA} {sh rc : Nat} {RO RA cap v : Nat → Nat} {f : Nat → Nat → Int32} (hk : ∀ a e, ah a = some e → shK dT e → ah' a = some e) (hs : shA dT ah sh RO RA cap v f rc) : shA dT ah' sh RO RA cap v f rc :=
  ⟨hk _ _ hs.1 (Or.inl ⟨_, rfl⟩), fun k h => ⟨hk _ _ (hs.2.1 k h).1 (Or.inr (Or.inl ⟨_, rfl⟩)), hk _ _ (hs.2.1 k h).2.1 (Or.inr (Or.inr ⟨_, _, rfl⟩)), (hs.2.1 k h).2.2⟩, hs.2.2⟩
theorem shk_5 {dT : Nat → ClassId} {ah : hA} {a b : Nat} {e : va_E} {fs : List Value} (h : ah a = some e) (hk : shK dT e) (hb : ah b = some (.inr (5, fs))) : a ≠ b := by
  rcases hk with ⟨g, rfl⟩ | ⟨g, rfl⟩ | ⟨n, g, rfl⟩
  · exact h_ne h hb (by simp)
  · exact h_ne h hb (by simp)
  · exact h_ne h hb (by simp)
theorem shk_0 {dT : Nat → ClassId} {ah : hA} {a b : Nat} {e : va_E} {fs : List Value} (h : ah a = some e) (hk : shK dT e) (hb : ah b = some (.inr (0, fs))) : a ≠ b := by
  rcases hk with ⟨g, rfl⟩ | ⟨g, rfl⟩ | ⟨n, g, rfl⟩
  · exact h_ne h hb (by simp)
  · exact h_ne h hb (by simp)
  · exact h_ne h hb (by simp)
theorem shk_7 {dT : Nat → ClassId} {ah : hA} {a b : Nat} {e : va_E} {fs : List Value} (h : ah a = some e) (hk : shK dT e) (hb : ah b = some (.inr (7, fs))) : a ≠ b := by
  rcases hk with ⟨g, rfl⟩ | ⟨g, rfl⟩ | ⟨n, g, rfl⟩
  · exact h_ne h hb (by simp)
  · exact h_ne h hb (by simp)
  · exact h_ne h hb (by simp)
theorem shk_s {dT : Nat → ClassId} {ah : hA} {a b t n9 : Nat} {e : va_E} {F : Nat → Option Nat} (h : ah a = some e) (hk : shK dT e) (hb : ah b = some (.inl (dT t, n9, .inr (.inr (.inr (.inr F)))))) : a ≠ b := by
  rcases hk with ⟨g, rfl⟩ | ⟨g, rfl⟩ | ⟨n, g, rfl⟩
  · exact h_ne h hb (by simp)
  · exact h_ne h hb (by simp)
  · exact h_ne h hb (by simp)
def b4 (a b c d : Int32) : Nat → Int32 := fun i => match i with
  | 0 => a
  | 1 => b
  | 2 => c
  | _ => d
/-- how many of the first k steps from po on lead elsewhere -/
def cntS (X Y : Nat → Int32) (po : Nat) : Nat → Nat
  | 0 => 0
  | k + 1 => if smP X Y (po + k) (po + k + 1) = false then cntS X Y po k + 1 else cntS X Y po k
/-- the box round the first k steps -/
def bbS (X Y : Nat → Int32) (po : Nat) : Nat → Nat → Int32
  | 0 => b4 1000000000 1000000000 (-1000000000) (-1000000000)
  | k + 1 => if smP X Y (po + k) (po + k + 1) = false then b4 (iMin (iMin (bbS X Y po k 0) (X (po + k))) (X (po + k + 1))) (iMin (iMin (bbS X Y po k 1) (Y (po + k))) (Y (po + k + 1))) (iMax (iMax (bbS X Y po k 2) (X (po + k))) (X (po + k + 1))) (iMax (iMax (bbS X Y po k 3) (Y (po + k))) (Y (po + k + 1))) else bbS X Y po k
theorem bbS_a {X Y : Nat → Int32} {po k : Nat} (h : smP X Y (po + k) (po + k + 1) = false) : bbS X Y po (k + 1) = b4 (iMin (iMin (bbS X Y po k 0) (X (po + k))) (X (po + k + 1))) (iMin (iMin (bbS X Y po k 1) (Y (po + k))) (Y (po + k + 1))) (iMax (iMax (bbS X Y po k 2) (X (po + k))) (X (po + k + 1))) (iMax (iMax (bbS X Y po k 3) (Y (po + k))) (Y (po + k + 1))) := by
  show (if _ then _ else _) = _; rw [if_pos h]
theorem bbS_k {X Y : Nat → Int32} {po k : Nat} (h : ¬ smP X Y (po + k) (po + k + 1) = false) : bbS X Y po (k + 1) = bbS X Y po k := by
  show (if _ then _ else _) = _; rw [if_neg h]
/-- number, from, to and box of the k-th step -/
def sgv (X Y : Nat → Int32) (po k : Nat) : Nat → Int32 := fun q => match q with
  | 0 => nI (po + k - po)
  | 1 => X (po + k)
  | 2 => Y (po + k)
  | 3 => X (po + k + 1)
  | 4 => Y (po + k + 1)
  | 5 => iMin (iMin 1000000000 (X (po + k))) (X (po + k + 1))
  | 6 => iMin (iMin 1000000000 (Y (po + k))) (Y (po + k + 1))
  | 7 => iMax (iMax (-1000000000) (X (po + k))) (X (po + k + 1))
  | _ => iMax (iMax (-1000000000) (Y (po + k))) (Y (po + k + 1))
def clB (X Y : Nat → Int32) (po pe : Nat) : Bool := if pe ≤ po then false else smP X Y po (pe - 1)
theorem clB_e {X Y : Nat → Int32} {po pe : Nat} : (if pe ≤ po then (0 : Int32) else (if smP X Y po (pe - 1) = false then 0 else 1)) = bI (clB X Y po pe) := by
  unfold clB
  by_cases h : pe ≤ po
  · simp [h]; rfl
  · simp only [if_neg h]
    cases smP X Y po (pe - 1) <;> rfl
def segs (X Y : Nat → Int32) (po k n : Nat) (S : Nat → Nat → Int32) : Prop := n = cntS X Y po k ∧ ∀ j, j < k → smP X Y (po + j) (po + j + 1) = false → S (cntS X Y po j) = sgv X Y po j
theorem cntS_s {X Y : Nat → Int32} {po k : Nat} (h : smP X Y (po + k) (po + k + 1) = false) : cntS X Y po (k + 1) = cntS X Y po k + 1 := by show (if _ then _ else _) = _; rw [if_pos h]
theorem cntS_k {X Y : Nat → Int32} {po k : Nat} (h : ¬ smP X Y (po + k) (po + k + 1) = false) : cntS X Y po (k + 1) = cntS X Y po k := by show (if _ then _ else _) = _; rw [if_neg h]
theorem cntS_m {X Y : Nat → Int32} {po j k : Nat} (h : j ≤ k) : cntS X Y po j ≤ cntS X Y po k := by
  induction k with
  | zero => rw [show j = 0 by omega]; exact Nat.le_refl _
  | succ k ih =>
    by_cases e : j = k + 1
    · rw [e]; exact Nat.le_refl _
    · refine Nat.le_trans (ih (by omega)) ?_
      by_cases hs : smP X Y (po + k) (po + k + 1) = false
      · rw [cntS_s hs]; omega
      · rw [cntS_k hs]; omega
theorem cntS_lt {X Y : Nat → Int32} {po j k : Nat} (h : j < k) (hs : smP X Y (po + j) (po + j + 1) = false) : cntS X Y po j < cntS X Y po k := by
  have := cntS_m (X := X) (Y := Y) (po := po) (show j + 1 ≤ k by omega)
  rw [cntS_s hs] at this; omega
theorem segs_0 {X Y : Nat → Int32} {po : Nat} {S : Nat → Nat → Int32} : segs X Y po 0 0 S := ⟨rfl, fun j hj => absurd hj (Nat.not_lt_zero _)⟩
theorem segs_k {X Y : Nat → Int32} {po k n : Nat} {S : Nat → Nat → Int32} (h : segs X Y po k n S) (hs : ¬ smP X Y (po + k) (po + k + 1) = false) : segs X Y po (k + 1) n S :=
  ⟨by rw [cntS_k hs]; exact h.1, fun j hj h9 => by
    by_cases e : j = k
    · rw [e] at h9; exact absurd h9 hs
    · exact h.2 j (by omega) h9⟩
theorem segs_a {X Y : Nat → Int32} {po k n : Nat} {S : Nat → Nat → Int32} (h : segs X Y po k n S) (hs : smP X Y (po + k) (po + k + 1) = false) : segs X Y po (k + 1) (n + 1) (va_up S n (sgv X Y po k)) :=
  ⟨by rw [cntS_s hs, ← h.1], fun j hj h9 => by
    by_cases e : j = k
    · rw [e, ← h.1]; simp [va_up]
    · have h8 := cntS_lt (k := k) (show j < k by omega) h9
      rw [← h.1] at h8
      simp only [va_up, if_neg (show ¬ cntS X Y po j = n by omega)]
      exact h.2 j (by omega) h9⟩
theorem tr_e {X Y : Nat → Int32} {po pe k n : Nat} {S : Nat → Nat → Int32} (h : segs X Y po k n S) (hk : k = pe - 1 - po) : segs X Y po (pe - 1 - po) n S := by rw [← hk]; exact h
/-- a ring that is being made -/
def rgM (dT : Nat → ClassId) (ah0 ah : hA) (rg bx sa cap n : Nat) (pt rn df : Int32) (cl : Bool) (bb : Nat → Int32) (F : Nat → Option Nat) (G B : Nat → Nat) (S : Nat → Nat → Int32) : Prop :=
  rgAt dT ah rg bx sa cap n pt rn df cl bb F G B S ∧ (∀ i j, i < n → j < n → G i = G j → i = j) ∧ (∀ i, i < n → B i ≠ bx) ∧ ah0 rg = none ∧ ah0 bx = none ∧ ah0 sa = none ∧ ∀ i, i < n → ah0 (G i) = none
theorem rgM_ext {dT : Nat → ClassId} {ah0 ah ah' : hA} {rg bx sa cap n : Nat} {pt rn df : Int32} {cl : Bool} {bb : Nat → Int32} {F : Nat → Option Nat} {G B : Nat → Nat} {S : Nat → Nat → Int32} (hk : ext ah ah') (h : rgM dT ah0 ah rg bx sa cap n pt rn df cl bb F G B S) : rgM dT ah0 ah' rg bx sa cap n pt rn df cl bb F G B S :=
  ⟨rgAt_up (fun a e h _ => hk a e h) h.1, h.2⟩
theorem rgM_0 {dT : Nat → ClassId} {ah0 ah : hA} {rg bx sa cap : Nat} {pt rn df : Int32} {cl : Bool} {X Y : Nat → Int32} {po : Nat} {F : Nat → Option Nat} {G B : Nat → Nat} {S : Nat → Nat → Int32} (h1 : ah rg = some (.inr (5, [.int pt, .int rn, .ref bx, .ref sa, .int 0, .int (bI cl), .int df]))) (h2 : ah bx = some (.inr (0, [.int 1000000000, .int 1000000000, .int (-1000000000), .int (-1000000000)]))) (h3 : ah sa = some (.inl (dT 2, cap, .inr (.inr (.inr (.inr F)))))) (h4 : ah0 rg = none) (h5 : ah0 bx = none) (h6 : ah0 sa = none) (hc : cap ≤ 100000) : rgM dT ah0 ah rg bx sa cap 0 pt rn df cl (bbS X Y po 0) F G B S :=
  ⟨⟨h1, h2, h3, Nat.zero_le _, hc, fun i hi => absurd hi (Nat.not_lt_zero _)⟩, fun i _ hi => absurd hi (Nat.not_lt_zero _), fun i hi => absurd hi (Nat.not_lt_zero _), h4, h5, h6, fun i hi => absurd hi (Nat.not_lt_zero _)⟩
theorem rgM_add {dT : Nat → ClassId} {ah0 ah ah2 : hA} {rg bx sa cap n g b9 : Nat} {pt rn df : Int32} {cl : Bool} {bb : Nat → Int32} {F : Nat → Option Nat} {G B : Nat → Nat} {S : Nat → Nat → Int32} {T : Nat → Int32} (h : rgM dT ah0 ah rg bx sa cap n pt rn df cl bb F G B S)
    (hg0 : ah0 g = none) (hgn : ∀ i, i < n → G i ≠ g) (hb9 : b9 ≠ bx) (hnc : n < cap) (heb : ah b9 = some (.inr (0, [.int (T 5), .int (T 6), .int (T 7), .int (T 8)]))) {gf : List Value} (heg : ah g = some (.inr (7, gf)))
    (h1 : ah2 rg = some (.inr (5, [.int pt, .int rn, .ref bx, .ref sa, .int (nI (n + 1)), .int (bI cl), .int df]))) (h2 : ah2 bx = some (.inr (0, [.int (iMin (iMin (bb 0) (T 1)) (T 3)), .int (iMin (iMin (bb 1) (T 2)) (T 4)), .int (iMax (iMax (bb 2) (T 1)) (T 3)), .int (iMax (iMax (bb 3) (T 2)) (T 4))])))
    (h3 : ah2 sa = some (.inl (dT 2, cap, .inr (.inr (.inr (.inr (va_up F n (some g)))))))) (h4 : ah2 g = some (.inr (7, [.ref rg, .int (T 0), .int (T 1), .int (T 2), .int (T 3), .int (T 4), .ref b9, if n = 0 then .null else .ref (G 0)])))
    (h5 : 0 < n → ah2 (G (n - 1)) = some (.inr (7, [.ref rg, .int (S (n - 1) 0), .int (S (n - 1) 1), .int (S (n - 1) 2), .int (S (n - 1) 3), .int (S (n - 1) 4), .ref (B (n - 1)), .ref g]))) (h6 : ∀ a, a ≠ rg → a ≠ bx → a ≠ sa → a ≠ g → (0 < n → a ≠ G (n - 1)) → ah2 a = ah a) :
    rgM dT ah0 ah2 rg bx sa cap (n + 1) pt rn df cl (b4 (iMin (iMin (bb 0) (T 1)) (T 3)) (iMin (iMin (bb 1) (T 2)) (T 4)) (iMax (iMax (bb 2) (T 1)) (T 3)) (iMax (iMax (bb 3) (T 2)) (T 4))) (va_up F n (some g)) (va_up G n g) (va_up B n b9) (va_up S n T) ∧
    (∀ a e, ah a = some e → shK dT e → ah2 a = some e) ∧ ∀ a e, ah0 a = some e → ah a = some e → ah2 a = some e := by
  obtain ⟨⟨r1, r2, r3, r4, r5, r6⟩, hi, hB, n1, n2, n3, n4⟩ := h
  have hpred : 0 < n → ∃ fs, ah (G (n - 1)) = some (.inr (7, fs)) := fun h9 => ⟨_, (r6 (n - 1) (by omega)).2.1⟩
  refine ⟨⟨⟨h1, h2, h3, by omega, r5, fun i hin => ?_⟩, fun i j hin hjn hij => ?_, fun i hin => ?_, n1, n2, n3, fun i hin => ?_⟩, fun a e ha hk => ?_, fun a e h0 ha => ?_⟩
  · by_cases e : i = n
    · subst e
      simp only [va_up, if_true]
      refine ⟨trivial, ?_, ?_⟩
      · rw [h4]
        unfold rgN
        by_cases e0 : i = 0
        · simp [e0]; rfl
        · simp only [if_neg e0, if_neg (show ¬ i + 1 < 2 by omega), if_true]
          rw [show va_up G i g 0 = G 0 from if_neg (show ¬ 0 = i by omega)]; rfl
      · rw [h6 b9 (h_ne heb r1 (by simp)) hb9 (h_ne heb r3 (by simp)) (h_ne heb heg (by simp)) (fun h9 => by obtain ⟨fs, hf⟩ := hpred h9; exact h_ne heb hf (by simp))]
        exact heb
    · have hin' : i < n := by omega
      obtain ⟨q1, q2, q3⟩ := r6 i hin'
      simp only [va_up, if_neg e]
      refine ⟨q1, ?_, ?_⟩
      · by_cases el : i = n - 1
        · subst el
          rw [h5 (by omega)]
          unfold rgN
          rw [if_neg (show ¬ n + 1 < 2 by omega), if_neg (show ¬ n - 1 + 1 = n + 1 by omega)]
          rw [show va_up G n g (n - 1 + 1) = g from if_pos (show n - 1 + 1 = n by omega)]; rfl
        · rw [h6 (G i) (h_ne q2 r1 (by simp)) (h_ne q2 r2 (by simp)) (h_ne q2 r3 (by simp)) (hgn i hin') (fun _ h9 => el (hi i (n - 1) hin' (by omega) h9)), q2]
          unfold rgN
          rw [if_neg (show ¬ n < 2 by omega), if_neg (show ¬ n + 1 < 2 by omega), if_neg (show ¬ i + 1 = n by omega), if_neg (show ¬ i + 1 = n + 1 by omega), show va_up G n g (i + 1) = G (i + 1) from if_neg (show ¬ i + 1 = n by omega)]
      · rw [h6 (B i) (h_ne q3 r1 (by simp)) (hB i hin') (h_ne q3 r3 (by simp)) (h_ne q3 heg (by simp)) (fun h9 => by obtain ⟨fs, hf⟩ := hpred h9; exact h_ne q3 hf (by simp))]
        exact q3
  · by_cases e : i = n
    · by_cases e' : j = n
      · omega
      · simp only [va_up, e, if_true, if_neg e'] at hij
        exact absurd hij.symm (hgn j (by omega))
    · by_cases e' : j = n
      · simp only [va_up, e', if_true, if_neg e] at hij
        exact absurd hij (hgn i (by omega))
      · simp only [va_up, if_neg e, if_neg e'] at hij
        exact hi i j (by omega) (by omega) hij
  · by_cases e : i = n
    · simp only [va_up, e, if_true]; exact hb9
    · simp only [va_up, if_neg e]; exact hB i (by omega)
  · by_cases e : i = n
    · simp only [va_up, e, if_true]; exact hg0
    · simp only [va_up, if_neg e]; exact n4 i (by omega)
  · rw [h6 a (shk_5 ha hk r1) (shk_0 ha hk r2) (shk_s ha hk r3) (shk_7 ha hk heg) (fun h9 => by obtain ⟨fs, hf⟩ := hpred h9; exact shk_7 ha hk hf)]
    exact ha
  · rw [h6 a (h_fr h0 n1) (h_fr h0 n2) (h_fr h0 n3) (h_fr h0 hg0) (fun h9 => h_fr h0 (n4 (n - 1) (by omega)))]
    exact ha
/-- what a ring made of the points from po up to pe holds -/
def rgD (X Y : Nat → Int32) (po pe : Nat) (t : rgT) : Prop :=
  t.2.2.1 = clB X Y po pe ∧ dfR X Y po pe (t.2.1 2) ∧ segs X Y po (pe - 1 - po) (t.1 4) t.2.2.2.2.2.2.2 ∧ t.2.2.2.1 = bbS X Y po (pe - 1 - po) ∧ ∀ i j, i < t.1 4 → j < t.1 4 → t.2.2.2.2.2.1 i = t.2.2.2.2.2.1 j → i = j
set_option maxHeartbeats 4000000 in
set_option maxRecDepth 100000 in
theorem c_X8_toRing (l : Launch) (D : va_G) (dT : Nat → ClassId) (ah : hA) (sz : Nat) (sh : Nat) (RO RA cap : Nat → Nat) (ns nc np no rc : Nat) (f : Nat → Nat → Int32) (hs : shA dT ah sh RO RA cap (v7 ns ns ns nc np np no) f rc) (ch po pe : Nat) (hch : ch ≤ 100000) (hpo : rwGet (f 3) nc (nI ch) = nI po) (hpe : shBehind f nc np ch = nI pe) (hpp : po ≤ pe) (hpn : pe ≤ np) (pt rn : Int32) : hMet l yX8_toRing cX8_toRing 8 (some (.object "ShapeJudge$Ring")) ({ frames := 3, cells := (3 + 2 * (pe - po)), slots := (11 + 13 * (pe - po)), locals := 72 }) D dT [.ref sh, .int (nI ch), .int pt, .int rn] ah sz (fun r ah2 => ∃ t : rgT, r = some (.ref (t.1 0)) ∧ rgA dT ah2 t ∧ rgD (f 4) (f 5) po pe t ∧ t.2.1 0 = pt ∧ t.2.1 1 = rn ∧ ext ah ah2 ∧ ah (t.1 0) = none ∧ ah (t.1 2) = none) (3 + 2 * (pe - po)) (11 + 13 * (pe - po)) := by
  refine h_met (by decide) (Nat.le_of_ble_eq_true rfl) ?_
  intro p e s m below meth c ls R Q args hav hR hQ hB hl hsz hw
  obtain ⟨hx, hb, hml, hr, hts, hown, hlk, hin, hK⟩ := hB
  have hown : s.vm.findClass RX8 = some m.cls := hown
  have hl : lv_has ls 8 [(0, .ref sh), (1, .int (nI ch)), (2, .int pt), (3, .int rn)] := hl
  have hb0 : ns ≤ cap 0 ∧ 32 ≤ cap 0 ∧ cap 0 ≤ 40000 := (hs.2.1 0 (by omega)).2.2
  have hb1 : ns ≤ cap 1 ∧ 32 ≤ cap 1 ∧ cap 1 ≤ 40000 := (hs.2.1 1 (by omega)).2.2
  have hb2 : ns ≤ cap 2 ∧ 32 ≤ cap 2 ∧ cap 2 ≤ 40000 := (hs.2.1 2 (by omega)).2.2
  have hb3 : nc ≤ cap 3 ∧ 32 ≤ cap 3 ∧ cap 3 ≤ 40000 := (hs.2.1 3 (by omega)).2.2
  have hb4 : np ≤ cap 4 ∧ 32 ≤ cap 4 ∧ cap 4 ≤ 40000 := (hs.2.1 4 (by omega)).2.2
  have hb5 : np ≤ cap 5 ∧ 32 ≤ cap 5 ∧ cap 5 ≤ 40000 := (hs.2.1 5 (by omega)).2.2
  have hb6 : no ≤ cap 6 ∧ 32 ≤ cap 6 ∧ cap 6 ≤ 40000 := (hs.2.1 6 (by omega)).2.2
  refine lv_aload_n hx hb dX8_toRing_0 rfl (lv_at hl 0 rfl) ?_
  refine h_get (ci := 8) (v := .ref (RO 3)) (C := RX8) (T := TX8) (N := 8) hx hb hts kl_X8 hown hK hw hs.1 rfl 3 (by decide) (hts _ kf_X8_24) rfl rfl dX8_toRing_1 ?_
  refine lv_iload_n hx hb dX8_toRing_4 rfl (lv_at hl 1 rfl) ?_
  refine h_callV (n := 1) (ci := 6) (b := (RO 3)) (As := [.int (nI ch)]) (rest := []) ⟨hx, hb, hml, hown, hts⟩ hK hw (c_X6_get l D dT ah s.heap.size (RO 3) (RA 3) (cap 3) nc (f 3) (by omega) (by omega) (hs.2.1 3 (by omega)).1 (hs.2.1 3 (by omega)).2.1 (nI ch)) ko_X6_get km_X8_47 ki_X6_get ks_X6_get kn_X6 (by decide +kernel) rfl (hs.2.1 3 (by omega)).1 rfl hl.1 rfl (by simp [Value.category]) dX8_toRing_5 (by rw [hR]; exact ⟨rfl, rfl, Nat.le_of_ble_eq_true rfl, Nat.le_of_ble_eq_true rfl, (by simp; try omega), (by simp; try omega)⟩) (fun r_1 ah_2 H_3 L_4 st_5 hp hw hst => ?_)
  obtain ⟨hr_6, rfl⟩ := hp
  rw [show rwGet (f 3) nc (nI ch) = nI po from hpo] at hr_6
  subst hr_6
  have hst : st_5 = [.int (nI po)] := hst
  subst hst
  refine lv_istore (lv' := [(4, .int (nI po)), (0, .ref sh), (1, .int (nI ch)), (2, .int pt), (3, .int rn)]) hx hb dX8_toRing_8 hl (by decide) rfl (fun ls hl => ?_)
  refine lv_aload_n hx hb dX8_toRing_10 rfl (lv_at hl 1 rfl) ?_
  refine lv_iload_n hx hb dX8_toRing_11 rfl (lv_at hl 2 rfl) ?_
  refine h_callV (n := 1) (ci := 8) (b := sh) (As := [.int (nI ch)]) (rest := []) ⟨hx, hb, hml, hown, hts⟩ hK hw (c_X8_behindChain l D dT ah H_3.size sh RO RA cap ns nc np no rc f hs ch (by omega)) ko_X8_behindChain km_X8_91 ki_X8_behindChain ks_X8_behindChain kn_X8 (by decide +kernel) rfl hs.1 rfl hl.1 rfl (by simp [Value.category]) dX8_toRing_12 (by rw [hR]; exact ⟨rfl, rfl, Nat.le_of_ble_eq_true rfl, Nat.le_of_ble_eq_true rfl, (by simp; try omega), (by simp; try omega)⟩) (fun r_7 ah_8 H_9 L_10 st_11 hp hw hst => ?_)
  obtain ⟨hr_12, rfl⟩ := hp
  rw [show shBehind f nc np ch = nI pe from hpe] at hr_12
  subst hr_12
  have hst : st_11 = [.int (nI pe)] := hst
  subst hst
  refine lv_istore (lv' := [(5, .int (nI pe)), (4, .int (nI po)), (0, .ref sh), (1, .int (nI ch)), (2, .int pt), (3, .int rn)]) hx hb dX8_toRing_15 hl (by decide) rfl (fun ls hl => ?_)
  refine h_new (ci := 5) (fs := [.int 0, .int 0, .null, .null, .int 0, .int 0, .int 0]) (C := RX5) (T := TX5) (N := 7) hx hb hts kl_X5 tyX5 tyX5_ok hown (hts _ kc_X8_82) (hts _ ka_X5) (hts _ kn_X5) hK hw rfl (hdef_X5) (by rw [hR]; simp; try omega) (by rw [hR]; simp; try omega) dX8_toRing_17 (fun q_13 H_14 hqq_13 hw => ?_)
  obtain ⟨ah_15, eah_15⟩ : ∃ z9 : hA, z9 = hup ah q_13 (.inr (5, [.int 0, .int 0, .null, .null, .int 0, .int 0, .int 0])) := ⟨_, rfl⟩
  have hw : hW D ah s.heap ah_15 H_14 L_10 := by rw [eah_15]; exact hw
  have hne_17 : sh ≠ q_13 := h_fr hs.1 hqq_13
  have hc_16 := (show ah_15 sh = _ from (by rw [eah_15]; exact hup_n (hne_17))).trans hs.1
  have hne_19 : RO 0 ≠ q_13 := h_fr (hs.2.1 0 (by omega)).1 hqq_13
  have hc_18 := (show ah_15 (RO 0) = _ from (by rw [eah_15]; exact hup_n (hne_19))).trans (hs.2.1 0 (by omega)).1
  have hne_21 : RA 0 ≠ q_13 := h_fr (hs.2.1 0 (by omega)).2.1 hqq_13
  have hc_20 := (show ah_15 (RA 0) = _ from (by rw [eah_15]; exact hup_n (hne_21))).trans (hs.2.1 0 (by omega)).2.1
  have hne_23 : RO 1 ≠ q_13 := h_fr (hs.2.1 1 (by omega)).1 hqq_13
  have hc_22 := (show ah_15 (RO 1) = _ from (by rw [eah_15]; exact hup_n (hne_23))).trans (hs.2.1 1 (by omega)).1
  have hne_25 : RA 1 ≠ q_13 := h_fr (hs.2.1 1 (by omega)).2.1 hqq_13
  have hc_24 := (show ah_15 (RA 1) = _ from (by rw [eah_15]; exact hup_n (hne_25))).trans (hs.2.1 1 (by omega)).2.1
  have hne_27 : RO 2 ≠ q_13 := h_fr (hs.2.1 2 (by omega)).1 hqq_13
  have hc_26 := (show ah_15 (RO 2) = _ from (by rw [eah_15]; exact hup_n (hne_27))).trans (hs.2.1 2 (by omega)).1
  have hne_29 : RA 2 ≠ q_13 := h_fr (hs.2.1 2 (by omega)).2.1 hqq_13
  have hc_28 := (show ah_15 (RA 2) = _ from (by rw [eah_15]; exact hup_n (hne_29))).trans (hs.2.1 2 (by omega)).2.1
  have hne_31 : RO 3 ≠ q_13 := h_fr (hs.2.1 3 (by omega)).1 hqq_13
  have hc_30 := (show ah_15 (RO 3) = _ from (by rw [eah_15]; exact hup_n (hne_31))).trans (hs.2.1 3 (by omega)).1
  have hne_33 : RA 3 ≠ q_13 := h_fr (hs.2.1 3 (by omega)).2.1 hqq_13
  have hc_32 := (show ah_15 (RA 3) = _ from (by rw [eah_15]; exact hup_n (hne_33))).trans (hs.2.1 3 (by omega)).2.1
  have hne_35 : RO 4 ≠ q_13 := h_fr (hs.2.1 4 (by omega)).1 hqq_13
  have hc_34 := (show ah_15 (RO 4) = _ from (by rw [eah_15]; exact hup_n (hne_35))).trans (hs.2.1 4 (by omega)).1
  have hne_37 : RA 4 ≠ q_13 := h_fr (hs.2.1 4 (by omega)).2.1 hqq_13
  have hc_36 := (show ah_15 (RA 4) = _ from (by rw [eah_15]; exact hup_n (hne_37))).trans (hs.2.1 4 (by omega)).2.1
  have hne_39 : RO 5 ≠ q_13 := h_fr (hs.2.1 5 (by omega)).1 hqq_13
  have hc_38 := (show ah_15 (RO 5) = _ from (by rw [eah_15]; exact hup_n (hne_39))).trans (hs.2.1 5 (by omega)).1
  have hne_41 : RA 5 ≠ q_13 := h_fr (hs.2.1 5 (by omega)).2.1 hqq_13
  have hc_40 := (show ah_15 (RA 5) = _ from (by rw [eah_15]; exact hup_n (hne_41))).trans (hs.2.1 5 (by omega)).2.1
  have hne_43 : RO 6 ≠ q_13 := h_fr (hs.2.1 6 (by omega)).1 hqq_13
  have hc_42 := (show ah_15 (RO 6) = _ from (by rw [eah_15]; exact hup_n (hne_43))).trans (hs.2.1 6 (by omega)).1
  have hne_45 : RA 6 ≠ q_13 := h_fr (hs.2.1 6 (by omega)).2.1 hqq_13
  have hc_44 := (show ah_15 (RA 6) = _ from (by rw [eah_15]; exact hup_n (hne_45))).trans (hs.2.1 6 (by omega)).2.1
  have hc_q_13 : ah_15 q_13 = some (.inr (5, [.int 0, .int 0, .null, .null, .int 0, .int 0, .int 0])) := by rw [eah_15]; exact hup_s
  refine lv_dup hx hb dX8_toRing_20 rfl ?_
  refine lv_iload_n hx hb dX8_toRing_21 rfl (lv_at hl 4 rfl) ?_
  refine lv_iload_n hx hb dX8_toRing_22 rfl (lv_at hl 5 rfl) ?_
  refine lv_iconst (v := 0) hx hb dX8_toRing_23 (by decide) ?_
  refine lv_iload hx hb dX8_toRing_24 (lv_at hl 0 rfl) ?_
  refine lv_iload hx hb dX8_toRing_26 (lv_at hl 1 rfl) ?_
  refine lv_isub hx hb dX8_toRing_28 ?_
  refine lv_topi (fun t_46 et_46 => ?_)
  obtain rfl : t_46 = nI (pe - po) := et_46.trans (pk_sub (by omega))
  refine va_mmax hx hb (by rw [hml]; exact hl.1.symm) hown (hts _ km_X8_70) (hts _ kt_J9_max_7cf53) (hts _ kn_J9) (hts _ ko_Math_max) (by rw [hR]; exact Nat.le_of_ble_eq_true rfl) (by rw [hR]; exact Nat.le_of_ble_eq_true rfl) (by rw [hR]; simp; try omega) (by rw [hR]; simp; try omega) dX8_toRing_29 ?_
  refine lv_topi (fun t_47 et_47 => ?_)
  obtain rfl : t_47 = nI (pe - po) := et_47.trans (mx0_n (by omega))
  refine h_callI (n := 3) (b := q_13) (As := [.int pt, .int rn, .int (nI (pe - po))]) (rest := [.ref q_13]) ⟨hx, hb, hml, hown, hts⟩ hK hw (c_X5_init l D dT ah_15 H_14.size q_13 (pe - po) pt rn (by omega) hc_q_13) ko_X5_init km_X8_94 ki_X5_init kn_X5 rfl (by decide +kernel) rfl hl.1 rfl (by simp [Value.category]) dX8_toRing_32 (by rw [hR]; exact ⟨rfl, rfl, Nat.le_of_ble_eq_true rfl, Nat.le_of_ble_eq_true rfl, (by simp; try omega), (by simp; try omega)⟩) (fun r_48 ah_49 H_50 L_51 st_52 hp hw hst => ?_)
  obtain ⟨rfl, b0, s0, hb0, hs0, hb0n, hs0n, hR0, hB0, hS0, hfr0⟩ := hp
  have hx0 : ext ah ah_15 := by rw [eah_15]; exact ext_new hqq_13
  have hE : ext ah ah_49 := fun a9 e9 h9 => (hfr0 a9 (h_fr h9 hqq_13) (h_fr (hx0 a9 e9 h9) hb0) (h_fr (hx0 a9 e9 h9) hs0)).trans (hx0 a9 e9 h9)
  have hs1 := shA_ext hE hs
  have hb00 := ext_n hx0 hb0
  have hs00 := ext_n hx0 hs0
  have hst : st_52 = [.ref q_13] := hst
  subst hst
  refine lv_astore (lv' := [(6, .ref q_13), (5, .int (nI pe)), (4, .int (nI po)), (0, .ref sh), (1, .int (nI ch)), (2, .int pt), (3, .int rn)]) hx hb dX8_toRing_35 hl (by decide) rfl (fun ls hl => ?_)
  refine lv_aload hx hb dX8_toRing_37 (lv_at hl 0 rfl) ?_
  refine lv_iload hx hb dX8_toRing_39 (lv_at hl 2 rfl) ?_
  refine lv_iload hx hb dX8_toRing_41 (lv_at hl 1 rfl) ?_
  have J_65 : ∀ (v_64 : Int32) (ls : Array Slot) (H_62 : Heap) (L_63 : List Loc), lv_has ls 8 [(6, .ref q_13), (5, .int (nI pe)), (4, .int (nI po)), (0, .ref sh), (1, .int (nI ch)), (2, .int pt), (3, .int rn)] → hW D ah s.heap ah_49 H_62 L_63 → v_64 = (if pe ≤ po then 0 else (if smP (f 4) (f 5) po (pe - 1) = false then 0 else 1)) → W p l e R s m args below meth c H_62 L_63 (0 + 1 + 2) (0 + 7 + (4 + (pe - po))) Q (F0 m 64 ls [.int v_64, .ref q_13]) := by
    intro v_64 ls H_62 L_63 hl hw ev_64
    have hv9 : v_64 = bI (clB (f 4) (f 5) po pe) := ev_64.trans (clB_e)
    subst hv9
    refine h_putN (ci := 5) (v := .int (bI (clB (f 4) (f 5) po pe))) (C := RX5) (T := TX5) (N := 7) hx hb hts kl_X5 tyX5 tyX5_ok nmX5 hown hK hw hR0 rfl 5 (by decide) (va_Nw.use rfl (hK.2.1 _ (List.mem_of_getElem? (i := 13) rfl))) rfl rfl (tyX5_ok 5 (by decide)) (bI_nar _) (bI_fit _) (Nat.le_of_ble_eq_true rfl) dX8_toRing_64 (fun H_66 L_67 hw => ?_)
    obtain ⟨ah_68, eah_68⟩ : ∃ z9 : hA, z9 = hup ah_49 q_13 (.inr (5, [.int pt, .int rn, .ref b0, .ref s0, .int 0, .int (bI (clB (f 4) (f 5) po pe)), .int 0])) := ⟨_, rfl⟩
    have hw : hW D ah s.heap ah_68 H_66 L_67 := by rw [eah_68]; exact hw
    have hc_69 := (show ah_68 sh = _ from (by rw [eah_68]; exact hup_n (hne_17))).trans hs1.1
    have hc_70 := (show ah_68 (RO 0) = _ from (by rw [eah_68]; exact hup_n (hne_19))).trans (hs1.2.1 0 (by omega)).1
    have hc_71 := (show ah_68 (RA 0) = _ from (by rw [eah_68]; exact hup_n (hne_21))).trans (hs1.2.1 0 (by omega)).2.1
    have hc_72 := (show ah_68 (RO 1) = _ from (by rw [eah_68]; exact hup_n (hne_23))).trans (hs1.2.1 1 (by omega)).1
    have hc_73 := (show ah_68 (RA 1) = _ from (by rw [eah_68]; exact hup_n (hne_25))).trans (hs1.2.1 1 (by omega)).2.1
    have hc_74 := (show ah_68 (RO 2) = _ from (by rw [eah_68]; exact hup_n (hne_27))).trans (hs1.2.1 2 (by omega)).1
    have hc_75 := (show ah_68 (RA 2) = _ from (by rw [eah_68]; exact hup_n (hne_29))).trans (hs1.2.1 2 (by omega)).2.1
    have hc_76 := (show ah_68 (RO 3) = _ from (by rw [eah_68]; exact hup_n (hne_31))).trans (hs1.2.1 3 (by omega)).1
    have hc_77 := (show ah_68 (RA 3) = _ from (by rw [eah_68]; exact hup_n (hne_33))).trans (hs1.2.1 3 (by omega)).2.1
    have hc_78 := (show ah_68 (RO 4) = _ from (by rw [eah_68]; exact hup_n (hne_35))).trans (hs1.2.1 4 (by omega)).1
    have hc_79 := (show ah_68 (RA 4) = _ from (by rw [eah_68]; exact hup_n (hne_37))).trans (hs1.2.1 4 (by omega)).2.1
    have hc_80 := (show ah_68 (RO 5) = _ from (by rw [eah_68]; exact hup_n (hne_39))).trans (hs1.2.1 5 (by omega)).1
    have hc_81 := (show ah_68 (RA 5) = _ from (by rw [eah_68]; exact hup_n (hne_41))).trans (hs1.2.1 5 (by omega)).2.1
    have hc_82 := (show ah_68 (RO 6) = _ from (by rw [eah_68]; exact hup_n (hne_43))).trans (hs1.2.1 6 (by omega)).1
    have hc_83 := (show ah_68 (RA 6) = _ from (by rw [eah_68]; exact hup_n (hne_45))).trans (hs1.2.1 6 (by omega)).2.1
    have hc_84 : ah_68 q_13 = some (.inr (5, [.int pt, .int rn, .ref b0, .ref s0, .int 0, .int (bI (clB (f 4) (f 5) po pe)), .int 0])) := by rw [eah_68]; exact hup_s
    have hc_85 := (show ah_68 b0 = _ from (by rw [eah_68]; exact hup_n (h_ne hB0 hR0 (by simp)))).trans hB0
    have hc_86 := (show ah_68 s0 = _ from (by rw [eah_68]; exact hup_n (h_ne hS0 hR0 (by simp)))).trans hS0
    have hs67 := shA_kp (fun a9 e9 h9 hk9 => (show ah_68 a9 = some e9 by rw [eah_68]; exact (hup_n (shk_5 h9 hk9 hR0)).trans h9)) hs1
    refine lv_aload hx hb dX8_toRing_67 (lv_at hl 0 rfl) ?_
    refine lv_aload_n hx hb dX8_toRing_69 rfl (lv_at hl 3 rfl) ?_
    refine lv_iload_n hx hb dX8_toRing_70 rfl (lv_at hl 4 rfl) ?_
    refine h_callV (n := 1) (ci := 8) (b := sh) (As := [.int (nI ch)]) (rest := [.ref q_13]) ⟨hx, hb, hml, hown, hts⟩ hK hw (c_X8_differentPoints l D dT ah_68 H_66.size sh RO RA cap ns nc np no rc f hs67 ch po pe (by omega) hpo hpe (by omega) (by omega)) ko_X8_differentPoints km_X8_64 ki_X8_differentPoints ks_X8_differentPoints kn_X8 (by decide +kernel) rfl hs67.1 rfl hl.1 rfl (by simp [Value.category]) dX8_toRing_71 (by rw [hR]; exact ⟨rfl, rfl, Nat.le_of_ble_eq_true rfl, Nat.le_of_ble_eq_true rfl, (by simp; try omega), (by simp; try omega)⟩) (fun r_87 ah_88 H_89 L_90 st_91 hp hw hst => ?_)
    obtain ⟨dv_92, rfl, hdf, rfl⟩ := hp
    have hst : st_91 = [.int dv_92, .ref q_13] := hst
    subst hst
    refine h_putN (ci := 5) (v := .int dv_92) (C := RX5) (T := TX5) (N := 7) hx hb hts kl_X5 tyX5 tyX5_ok nmX5 hown hK hw hc_84 rfl 6 (by decide) (va_Nw.use rfl (hK.2.1 _ (List.mem_of_getElem? (i := 15) rfl))) rfl rfl (tyX5_ok 6 (by decide)) rfl rfl (Nat.le_of_ble_eq_true rfl) dX8_toRing_74 (fun H_93 L_94 hw => ?_)
    obtain ⟨ah_95, eah_95⟩ : ∃ z9 : hA, z9 = hup ah_68 q_13 (.inr (5, [.int pt, .int rn, .ref b0, .ref s0, .int 0, .int (bI (clB (f 4) (f 5) po pe)), .int dv_92])) := ⟨_, rfl⟩
    have hw : hW D ah s.heap ah_95 H_93 L_94 := by rw [eah_95]; exact hw
    have hc_96 := (show ah_95 sh = _ from (by rw [eah_95]; exact hup_n (hne_17))).trans hs67.1
    have hc_97 := (show ah_95 (RO 0) = _ from (by rw [eah_95]; exact hup_n (hne_19))).trans (hs67.2.1 0 (by omega)).1
    have hc_98 := (show ah_95 (RA 0) = _ from (by rw [eah_95]; exact hup_n (hne_21))).trans (hs67.2.1 0 (by omega)).2.1
    have hc_99 := (show ah_95 (RO 1) = _ from (by rw [eah_95]; exact hup_n (hne_23))).trans (hs67.2.1 1 (by omega)).1
    have hc_100 := (show ah_95 (RA 1) = _ from (by rw [eah_95]; exact hup_n (hne_25))).trans (hs67.2.1 1 (by omega)).2.1
    have hc_101 := (show ah_95 (RO 2) = _ from (by rw [eah_95]; exact hup_n (hne_27))).trans (hs67.2.1 2 (by omega)).1
    have hc_102 := (show ah_95 (RA 2) = _ from (by rw [eah_95]; exact hup_n (hne_29))).trans (hs67.2.1 2 (by omega)).2.1
    have hc_103 := (show ah_95 (RO 3) = _ from (by rw [eah_95]; exact hup_n (hne_31))).trans (hs67.2.1 3 (by omega)).1
    have hc_104 := (show ah_95 (RA 3) = _ from (by rw [eah_95]; exact hup_n (hne_33))).trans (hs67.2.1 3 (by omega)).2.1
    have hc_105 := (show ah_95 (RO 4) = _ from (by rw [eah_95]; exact hup_n (hne_35))).trans (hs67.2.1 4 (by omega)).1
    have hc_106 := (show ah_95 (RA 4) = _ from (by rw [eah_95]; exact hup_n (hne_37))).trans (hs67.2.1 4 (by omega)).2.1
    have hc_107 := (show ah_95 (RO 5) = _ from (by rw [eah_95]; exact hup_n (hne_39))).trans (hs67.2.1 5 (by omega)).1
    have hc_108 := (show ah_95 (RA 5) = _ from (by rw [eah_95]; exact hup_n (hne_41))).trans (hs67.2.1 5 (by omega)).2.1
    have hc_109 := (show ah_95 (RO 6) = _ from (by rw [eah_95]; exact hup_n (hne_43))).trans (hs67.2.1 6 (by omega)).1
    have hc_110 := (show ah_95 (RA 6) = _ from (by rw [eah_95]; exact hup_n (hne_45))).trans (hs67.2.1 6 (by omega)).2.1
    have hc_111 : ah_95 q_13 = some (.inr (5, [.int pt, .int rn, .ref b0, .ref s0, .int 0, .int (bI (clB (f 4) (f 5) po pe)), .int dv_92])) := by rw [eah_95]; exact hup_s
    have hc_112 := (show ah_95 b0 = _ from (by rw [eah_95]; exact hup_n (h_ne hc_85 hc_84 (by simp)))).trans hc_85
    have hc_113 := (show ah_95 s0 = _ from (by rw [eah_95]; exact hup_n (h_ne hc_86 hc_84 (by simp)))).trans hc_86
    have hs77 := shA_kp (fun a9 e9 h9 hk9 => (show ah_95 a9 = some e9 by rw [eah_95]; exact (hup_n (shk_5 h9 hk9 hc_84)).trans h9)) hs67
    have hE77 : ext ah ah_95 := fun a9 e9 h9 => by have h8 : a9 ≠ q_13 := h_fr h9 hqq_13; rw [eah_95, hup_n h8, eah_68, hup_n h8]; exact hE a9 e9 h9
    have hM77 : rgM dT ah ah_95 q_13 b0 s0 (pe - po) 0 pt rn dv_92 (clB (f 4) (f 5) po pe) (bbS (f 4) (f 5) po 0) (fun _ => none) (fun _ => 0) (fun _ => 0) (fun _ _ => 0) := rgM_0 hc_111 hc_112 hc_113 hqq_13 hb00 hs00 (by omega)
    refine lv_iload hx hb dX8_toRing_77 (lv_at hl 2 rfl) ?_
    refine lv_istore (lv' := [(7, .int (nI po)), (6, .ref q_13), (5, .int (nI pe)), (4, .int (nI po)), (0, .ref sh), (1, .int (nI ch)), (2, .int pt), (3, .int rn)]) hx hb dX8_toRing_79 hl (by decide) rfl (fun ls hl => ?_)
    have LP81 : ∀ (k81 : Nat) (k : Nat) (n9 : Nat) (F9 : Nat → Option Nat) (G9 : Nat → Nat) (B9 : Nat → Nat) (S9 : Nat → Nat → Int32) (ah81 : hA) (ls : Array Slot) (H81 : Heap) (L81 : List Loc), (pe - po - k < k81) → (po + k ≤ pe ∧ (po + k + 1 ≤ pe ∨ k = 0)) → (n9 ≤ k) → (rgM dT ah ah81 q_13 b0 s0 (pe - po) n9 pt rn dv_92 (clB (f 4) (f 5) po pe) (bbS (f 4) (f 5) po k) F9 G9 B9 S9) → (shA dT ah81 sh RO RA cap (v7 ns ns ns nc np np no) f rc) → (ext ah ah81) → (segs (f 4) (f 5) po k n9 S9) → lv_has ls 8 [(7, .int (nI (po + k))), (6, .ref q_13), (5, .int (nI pe)), (4, .int (nI po)), (0, .ref sh), (1, .int (nI ch)), (2, .int pt), (3, .int rn)] → hW D ah s.heap ah81 H81 L81 → W p l e R s m args below meth c H81 L81 (3 + 2 * k) (11 + (pe - po) + 12 * k) Q (F0 m 81 ls []) := by
      intro k81
      induction k81 with
      | zero => intro k n9 F9 G9 B9 S9 ah81 ls H81 L81 hk; exact absurd hk (Nat.not_lt_zero _)
      | succ k81 ih81 =>
        intro k n9 F9 G9 B9 S9 ah81 ls H81 L81 hk81 hk1 hk2 hM81 hs81 hE81 hg81 hl hw
        have hb810 : ns ≤ cap 0 ∧ 32 ≤ cap 0 ∧ cap 0 ≤ 40000 := (hs81.2.1 0 (by omega)).2.2
        have hb811 : ns ≤ cap 1 ∧ 32 ≤ cap 1 ∧ cap 1 ≤ 40000 := (hs81.2.1 1 (by omega)).2.2
        have hb812 : ns ≤ cap 2 ∧ 32 ≤ cap 2 ∧ cap 2 ≤ 40000 := (hs81.2.1 2 (by omega)).2.2
        have hb813 : nc ≤ cap 3 ∧ 32 ≤ cap 3 ∧ cap 3 ≤ 40000 := (hs81.2.1 3 (by omega)).2.2
        have hb814 : np ≤ cap 4 ∧ 32 ≤ cap 4 ∧ cap 4 ≤ 40000 := (hs81.2.1 4 (by omega)).2.2
        have hb815 : np ≤ cap 5 ∧ 32 ≤ cap 5 ∧ cap 5 ≤ 40000 := (hs81.2.1 5 (by omega)).2.2
        have hb816 : no ≤ cap 6 ∧ 32 ≤ cap 6 ∧ cap 6 ≤ 40000 := (hs81.2.1 6 (by omega)).2.2
        refine lv_iload hx hb dX8_toRing_81 (lv_at hl 0 rfl) ?_
        refine lv_iconst (v := 1) hx hb dX8_toRing_83 (by decide) ?_
        refine lv_iadd hx hb dX8_toRing_84 ?_
        refine lv_topi (fun t_114 et_114 => ?_)
        obtain rfl : t_114 = nI (po + k + 1) := et_114.trans (nI_c _ 1)
        refine lv_iload hx hb dX8_toRing_85 (lv_at hl 2 rfl) ?_
        refine lv_icmp_ge (tgt := 168) hx hb dX8_toRing_87 (by decide) (fun c_115 => ?_) (fun c_115 => ?_)
        · skip
          have c_115 : pe ≤ po + k + 1 := (nI_lex (by rfl) (by rfl) (by omega) (by omega)).mp c_115
          refine lv_aload hx hb dX8_toRing_168 (lv_at hl 1 rfl) ?_
          rw [hQ]
          exact h_aret hx hb hr (Or.inl ⟨_, rfl⟩) hlk hsz hw (by omega) (by omega) dX8_toRing_170 ⟨(v7 q_13 b0 s0 (pe - po) n9 0 0, b4 pt rn dv_92 0, clB (f 4) (f 5) po pe, bbS (f 4) (f 5) po k, F9, G9, B9, S9), rfl, hM81.1, ⟨rfl, hdf, tr_e hg81 (by omega), by rw [show pe - 1 - po = k by omega], hM81.2.1⟩, rfl, rfl, hE81, hM81.2.2.2.1, hM81.2.2.2.2.2.1⟩
        · skip
          have c_115 : ¬ (pe ≤ po + k + 1) := (not_congr (nI_lex (by rfl) (by rfl) (by omega) (by omega))).mp c_115
          refine lv_aload_n hx hb dX8_toRing_90 rfl (lv_at hl 4 rfl) ?_
          refine lv_iload hx hb dX8_toRing_91 (lv_at hl 0 rfl) ?_
          refine lv_iload hx hb dX8_toRing_93 (lv_at hl 0 rfl) ?_
          refine lv_iconst (v := 1) hx hb dX8_toRing_95 (by decide) ?_
          refine lv_iadd hx hb dX8_toRing_96 ?_
          refine lv_topi (fun t_116 et_116 => ?_)
          obtain rfl : t_116 = nI (po + k + 1) := et_116.trans (nI_c _ 1)
          refine h_callV (n := 2) (ci := 8) (b := sh) (As := [.int (nI (po + k)), .int (nI (po + k + 1))]) (rest := []) ⟨hx, hb, hml, hown, hts⟩ hK hw (c_X8_isSame l D dT ah81 H81.size sh RO RA cap ns nc np no rc f hs81 (nI (po + k)) (nI (po + k + 1))) ko_X8_isSame km_X8_97 ki_X8_isSame ks_X8_isSame kn_X8 (by decide +kernel) rfl hs81.1 rfl hl.1 rfl (by simp [Value.category]) dX8_toRing_97 (by rw [hR]; exact ⟨rfl, rfl, Nat.le_of_ble_eq_true rfl, Nat.le_of_ble_eq_true rfl, (by simp; try omega), (by simp; try omega)⟩) (fun r_117 ah_118 H_119 L_120 st_121 hp hw hst => ?_)
          obtain ⟨hr_122, rfl⟩ := hp
          rw [show shSame f np (nI (po + k)) (nI (po + k + 1)) = smP (f 4) (f 5) (po + k) (po + k + 1) from shSame_n (by omega) (by omega) (by omega)] at hr_122
          subst hr_122
          have hst : st_121 = [.int (bI (smP (f 4) (f 5) (po + k) (po + k + 1)))] := hst
          subst hst
          refine lv_if_ne (tgt := 162) hx hb dX8_toRing_100 (by decide) (fun c_123 => ?_) (fun c_123 => ?_)
          · skip
            have c_123 : ¬ (smP (f 4) (f 5) (po + k) (po + k + 1) = false) := (not_congr bI_0).mp c_123
            refine lv_iinc (v := nI (po + k + 1)) (lv' := [(7, .int (nI (po + k + 1))), (6, .ref q_13), (5, .int (nI pe)), (4, .int (nI po)), (0, .ref sh), (1, .int (nI ch)), (2, .int pt), (3, .int rn)]) hx hb dX8_toRing_162 hl (k := 0) rfl (nI_c _ 1) (by decide) rfl (fun ls hl => ?_)
            refine lv_goto (tgt := 81) hx hb dX8_toRing_165 (by decide) ?_
            refine W.widen (k := 3 + 2 * (k + 1)) (n := 11 + (pe - po) + 12 * (k + 1)) (by omega) (by omega) ?_
            exact ih81 (k + 1) n9 F9 G9 B9 S9 ah81 ls _ _ (by omega) (by omega) (by omega) (by rw [bbS_k c_123]; exact hM81) hs81 hE81 (segs_k hg81 c_123) (lv_sub hl [0, 1, 2, 3, 4, 5, 6, 7] rfl) hw
          · skip
            have c_123 : smP (f 4) (f 5) (po + k) (po + k + 1) = false := bI_0.mp c_123
            refine lv_aload hx hb dX8_toRing_103 (lv_at hl 1 rfl) ?_
            refine h_new (ci := 7) (fs := [.null, .int 0, .int 0, .int 0, .int 0, .int 0, .null, .null]) (C := RX7) (T := TX7) (N := 8) hx hb hts kl_X7 tyX7 tyX7_ok hown (hts _ kc_X8_107) (hts _ ka_X7) (hts _ kn_X7) hK hw rfl (hdef_X7) (by rw [hR]; simp; try omega) (by rw [hR]; simp; try omega) dX8_toRing_105 (fun q_125 H_126 hqq_125 hw => ?_)
            obtain ⟨ah_127, eah_127⟩ : ∃ z9 : hA, z9 = hup ah81 q_125 (.inr (7, [.null, .int 0, .int 0, .int 0, .int 0, .int 0, .null, .null])) := ⟨_, rfl⟩
            have hw : hW D ah s.heap ah_127 H_126 L_120 := by rw [eah_127]; exact hw
            have hne_129 : sh ≠ q_125 := h_fr hs81.1 hqq_125
            have hc_128 := (show ah_127 sh = _ from (by rw [eah_127]; exact hup_n (hne_129))).trans hs81.1
            have hne_131 : RO 4 ≠ q_125 := h_fr (hs81.2.1 4 (by omega)).1 hqq_125
            have hc_130 := (show ah_127 (RO 4) = _ from (by rw [eah_127]; exact hup_n (hne_131))).trans (hs81.2.1 4 (by omega)).1
            have hne_133 : RA 4 ≠ q_125 := h_fr (hs81.2.1 4 (by omega)).2.1 hqq_125
            have hc_132 := (show ah_127 (RA 4) = _ from (by rw [eah_127]; exact hup_n (hne_133))).trans (hs81.2.1 4 (by omega)).2.1
            have hne_135 : RO 5 ≠ q_125 := h_fr (hs81.2.1 5 (by omega)).1 hqq_125
            have hc_134 := (show ah_127 (RO 5) = _ from (by rw [eah_127]; exact hup_n (hne_135))).trans (hs81.2.1 5 (by omega)).1
            have hne_137 : RA 5 ≠ q_125 := h_fr (hs81.2.1 5 (by omega)).2.1 hqq_125
            have hc_136 := (show ah_127 (RA 5) = _ from (by rw [eah_127]; exact hup_n (hne_137))).trans (hs81.2.1 5 (by omega)).2.1
            have hne_139 : q_13 ≠ q_125 := h_fr hM81.1.1 hqq_125
            have hc_138 := (show ah_127 q_13 = _ from (by rw [eah_127]; exact hup_n (hne_139))).trans hM81.1.1
            have hc_q_125 : ah_127 q_125 = some (.inr (7, [.null, .int 0, .int 0, .int 0, .int 0, .int 0, .null, .null])) := by rw [eah_127]; exact hup_s
            refine lv_dup hx hb dX8_toRing_108 rfl ?_
            refine lv_aload hx hb dX8_toRing_109 (lv_at hl 1 rfl) ?_
            refine lv_iload hx hb dX8_toRing_111 (lv_at hl 0 rfl) ?_
            refine lv_iload hx hb dX8_toRing_113 (lv_at hl 3 rfl) ?_
            refine lv_isub hx hb dX8_toRing_115 ?_
            refine lv_topi (fun t_140 et_140 => ?_)
            obtain rfl : t_140 = nI ((po + k) - po) := et_140.trans (pk_sub (by omega))
            refine lv_aload_n hx hb dX8_toRing_116 rfl (lv_at hl 4 rfl) ?_
            refine h_get (ci := 8) (v := .ref (RO 4)) (C := RX8) (T := TX8) (N := 8) hx hb hts kl_X8 hown hK hw hc_128 rfl 4 (by decide) (hts _ kf_X8_27) rfl rfl dX8_toRing_117 ?_
            refine lv_iload hx hb dX8_toRing_120 (lv_at hl 0 rfl) ?_
            refine h_callV (n := 1) (ci := 6) (b := (RO 4)) (As := [.int (nI (po + k))]) (rest := [.int (nI ((po + k) - po)), .ref q_13, .ref q_125, .ref q_125, .ref q_13]) ⟨hx, hb, hml, hown, hts⟩ hK hw (c_X6_get l D dT ah_127 H_126.size (RO 4) (RA 4) (cap 4) np (f 4) (by omega) (by omega) hc_130 hc_132 (nI (po + k))) ko_X6_get km_X8_47 ki_X6_get ks_X6_get kn_X6 (by decide +kernel) rfl hc_130 rfl hl.1 rfl (by simp [Value.category]) dX8_toRing_122 (by rw [hR]; exact ⟨rfl, rfl, Nat.le_of_ble_eq_true rfl, Nat.le_of_ble_eq_true rfl, (by simp; try omega), (by simp; try omega)⟩) (fun r_141 ah_142 H_143 L_144 st_145 hp hw hst => ?_)
            obtain ⟨hr_146, rfl⟩ := hp
            rw [show rwGet (f 4) np (nI (po + k)) = f 4 (po + k) from rwGet_n (by omega) (by omega)] at hr_146
            subst hr_146
            have hst : st_145 = [.int (f 4 (po + k)), .int (nI ((po + k) - po)), .ref q_13, .ref q_125, .ref q_125, .ref q_13] := hst
            subst hst
            refine lv_aload_n hx hb dX8_toRing_125 rfl (lv_at hl 4 rfl) ?_
            refine h_get (ci := 8) (v := .ref (RO 5)) (C := RX8) (T := TX8) (N := 8) hx hb hts kl_X8 hown hK hw hc_128 rfl 5 (by decide) (hts _ kf_X8_30) rfl rfl dX8_toRing_126 ?_
            refine lv_iload hx hb dX8_toRing_129 (lv_at hl 0 rfl) ?_
            refine h_callV (n := 1) (ci := 6) (b := (RO 5)) (As := [.int (nI (po + k))]) (rest := [.int (f 4 (po + k)), .int (nI ((po + k) - po)), .ref q_13, .ref q_125, .ref q_125, .ref q_13]) ⟨hx, hb, hml, hown, hts⟩ hK hw (c_X6_get l D dT ah_127 H_143.size (RO 5) (RA 5) (cap 5) np (f 5) (by omega) (by omega) hc_134 hc_136 (nI (po + k))) ko_X6_get km_X8_47 ki_X6_get ks_X6_get kn_X6 (by decide +kernel) rfl hc_134 rfl hl.1 rfl (by simp [Value.category]) dX8_toRing_131 (by rw [hR]; exact ⟨rfl, rfl, Nat.le_of_ble_eq_true rfl, Nat.le_of_ble_eq_true rfl, (by simp; try omega), (by simp; try omega)⟩) (fun r_147 ah_148 H_149 L_150 st_151 hp hw hst => ?_)
            obtain ⟨hr_152, rfl⟩ := hp
            rw [show rwGet (f 5) np (nI (po + k)) = f 5 (po + k) from rwGet_n (by omega) (by omega)] at hr_152
            subst hr_152
            have hst : st_151 = [.int (f 5 (po + k)), .int (f 4 (po + k)), .int (nI ((po + k) - po)), .ref q_13, .ref q_125, .ref q_125, .ref q_13] := hst
            subst hst
            refine lv_aload_n hx hb dX8_toRing_134 rfl (lv_at hl 4 rfl) ?_
            refine h_get (ci := 8) (v := .ref (RO 4)) (C := RX8) (T := TX8) (N := 8) hx hb hts kl_X8 hown hK hw hc_128 rfl 4 (by decide) (hts _ kf_X8_27) rfl rfl dX8_toRing_135 ?_
            refine lv_iload hx hb dX8_toRing_138 (lv_at hl 0 rfl) ?_
            refine lv_iconst (v := 1) hx hb dX8_toRing_140 (by decide) ?_
            refine lv_iadd hx hb dX8_toRing_141 ?_
            refine lv_topi (fun t_153 et_153 => ?_)
            obtain rfl : t_153 = nI (po + k + 1) := et_153.trans (nI_c _ 1)
            refine h_callV (n := 1) (ci := 6) (b := (RO 4)) (As := [.int (nI (po + k + 1))]) (rest := [.int (f 5 (po + k)), .int (f 4 (po + k)), .int (nI ((po + k) - po)), .ref q_13, .ref q_125, .ref q_125, .ref q_13]) ⟨hx, hb, hml, hown, hts⟩ hK hw (c_X6_get l D dT ah_127 H_149.size (RO 4) (RA 4) (cap 4) np (f 4) (by omega) (by omega) hc_130 hc_132 (nI (po + k + 1))) ko_X6_get km_X8_47 ki_X6_get ks_X6_get kn_X6 (by decide +kernel) rfl hc_130 rfl hl.1 rfl (by simp [Value.category]) dX8_toRing_142 (by rw [hR]; exact ⟨rfl, rfl, Nat.le_of_ble_eq_true rfl, Nat.le_of_ble_eq_true rfl, (by simp; try omega), (by simp; try omega)⟩) (fun r_154 ah_155 H_156 L_157 st_158 hp hw hst => ?_)
            obtain ⟨hr_159, rfl⟩ := hp
            rw [show rwGet (f 4) np (nI (po + k + 1)) = f 4 (po + k + 1) from rwGet_n (by omega) (by omega)] at hr_159
            subst hr_159
            have hst : st_158 = [.int (f 4 (po + k + 1)), .int (f 5 (po + k)), .int (f 4 (po + k)), .int (nI ((po + k) - po)), .ref q_13, .ref q_125, .ref q_125, .ref q_13] := hst
            subst hst
            refine lv_aload_n hx hb dX8_toRing_145 rfl (lv_at hl 4 rfl) ?_
            refine h_get (ci := 8) (v := .ref (RO 5)) (C := RX8) (T := TX8) (N := 8) hx hb hts kl_X8 hown hK hw hc_128 rfl 5 (by decide) (hts _ kf_X8_30) rfl rfl dX8_toRing_146 ?_
            refine lv_iload hx hb dX8_toRing_149 (lv_at hl 0 rfl) ?_
            refine lv_iconst (v := 1) hx hb dX8_toRing_151 (by decide) ?_
            refine lv_iadd hx hb dX8_toRing_152 ?_
            refine lv_topi (fun t_160 et_160 => ?_)
            obtain rfl : t_160 = nI (po + k + 1) := et_160.trans (nI_c _ 1)
            refine h_callV (n := 1) (ci := 6) (b := (RO 5)) (As := [.int (nI (po + k + 1))]) (rest := [.int (f 4 (po + k + 1)), .int (f 5 (po + k)), .int (f 4 (po + k)), .int (nI ((po + k) - po)), .ref q_13, .ref q_125, .ref q_125, .ref q_13]) ⟨hx, hb, hml, hown, hts⟩ hK hw (c_X6_get l D dT ah_127 H_156.size (RO 5) (RA 5) (cap 5) np (f 5) (by omega) (by omega) hc_134 hc_136 (nI (po + k + 1))) ko_X6_get km_X8_47 ki_X6_get ks_X6_get kn_X6 (by decide +kernel) rfl hc_134 rfl hl.1 rfl (by simp [Value.category]) dX8_toRing_153 (by rw [hR]; exact ⟨rfl, rfl, Nat.le_of_ble_eq_true rfl, Nat.le_of_ble_eq_true rfl, (by simp; try omega), (by simp; try omega)⟩) (fun r_161 ah_162 H_163 L_164 st_165 hp hw hst => ?_)
            obtain ⟨hr_166, rfl⟩ := hp
            rw [show rwGet (f 5) np (nI (po + k + 1)) = f 5 (po + k + 1) from rwGet_n (by omega) (by omega)] at hr_166
            subst hr_166
            have hst : st_165 = [.int (f 5 (po + k + 1)), .int (f 4 (po + k + 1)), .int (f 5 (po + k)), .int (f 4 (po + k)), .int (nI ((po + k) - po)), .ref q_13, .ref q_125, .ref q_125, .ref q_13] := hst
            subst hst
            refine h_callI (n := 6) (b := q_125) (As := [.ref q_13, .int (nI ((po + k) - po)), .int (f 4 (po + k)), .int (f 5 (po + k)), .int (f 4 (po + k + 1)), .int (f 5 (po + k + 1))]) (rest := [.ref q_125, .ref q_13]) ⟨hx, hb, hml, hown, hts⟩ hK hw (c_X7_init l D dT ah_127 H_163.size q_125 q_13 (nI ((po + k) - po)) (f 4 (po + k)) (f 5 (po + k)) (f 4 (po + k + 1)) (f 5 (po + k + 1)) hc_q_125) ko_X7_init km_X8_109 ki_X7_init kn_X7 rfl (by decide +kernel) rfl hl.1 rfl (by simp [Value.category]) dX8_toRing_156 (by rw [hR]; exact ⟨rfl, rfl, Nat.le_of_ble_eq_true rfl, Nat.le_of_ble_eq_true rfl, (by simp; try omega), (by simp; try omega)⟩) (fun r_167 ah_168 H_169 L_170 st_171 hp hw hst => ?_)
            obtain ⟨rfl, qb, hqb, hqbg, hcqb, hcg, hfr7⟩ := hp
            have hx1 : ext ah81 ah_127 := by rw [eah_127]; exact ext_new hqq_125
            have hx2 : ext ah81 ah_168 := fun a9 e9 h9 => (hfr7 a9 (h_fr h9 hqq_125) (h_fr (hx1 a9 e9 h9) hqb)).trans (hx1 a9 e9 h9)
            have hM2 := rgM_ext hx2 hM81
            have hs2 := shA_ext hx2 hs81
            have hst : st_171 = [.ref q_125, .ref q_13] := hst
            subst hst
            refine h_callV (n := 1) (ci := 5) (b := q_13) (As := [.ref q_125]) (rest := []) ⟨hx, hb, hml, hown, hts⟩ hK hw (c_X5_add l D dT ah_168 H_169.size q_13 b0 s0 (pe - po) n9 pt rn dv_92 (clB (f 4) (f 5) po pe) (bbS (f 4) (f 5) po k) F9 G9 B9 S9 hM2.1 q_125 qb (sgv (f 4) (f 5) po k) (by omega) (fun i hi => h_fr (hM81.1.2.2.2.2.2 i hi).2.1 hqq_125) (h_fr (hx1 _ _ hM81.1.2.1) hqb).symm hcg hcqb) ko_X5_add km_X8_112 ki_X5_add ks_X5_add kn_X5 (by decide +kernel) rfl hM2.1.1 rfl hl.1 rfl (by simp [Value.category]) dX8_toRing_159 (by rw [hR]; exact ⟨rfl, rfl, Nat.le_of_ble_eq_true rfl, Nat.le_of_ble_eq_true rfl, (by simp; try omega), (by simp; try omega)⟩) (fun r_172 ah_173 H_174 L_175 st_176 hp hw hst => ?_)
            obtain ⟨rfl, a51, a52, a53, a54, a55, a56⟩ := hp
            obtain ⟨hM3, hk3, hx3⟩ := rgM_add (T := sgv (f 4) (f 5) po k) hM2 (ext_n hE81 hqq_125) (fun i hi => h_fr (hM81.1.2.2.2.2.2 i hi).2.1 hqq_125) (h_fr (hx1 _ _ hM81.1.2.1) hqb).symm (by omega) hcqb hcg a51 a52 a53 a54 a55 a56
            have hs3 := shA_kp hk3 hs2
            have hE3 : ext ah ah_173 := fun a9 e9 h9 => hx3 a9 e9 h9 (hx2 a9 e9 (hE81 a9 e9 h9))
            have hst : st_176 = [] := hst
            subst hst
            refine lv_iinc (v := nI (po + k + 1)) (lv' := [(7, .int (nI (po + k + 1))), (6, .ref q_13), (5, .int (nI pe)), (4, .int (nI po)), (0, .ref sh), (1, .int (nI ch)), (2, .int pt), (3, .int rn)]) hx hb dX8_toRing_162 hl (k := 0) rfl (nI_c _ 1) (by decide) rfl (fun ls hl => ?_)
            refine lv_goto (tgt := 81) hx hb dX8_toRing_165 (by decide) ?_
            refine W.widen (k := 3 + 2 * (k + 1)) (n := 11 + (pe - po) + 12 * (k + 1)) (by omega) (by omega) ?_
            exact ih81 (k + 1) (n9 + 1) (va_up F9 n9 (some q_125)) (va_up G9 n9 q_125) (va_up B9 n9 qb) (va_up S9 n9 (sgv (f 4) (f 5) po k)) ah_173 ls _ _ (by omega) (by omega) (by omega) (by rw [bbS_a c_123]; exact hM3) hs3 hE3 (segs_a hg81 c_123) (lv_sub hl [0, 1, 2, 3, 4, 5, 6, 7] rfl) hw
    refine W.widen (k := 3 + 2 * 0) (n := 11 + (pe - po) + 12 * 0) (by omega) (by omega) ?_
    exact LP81 ((pe - po - 0) + 1) 0 0 (fun _ => none) (fun _ => 0) (fun _ => 0) (fun _ _ => 0) ah_95 ls _ _ (Nat.lt_succ_self _) (by omega) (by omega) hM77 hs77 hE77 segs_0 (lv_sub hl [0, 1, 2, 3, 4, 5, 6, 7] rfl) hw
  refine lv_icmp_ge (tgt := 63) hx hb dX8_toRing_43 (by decide) (fun c_53 => ?_) (fun c_53 => ?_)
  · skip
    have c_53 : pe ≤ po := (nI_lex (by rfl) (by rfl) (by omega) (by omega)).mp c_53
    refine lv_iconst (v := 0) hx hb dX8_toRing_63 (by decide) ?_
    exact J_65 0 ls _ _ (lv_sub hl [0, 1, 2, 3, 4, 5, 6] rfl) hw (by rw [if_pos c_53])
  · skip
    have c_53 : ¬ (pe ≤ po) := (not_congr (nI_lex (by rfl) (by rfl) (by omega) (by omega))).mp c_53
    refine lv_aload_n hx hb dX8_toRing_46 rfl (lv_at hl 3 rfl) ?_
    refine lv_iload hx hb dX8_toRing_47 (lv_at hl 2 rfl) ?_
    refine lv_iload hx hb dX8_toRing_49 (lv_at hl 1 rfl) ?_
    refine lv_iconst (v := 1) hx hb dX8_toRing_51 (by decide) ?_
    refine lv_isub hx hb dX8_toRing_52 ?_
    refine lv_topi (fun t_54 et_54 => ?_)
    obtain rfl : t_54 = nI (pe - 1) := et_54.trans (nI_s _ 1 (by omega))
    refine h_callV (n := 2) (ci := 8) (b := sh) (As := [.int (nI po), .int (nI (pe - 1))]) (rest := [.ref q_13]) ⟨hx, hb, hml, hown, hts⟩ hK hw (c_X8_isSame l D dT ah_49 H_50.size sh RO RA cap ns nc np no rc f hs1 (nI po) (nI (pe - 1))) ko_X8_isSame km_X8_97 ki_X8_isSame ks_X8_isSame kn_X8 (by decide +kernel) rfl hs1.1 rfl hl.1 rfl (by simp [Value.category]) dX8_toRing_53 (by rw [hR]; exact ⟨rfl, rfl, Nat.le_of_ble_eq_true rfl, Nat.le_of_ble_eq_true rfl, (by simp; try omega), (by simp; try omega)⟩) (fun r_55 ah_56 H_57 L_58 st_59 hp hw hst => ?_)
    obtain ⟨hr_60, rfl⟩ := hp
    rw [show shSame f np (nI po) (nI (pe - 1)) = smP (f 4) (f 5) po (pe - 1) from shSame_n (by omega) (by omega) (by omega)] at hr_60
    subst hr_60
    have hst : st_59 = [.int (bI (smP (f 4) (f 5) po (pe - 1))), .ref q_13] := hst
    subst hst
    refine lv_if_eq (tgt := 63) hx hb dX8_toRing_56 (by decide) (fun c_61 => ?_) (fun c_61 => ?_)
    · skip
      have c_61 : smP (f 4) (f 5) po (pe - 1) = false := bI_0.mp c_61
      refine lv_iconst (v := 0) hx hb dX8_toRing_63 (by decide) ?_
      exact J_65 0 ls _ _ (lv_sub hl [0, 1, 2, 3, 4, 5, 6] rfl) hw (by rw [if_neg c_53, if_pos c_61])
    · skip
      have c_61 : ¬ (smP (f 4) (f 5) po (pe - 1) = false) := (not_congr bI_0).mp c_61
      refine lv_iconst (v := 1) hx hb dX8_toRing_59 (by decide) ?_
      refine lv_goto (tgt := 64) hx hb dX8_toRing_60 (by decide) ?_
      exact J_65 1 ls _ _ (lv_sub hl [0, 1, 2, 3, 4, 5, 6] rfl) hw (by rw [if_neg c_53, if_neg c_61])
